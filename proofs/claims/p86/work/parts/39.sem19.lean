section SEM19
variable {a a' s s' : Nat} {f g : Nat → Int32}
theorem rng_max {D x y : Int32} (hx : rng x D.toNatClampNeg) (hy : rng y D.toNatClampNeg) (c : Prop) [Decidable c] : rng (if c then x else y) D.toNatClampNeg := by
  split
  · exact hx
  · exact hy
theorem I_merge (hI : Inv a s f) {x y : Nat} (hx : x < mo f) (hy : y < mo f) (hxy : ¬ x = y) (hJ : canJ f x y) : Inv a s (mergeF f x y) := by
  have hE := hI.ent x hx
  have hD := hI.ent y hy
  have hlo : ∀ k, k < 118 → mgF f x y k = f k := fun k hk => mg_at f (by omega)
  have hmo : mo (mgF f x y) = mo f := mo_c (hlo _ (by decide))
  have ho : ∀ z q, ¬ z = x → q < 8 → en (mgF f x y) z q = en f z q := fun z q hz hq => mg_at f (by omega)
  have q2 : en (mgF f x y) x 2 = en f x 2 + en f y 2 := by
    unfold mgF
    rw [en_ot _ _ (by decide) (by decide) (by decide), en_ot _ _ (by decide) (by decide) (by decide), en_ot _ _ (by decide) (by decide) (by decide)]
    exact en_up_e _ x 2 _
  have q3 : en (mgF f x y) x 3 = en f x 3 + en f y 3 := by
    unfold mgF
    rw [en_ot _ _ (by decide) (by decide) (by decide), en_ot _ _ (by decide) (by decide) (by decide)]
    exact en_up_e _ x 3 _
  have q5 : en (mgF f x y) x 5 = mgA f x y := by
    unfold mgF
    rw [en_ot _ _ (by decide) (by decide) (by decide)]
    exact en_up_e _ x 5 _
  have q6 : en (mgF f x y) x 6 = mgW f x y := by
    unfold mgF
    exact en_up_e _ x 6 _
  have qo : ∀ q, q < 8 → ¬ q = 2 → ¬ q = 3 → ¬ q = 5 → ¬ q = 6 → en (mgF f x y) x q = en f x q := fun q hq h2 h3 h5 h6 => by
    unfold mgF
    rw [en_ot _ _ hq (by decide) h6, en_ot _ _ hq (by decide) h5, en_ot _ _ hq (by decide) h3, en_ot _ _ hq (by decide) h2]
  have s2 := add_r hE.2.1 hD.2.1 (by decide)
  have s3 := add_r hE.2.2.2.1 hD.2.2.2.1 (by decide)
  have h999 : (en f x 2 + en f y 2).toNatClampNeg ≤ 999 := by
    have h := hJ.2.2.2.2.2
    have h1 := s2.1
    rw [h1.1, Int32.lt_iff_toInt_lt, nI_toInt (by have := h1.2; omega)] at h
    have e : (999 : Int32).toInt = 999 := rfl
    rw [e] at h
    omega
  have hgs : gv f x + gv f y ≤ gs f (mo f) := gs_two hxy hx hy
  have hp := pot_le hI
  have hgv : gv (mgF f x y) x = gv f x + gv f y := by
    unfold gv
    rw [q2, q3, s2.2, s3.2]
    omega
  have hX : EI (mgF f x y) x := by
    unfold EI
    rw [hlo 0 (by decide), q2, q3, q5, q6, qo 1 (by decide) (by decide) (by decide) (by decide) (by decide), qo 4 (by decide) (by decide) (by decide) (by decide) (by decide), qo 7 (by decide) (by decide) (by decide) (by decide) (by decide)]
    refine ⟨hE.1, ⟨s2.1.1, h999⟩, by rw [s2.2]; have := hE.2.2.1; omega, ⟨s3.1.1, ?_⟩, hE.2.2.2.2.1, rng_max hD.2.2.2.2.2.1 hE.2.2.2.2.2.1 _, rng_max hD.2.2.2.2.2.2.1 hE.2.2.2.2.2.2.1 _, hE.2.2.2.2.2.2.2⟩
    rw [s3.2]
    unfold gv at hgs
    omega
  unfold mergeF
  refine (hI.iw.close hy _ hlo (fun z hz hn => ?_)).inv (n := (f 4).toNatClampNeg) ⟨?_, ?_⟩ hI.bnd
  · by_cases w : z = x
    · subst w; exact hX
    · exact (hI.ent z hz).c' (hlo 0 (by decide)) (fun q _ hq => ho z q w hq)
  · rw [close_lo _ _ (by decide), hlo _ (by decide)]
    exact hI.debt.1
  · have h1 := gs_closed (f := mgF f x y) (e := y) (by rw [hlo _ (by decide)]; exact hI.opn) (by omega)
    have h2 := gs_one (f := f) (g := mgF f x y) (n := mo f) hx (fun z _ hz => gv_c (fun q _ hq => ho z q hz hq))
    have h3 : gv (mgF f x y) y = gv f y := gv_c (fun q _ hq => ho y q (fun z => hxy z.symm) hq)
    rw [close_lo _ _ (by decide), hlo _ (by decide)]
    rw [hmo] at h1
    have := hI.pot
    omega
theorem charge_r (hI : Inv a s f) {e : Nat} {L w : Int32} (he : e < mo f) (hw : rng w (en f e 2).toNatClampNeg) (hL : rng L w.toNatClampNeg) : rng (chargeF f e L) 880000 ∧ (chargeF f e L).toNatClampNeg ≤ 12 * ((shareF f e w).toNatClampNeg + w.toNatClampNeg) := by
  have hE := hI.ent e he
  have hs := share_r hE hw
  have hle := hw.2
  have hl2 := hL.2
  by_cases z : L.toNatClampNeg = 0
  · have : L = 0 := by rw [hL.1, z]; rfl
    rw [this]
    unfold chargeF
    rw [dutyP0 hE]
    refine ⟨?_, ?_⟩
    · split
      · exact rng_of (n := 0) (by decide) (by decide)
      · exact rng_of (n := 0) (by decide) (by decide)
    · split
      · exact Nat.zero_le _
      · exact Nat.zero_le _
  · obtain ⟨n, h1, h2, h3⟩ := dutyP_rng hI he (show L.toNatClampNeg ≤ (en f e 2).toNatClampNeg by omega)
    rw [← hL.1] at h2
    have hdiv : (en f e 3).toNatClampNeg * L.toNatClampNeg / (en f e 2).toNatClampNeg ≤ (en f e 3).toNatClampNeg * w.toNatClampNeg / (en f e 2).toNatClampNeg := Nat.div_le_div_right (Nat.mul_le_mul_left _ hl2)
    rw [← hs.2] at hdiv
    unfold chargeF
    rw [h2]
    split
    · rw [show (2 : Int32) = nI 2 from rfl, pk_mul]
      refine ⟨rng_of (by omega) (by decide), ?_⟩
      rw [rs_tn (by omega)]
      omega
    · refine ⟨rng_of (by omega) (by decide), ?_⟩
      rw [rs_tn (by omega)]
      omega
theorem min_r {x y : Int32} {b c : Nat} (hx : rng x b) (hb : b < 2147483648) (hy : rng y c) (hc : c < 2147483648) : rng (if x < y then x else y) x.toNatClampNeg ∧ rng (if x < y then x else y) y.toNatClampNeg := by
  have h1 := hx.2
  have h2 := hy.2
  have hi : (x < y) ↔ x.toNatClampNeg < y.toNatClampNeg := by
    have := nI_ltI (a := x.toNatClampNeg) (b := y.toNatClampNeg) (by omega) (by omega)
    rw [← hx.1, ← hy.1] at this
    exact this
  by_cases z : x < y
  · rw [if_pos z]
    have := hi.mp z
    exact ⟨⟨hx.1, Nat.le_refl _⟩, ⟨hx.1, by omega⟩⟩
  · rw [if_neg z]
    have := mt hi.mpr z
    exact ⟨⟨hy.1, by omega⟩, ⟨hy.1, Nat.le_refl _⟩⟩
theorem I_weigh (hI : Inv a s f) {e : Nat} {w : Int32} (he : e < mo f) (hw : rng w (en f e 2).toNatClampNeg) : Inv a s (weighF f e w) := by
  have hE := hI.ent e he
  have hk := hE.k.2
  have hb := hI.bnd
  have hgo := sub_r hE.2.1 (by decide) hw
  have hgw : rng (en f e 2 - w) (en f e 2).toNatClampNeg := ⟨hgo.1.1, by rw [hgo.2]; omega⟩
  have hL := loss_rng hI he hw
  have hC := charge_r hI he hgw (L := lossF f e w) (by rw [hgo.2]; exact hL)
  have hP := min_r hC.1 (by decide) hI.acct (by omega)
  have hs := share_r hE hgw
  unfold weighF wgF
  show Inv a s (goesF (up (up (totF (totF (up (up (up f 3 (f 3 - (if chargeF f e (lossF f e w) < f 3 then chargeF f e (lossF f e w) else f 3))) 4 (f 4 + (chargeF f e (lossF f e w) - (if chargeF f e (lossF f e w) < f 3 then chargeF f e (lossF f e w) else f 3)))) 8 (f 8 + chargeF f e (lossF f e w))) (knd f e) 3 (en f e 2 - w - lossF f e w)) (knd f e) 4 (lossF f e w)) (118 + 8 * e + 7) 1) (118 + 8 * e + 6) 0) e (en f e 2 - w))
  generalize lossF f e w = L at *
  generalize chargeF f e L = x at *
  generalize (if x < f 3 then x else f 3) = p at *
  generalize hgg : up (up (totF (totF (up (up (up f 3 (f 3 - p)) 4 (f 4 + (x - p))) 8 (f 8 + x)) (knd f e) 3 (en f e 2 - w - L)) (knd f e) 4 L) (118 + 8 * e + 7) 1) (118 + 8 * e + 6) 0 = g
  have e3 : ∀ j, (j < 32 ∧ ¬ j = 3 ∧ ¬ j = 4 ∧ ¬ j = 8) ∨ 67 < j → ¬ j = 118 + 8 * e + 6 → ¬ j = 118 + 8 * e + 7 → g j = f j := fun j hj h6 h7 => by
    rw [← hgg, up_ne _ _ h6, up_ne _ _ h7, tot_o _ _ hk (by decide) (by omega), tot_o _ _ hk (by decide) (by omega), up_ne _ _ (by omega), up_ne _ _ (by omega), up_ne _ _ (by omega)]
  have e33 : g 3 = f 3 - p := by
    rw [← hgg, up_ne _ _ (by omega), up_ne _ _ (by omega), tot_o _ _ hk (by decide) (by omega), tot_o _ _ hk (by decide) (by omega), up_ne _ _ (by decide), up_ne _ _ (by decide), up_eq]
  have e34 : g 4 = f 4 + (x - p) := by
    rw [← hgg, up_ne _ _ (by omega), up_ne _ _ (by omega), tot_o _ _ hk (by decide) (by omega), tot_o _ _ hk (by decide) (by omega), up_ne _ _ (by decide), up_eq]
  have e36 : en g e 6 = 0 := by rw [← hgg]; exact en_up_e _ e 6 _
  have e37 : en g e 7 = 1 := by rw [← hgg, en_ot _ _ (by decide) (by decide) (by decide)]; exact en_up_e _ e 7 _
  have eo : ∀ z q, ¬ z = e → q < 8 → en g z q = en f z q := fun z q hz hq => e3 _ (by omega) (by omega) (by omega)
  have eq' : ∀ q, q < 6 → en g e q = en f e q := fun q hq => e3 _ (by omega) (by omega) (by omega)
  have ha := sub_r hI.acct (by omega) hP.2
  have hd := sub_r hC.1 (by decide) hP.1
  have hdd := add_r hI.debt hd.1 (by decide)
  obtain ⟨a1, a2, a3, a4, a5, a6, a7, a8, a9, a10, a11⟩ := hI.iw
  have e117 : g 117 = f 117 := e3 _ (by decide) (by omega) (by omega)
  have hG : Iw a s g := by
    refine ⟨by rw [e3 _ (by decide) (by omega) (by omega)]; exact a1, by rw [e3 _ (by decide) (by omega) (by omega)]; exact a2, by rw [e3 _ (by decide) (by omega) (by omega)]; exact a3, by rw [e33]; exact ha.1, by rw [e3 _ (by decide) (by omega) (by omega)]; exact a5, by rw [e3 _ (by decide) (by omega) (by omega)]; exact a6, by rw [e117]; exact a7, fun c hc => ?_, fun k hk => ?_, fun z hz => ?_, fun r hr => ?_⟩
    · rw [e3 (10 + c) (by omega) (by omega) (by omega), e3 (15 + c) (by omega) (by omega) (by omega), e3 2 (by decide) (by omega) (by omega)]
      exact a8 c hc
    · rw [e3 (20 + k) (by omega) (by omega) (by omega), e3 (26 + k) (by omega) (by omega) (by omega)]
      exact a9 k hk
    · rw [mo_c e117] at hz
      have e0 : g 0 = f 0 := e3 0 (by decide) (by omega) (by omega)
      by_cases y : z = e
      · subst y
        unfold EI
        rw [e36, e37, e0, eq' 1 (by decide), eq' 2 (by decide), eq' 3 (by decide), eq' 4 (by decide), eq' 5 (by decide)]
        exact ⟨hE.1, hE.2.1, hE.2.2.1, hE.2.2.2.1, hE.2.2.2.2.1, hE.2.2.2.2.2.1, rng_of (n := 0) (Nat.zero_le _) (by have := a1.2; omega), rng_of (n := 1) (by decide) (by decide)⟩
      · exact (a10 z hz).c' e0 (fun q _ hq => eo z q y hq)
    · have h12 := hI.mr12
      rw [mr_c (e3 68 (by decide) (by omega) (by omega))] at hr
      exact (a11 r hr).c' (fun q hq => e3 _ (by omega) (by omega) (by omega))
  have hwg : rng (en f e 2 - w) (en g e 2).toNatClampNeg := by rw [eq' 2 (by decide)]; exact hgw
  have hmo : mo g = mo f := mo_c e117
  have hsh : shareF g e (en f e 2 - w) = shareF f e (en f e 2 - w) := by
    unfold shareF
    rw [eq' 2 (by decide), eq' 3 (by decide)]
  have hgs := gs_goes hG.2.2.2.2.2.2.1 (show e < mo g by omega) (hG.2.2.2.2.2.2.2.2.2.1 e (by omega)) hwg
  have hss : gs g (mo g) = gs f (mo f) := gs_same e117 (fun z q hz h1 hq => by
    by_cases y : z = e
    · subst y; exact eq' q (by omega)
    · exact eo z q y (by omega))
  rw [hsh, hss] at hgs
  refine (hG.goes (e := e) (by omega) hwg).inv (n := (f 4 + (x - p)).toNatClampNeg) ⟨?_, ?_⟩ hb
  · rw [goes_lo _ _ _ (by decide), e34]
    exact hdd.1.1
  · rw [goes_lo _ _ _ (by decide), e3 1 (by decide) (by omega) (by omega), hdd.2, hd.2]
    have := hI.pot
    have := hC.2
    omega
theorem I_lock (hI : Inv a s f) {c : Nat} (hc : c < 5) (hb : s + 1 < 1000000) : Inv a (s + 1) (lockF f c) := by
  have h2 := add_r (y := 1) (c := 1) hI.seals (rng_of (n := 1) (by decide) (by decide)) (by omega)
  unfold lockF
  have e2 : up (up (up f 2 (f 2 + 1)) (10 + c) (f 2 + 1)) (15 + c) 0 2 = f 2 + 1 := by rw [up_ne _ _ (by omega), up_ne _ _ (by omega), up_eq]
  have ec : up (up (up f 2 (f 2 + 1)) (10 + c) (f 2 + 1)) (15 + c) 0 (10 + c) = f 2 + 1 := by rw [up_ne _ _ (by omega), up_eq]
  have eb : up (up (up f 2 (f 2 + 1)) (10 + c) (f 2 + 1)) (15 + c) 0 (15 + c) = 0 := up_eq _ _ _
  have eo : ∀ j, ¬ j = 2 → ¬ j = 10 + c → ¬ j = 15 + c → up (up (up f 2 (f 2 + 1)) (10 + c) (f 2 + 1)) (15 + c) 0 j = f j := fun j h1 h2 h3 => by rw [up_ne _ _ h3, up_ne _ _ h2, up_ne _ _ h1]
  generalize up (up (up f 2 (f 2 + 1)) (10 + c) (f 2 + 1)) (15 + c) 0 = g at *
  obtain ⟨a1, a2, a3, a4, a5, a6, a7, a8, a9, a10, a11⟩ := hI.iw
  have h12 := hI.mr12
  refine I_same hI ⟨by rw [eo _ (by decide) (by omega) (by omega)]; exact a1, by rw [eo _ (by decide) (by omega) (by omega)]; exact a2, by rw [e2]; exact h2.1, by rw [eo _ (by decide) (by omega) (by omega)]; exact a4, by rw [eo _ (by decide) (by omega) (by omega)]; exact a5, by rw [eo _ (by decide) (by omega) (by omega)]; exact a6, by rw [eo _ (by decide) (by omega) (by omega)]; exact a7, fun d hd => ?_, fun k hk => ?_, fun z hz => ?_, fun r hr => ?_⟩ ⟨hI.bnd.1, hb⟩ (eo _ (by decide) (by omega) (by omega)) (eo _ (by decide) (by omega) (by omega)) (eo _ (by decide) (by omega) (by omega)) (fun z q _ _ _ => eo _ (by omega) (by omega) (by omega))
  · rw [e2]
    by_cases y : d = c
    · subst y
      rw [ec, eb]
      exact ⟨⟨h2.1.1, Nat.le_refl _⟩, rng_of (n := 0) (by decide) (by decide), fun _ => rfl⟩
    · rw [eo (10 + d) (by omega) (by omega) (by omega), eo (15 + d) (by omega) (by omega) (by omega)]
      exact ⟨(a8 d hd).1.mono (by rw [h2.2]; omega), (a8 d hd).2⟩
  · rw [eo (20 + k) (by omega) (by omega) (by omega), eo (26 + k) (by omega) (by omega) (by omega)]
    exact a9 k hk
  · rw [mo_c (eo _ (by decide) (by omega) (by omega))] at hz
    exact (a10 z hz).c' (eo _ (by decide) (by omega) (by omega)) (fun q _ hq => eo _ (by omega) (by omega) (by omega))
  · rw [mr_c (eo _ (by decide) (by omega) (by omega))] at hr
    exact (a11 r hr).c' (fun q hq => eo _ (by omega) (by omega) (by omega))
/-- the seals of chamber c change, entries at 7 may be struck -/
theorem I_ch (hI : Inv a s f) {c : Nat} (hc : c < 5) (eo : ∀ j, j < 118 → ¬ j = 10 + c → ¬ j = 15 + c → g j = f j) (h1 : rng (g (10 + c)) (f 2).toNatClampNeg) (h2 : rng (g (15 + c)) 1) (h3 : g (10 + c) ≤ 0 → g (15 + c) = 0) (hen : ∀ e q, e < mo f → 1 ≤ q → q < 7 → en g e q = en f e q) (he7 : ∀ e, e < mo f → rng (en g e 7) 1) : Inv a s g := by
  obtain ⟨a1, a2, a3, a4, a5, a6, a7, a8, a9, a10, a11⟩ := hI.iw
  have h12 := hI.mr12
  have e0 : g 0 = f 0 := eo _ (by decide) (by omega) (by omega)
  refine I_same hI ⟨by rw [eo _ (by decide) (by omega) (by omega)]; exact a1, by rw [eo _ (by decide) (by omega) (by omega)]; exact a2, by rw [eo _ (by decide) (by omega) (by omega)]; exact a3, by rw [eo _ (by decide) (by omega) (by omega)]; exact a4, by rw [eo _ (by decide) (by omega) (by omega)]; exact a5, by rw [eo _ (by decide) (by omega) (by omega)]; exact a6, by rw [eo _ (by decide) (by omega) (by omega)]; exact a7, fun d hd => ?_, fun k hk => ?_, fun z hz => ?_, fun r hr => ?_⟩ hI.bnd (eo _ (by decide) (by omega) (by omega)) (eo _ (by decide) (by omega) (by omega)) (eo _ (by decide) (by omega) (by omega)) (fun z q h1 h2 h3 => hen z q h1 h2 (by omega))
  · rw [eo 2 (by decide) (by omega) (by omega)]
    by_cases y : d = c
    · subst y
      exact ⟨h1, h2, h3⟩
    · rw [eo (10 + d) (by omega) (by omega) (by omega), eo (15 + d) (by omega) (by omega) (by omega)]
      exact a8 d hd
  · rw [eo (20 + k) (by omega) (by omega) (by omega), eo (26 + k) (by omega) (by omega) (by omega)]
    exact a9 k hk
  · rw [mo_c (eo _ (by decide) (by omega) (by omega))] at hz
    have hE := a10 z hz
    unfold EI
    rw [e0, hen z 1 hz (by decide) (by decide), hen z 2 hz (by decide) (by decide), hen z 3 hz (by decide) (by decide), hen z 4 hz (by decide) (by decide), hen z 5 hz (by decide) (by decide), hen z 6 hz (by decide) (by decide)]
    exact ⟨hE.1, hE.2.1, hE.2.2.1, hE.2.2.2.1, hE.2.2.2.2.1, hE.2.2.2.2.2.1, hE.2.2.2.2.2.2.1, he7 z hz⟩
  · rw [mr_c (eo _ (by decide) (by omega) (by omega))] at hr
    exact (a11 r hr).c' (fun q hq => eo _ (by omega) (by omega) (by omega))
theorem I_break (hI : Inv a s f) {c : Nat} (hc : c < 5) (h : ¬ f (10 + c) ≤ 0) : Inv a s (breakF f c) := by
  have e1 : ∀ j, ¬ j = 15 + c → breakF f c j = f j := fun j h => up_ne _ _ h
  refine I_ch hI hc (fun j _ _ h2 => e1 j h2) (by rw [e1 _ (by omega)]; exact (hI.cham c hc).1) ?_ (fun z => absurd (by rw [← e1 (10 + c) (by omega)]; exact z) h) (fun e q _ _ _ => e1 _ (by omega)) (fun e he => ?_)
  · show rng (up f (15 + c) 1 (15 + c)) 1
    rw [up_eq]
    exact rng_of (n := 1) (by decide) (by decide)
  · have : en (breakF f c) e 7 = en f e 7 := e1 _ (by omega)
    rw [this]
    exact (hI.ent e he).2.2.2.2.2.2.2
theorem op7 (f : Nat → Int32) (c : Nat) : ∀ j k, (opC f c j).2 k = f k ∨ (opC f c j).2 k = 0 := by
  intro j
  induction j with
  | zero => intro k; exact Or.inl rfl
  | succ j ih =>
    intro k
    have hC : opC f c (j + 1) = opG (decide (f (15 + c) = 1)) (nI c) j (opC f c j) := rfl
    rw [hC]
    generalize opC f c j = z at ih ⊢
    by_cases h : en z.2 j 4 = nI c
    · rw [opG_pos h]
      show up z.2 _ _ k = _ ∨ up z.2 _ _ k = 0
      by_cases y : k = 118 + 8 * j + 7
      · subst y
        rw [up_eq]
        unfold opV
        split
        · exact Or.inr rfl
        · exact ih _
      · rw [up_ne _ _ y]
        exact ih k
    · rw [opG_neg h]
      exact ih k
theorem I_op (hI : Inv a s f) {c : Nat} (hc : c < 5) : Inv a s (opF f c).2 := by
  have hcl : opF f c = ((opC f c (mo f)).1, up (up (opC f c (mo f)).2 (10 + c) 0) (15 + c) 0) := opL_C f hc (mo f)
  rw [hcl]
  show Inv a s (up (up (opC f c (mo f)).2 (10 + c) 0) (15 + c) 0)
  have e1 : ∀ j, ¬ j = 10 + c → ¬ j = 15 + c → up (up (opC f c (mo f)).2 (10 + c) 0) (15 + c) 0 j = (opC f c (mo f)).2 j := fun j h1 h2 => by rw [up_ne _ _ h2, up_ne _ _ h1]
  refine I_ch hI hc (fun j hj h1 h2 => (e1 j h1 h2).trans (opC_at f c (fun ⟨e, h1, h2⟩ => by omega))) ?_ ?_ (fun _ => up_eq _ _ _) (fun e q he h1 hq => (e1 _ (by omega) (by omega)).trans (opC_at f c (fun ⟨e, h1, h2⟩ => by omega))) (fun e he => ?_)
  · rw [up_ne _ _ (by omega), up_eq]
    exact rng_of (n := 0) (Nat.zero_le _) (by have := hI.seals.2; have := hI.bnd; omega)
  · rw [up_eq]
    exact rng_of (n := 0) (Nat.zero_le _) (by decide)
  · have : en (up (up (opC f c (mo f)).2 (10 + c) 0) (15 + c) 0) e 7 = (opC f c (mo f)).2 (118 + 8 * e + 7) := e1 _ (by omega) (by omega)
    rw [this]
    rcases op7 f c (mo f) (118 + 8 * e + 7) with h | h
    · rw [h]
      exact (hI.ent e he).2.2.2.2.2.2.2
    · rw [h]
      exact rng_of (n := 0) (Nat.zero_le _) (by decide)
theorem pay_r (hI : Inv a s f) {x : Int32} (hx : 1 ≤ x ∧ x ≤ 9999) : rng (pyP f x) (f 4).toNatClampNeg ∧ rng (afterF f x) (a + 9999) := by
  have hb := hI.bnd
  have hxr := (rngw 9999 (by decide) hx.1 hx.2).1
  have hP := min_r hxr (by decide) hI.debt (by decide)
  have hd := sub_r hxr (by decide) hP.1
  have hA := add_r hI.acct hd.1 (by omega)
  rw [← after_eq]
  exact ⟨hP.2, hA.1⟩
theorem I_pay (hI : Inv a s f) {x : Int32} (hx : 1 ≤ x ∧ x ≤ 9999) (h : afterF f x ≤ 99999) (ha : 99999 ≤ a) : Inv a s (payF f x) := by
  have hb := hI.bnd
  have hr := pay_r hI hx
  have h3 : rng (afterF f x) a := by
    refine (rng_io (b := 99999) (by decide) ?_ h).mono ha
    exact Int32.not_lt.mp (hr.2.nn (by omega))
  have h4 := sub_r hI.debt (by decide) hr.1
  unfold payF
  rw [after_eq]
  have e3 : up (up (up f 4 (f 4 - pyP f x)) 3 (afterF f x)) 6 (f 6 + x) 3 = afterF f x := by rw [up_ne _ _ (by decide), up_eq]
  have e4 : up (up (up f 4 (f 4 - pyP f x)) 3 (afterF f x)) 6 (f 6 + x) 4 = f 4 - pyP f x := by rw [up_ne _ _ (by decide), up_ne _ _ (by decide), up_eq]
  have eo : ∀ j, ¬ j = 3 → ¬ j = 4 → ¬ j = 6 → up (up (up f 4 (f 4 - pyP f x)) 3 (afterF f x)) 6 (f 6 + x) j = f j := fun j h1 h2 h3 => by rw [up_ne _ _ h3, up_ne _ _ h1, up_ne _ _ h2]
  refine (hI.iw.free (a' := a) (fun k hk => eo k (by omega) (by omega) (by omega)) (by rw [e3]; exact h3)).inv (n := (f 4 - pyP f x).toNatClampNeg) ⟨by rw [e4]; exact h4.1.1, ?_⟩ hb
  rw [gs_same (f := f) (eo _ (by decide) (by decide) (by decide)) (fun e q _ _ _ => eo _ (by omega) (by omega) (by omega)), eo 1 (by decide) (by decide) (by decide), h4.2]
  have := hI.pot
  omega
theorem I_bond (hI : Inv a s f) {x : Int32} (hx : 0 ≤ x ∧ x ≤ 50000) : Inv a s (up f 5 x) := by
  obtain ⟨a1, a2, a3, a4, a5, a6, a7, a8, a9, a10, a11⟩ := hI.iw
  have eo : ∀ j, ¬ j = 5 → up f 5 x j = f j := fun j h => up_ne _ _ h
  refine I_same hI ⟨a1, a2, a3, a4, rng_lit 50000 (by decide) hx, a6, a7, fun c hc => ?_, fun k hk => ?_, fun e he => ?_, fun r hr => ?_⟩ hI.bnd rfl rfl rfl (fun e q _ _ _ => eo _ (by omega))
  · rw [eo (10 + c) (by omega), eo (15 + c) (by omega), eo 2 (by decide)]
    exact a8 c hc
  · rw [eo (20 + k) (by omega), eo (26 + k) (by omega)]
    exact a9 k hk
  · exact (a10 e he).c' rfl (fun q _ hq => eo _ (by omega))
  · exact (a11 r hr).c' (fun q hq => eo _ (by omega))
theorem I_rate (hI : Inv a s f) {k : Nat} {x : Int32} (hk : 20 ≤ k ∧ k < 32) (h1 : k < 26 → rng x 60) (h2 : 26 ≤ k → rng x 80) : Inv a s (up f k x) := by
  obtain ⟨a1, a2, a3, a4, a5, a6, a7, a8, a9, a10, a11⟩ := hI.iw
  have eo : ∀ j, ¬ j = k → up f k x j = f j := fun j h => up_ne _ _ h
  refine I_same hI ⟨by rw [eo _ (by omega)]; exact a1, by rw [eo _ (by omega)]; exact a2, by rw [eo _ (by omega)]; exact a3, by rw [eo _ (by omega)]; exact a4, by rw [eo _ (by omega)]; exact a5, by rw [eo _ (by omega)]; exact a6, by rw [eo _ (by omega)]; exact a7, fun c hc => ?_, fun j hj => ⟨?_, ?_⟩, fun e he => ?_, fun r hr => ?_⟩ hI.bnd (eo _ (by omega)) (eo _ (by omega)) (eo _ (by omega)) (fun e q _ _ _ => eo _ (by omega))
  · rw [eo (10 + c) (by omega), eo (15 + c) (by omega), eo 2 (by omega)]
    exact a8 c hc
  · by_cases z : 20 + j = k
    · rw [← z, up_eq]
      exact h1 (by omega)
    · rw [eo _ z]
      exact (a9 j hj).1
  · by_cases z : 26 + j = k
    · rw [← z, up_eq]
      exact h2 (by omega)
    · rw [eo _ z]
      exact (a9 j hj).2
  · rw [mo_c (eo _ (by omega))] at he
    exact (a10 e he).c' (eo _ (by omega)) (fun q _ hq => eo _ (by omega))
  · rw [mr_c (eo _ (by omega))] at hr
    exact (a11 r hr).c' (fun q hq => eo _ (by omega))
theorem I_pass (hI : Inv a s f) {d : Int32} (hd : 1 ≤ d ∧ d ≤ 100) (h : f 0 + d ≤ 9999) : Inv a s (passF f d) := by
  have hdr := (rngw 100 (by decide) hd.1 hd.2).1
  have hD := add_r hI.day hdr (by decide)
  have e0 : passF f d 0 = f 0 + d := pass_0 f d
  have eo : ∀ j, ¬ j = 0 → j < 118 → passF f d j = f j := fun j h1 h2 => pass_lo f d h1 h2
  have hen : ∀ e q, e < mo f → q < 8 → en (passF f d) e q = if q = 5 ∨ q = 6 then en f e q + d else en f e q := fun e q he hq => pass_en f d he hq
  obtain ⟨a1, a2, a3, a4, a5, a6, a7, a8, a9, a10, a11⟩ := hI.iw
  have h12 := hI.mr12
  refine I_same hI ⟨?_, by rw [eo _ (by decide) (by decide)]; exact a2, by rw [eo _ (by decide) (by decide)]; exact a3, by rw [eo _ (by decide) (by decide)]; exact a4, by rw [eo _ (by decide) (by decide)]; exact a5, by rw [eo _ (by decide) (by decide)]; exact a6, by rw [eo _ (by decide) (by decide)]; exact a7, fun c hc => ?_, fun k hk => ?_, fun e he => ?_, fun r hr => ?_⟩ hI.bnd (eo _ (by decide) (by decide)) (eo _ (by decide) (by decide)) (eo _ (by decide) (by decide)) (fun e q he h1 hq => by rw [hen e q he (by omega), if_neg (by omega)])
  · rw [e0]
    exact rng_io (b := 9999) (by decide) (Int32.not_lt.mp (hD.1.nn (by decide))) h
  · rw [eo (10 + c) (by omega) (by omega), eo (15 + c) (by omega) (by omega), eo 2 (by decide) (by decide)]
    exact a8 c hc
  · rw [eo (20 + k) (by omega) (by omega), eo (26 + k) (by omega) (by omega)]
    exact a9 k hk
  · rw [pass_mo] at he
    have hE := a10 e he
    have hx : ∀ {x : Int32}, rng x (f 0).toNatClampNeg → rng (x + d) (f 0 + d).toNatClampNeg := fun hx => by
      have h9 := a1.2
      have hA := add_r hx hdr (by omega)
      refine ⟨hA.1.1, ?_⟩
      rw [hA.2, hD.2]
      have := hx.2
      omega
    unfold EI
    rw [e0, hen e 1 he (by decide), hen e 2 he (by decide), hen e 3 he (by decide), hen e 4 he (by decide), hen e 5 he (by decide), hen e 6 he (by decide), hen e 7 he (by decide)]
    exact ⟨hE.1, hE.2.1, hE.2.2.1, hE.2.2.2.1, hE.2.2.2.2.1, hx hE.2.2.2.2.2.1, hx hE.2.2.2.2.2.2.1, hE.2.2.2.2.2.2.2⟩
  · rw [pass_mr] at hr
    exact (a11 r hr).c' (fun q hq => eo _ (by omega) (by omega))
end SEM19
