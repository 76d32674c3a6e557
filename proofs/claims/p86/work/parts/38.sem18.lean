section SEM18
variable {a a' s s' : Nat} {f g : Nat → Int32}
theorem tot_o (f : Nat → Int32) {k q : Nat} (w : Int32) {j : Nat} (hk : k < 6) (hq : q < 6) (h : j < 32 ∨ 67 < j) : totF f k q w j = f j := up_ne _ _ (by omega)
theorem Iw.new (h : Iw a s f) (hn : mo f < 16) (h60 : (f 1).toNatClampNeg < 60) (hlo : ∀ k, k < 117 → ¬ k = 1 → g k = f k) (h1 : g 1 = f 1 + 1) (h117 : g 117 = f 117 + 1) (hen : ∀ e q, e < mo f → q < 8 → en g e q = en f e q) (hnew : EI g (mo f)) : Iw a s g ∧ mo g = mo f + 1 ∧ (g 1).toNatClampNeg = (f 1).toNatClampNeg + 1 ∧ gs g (mo g) = gs f (mo f) + gv g (mo f) := by
  have ho : rng (f 117) 16 := h.2.2.2.2.2.2.1
  have hm : rng (f 1) 60 := h.2.1
  have e117 : g 117 = nI (mo f + 1) := by rw [h117, ho.1]; exact nI_add _ 1
  have e1 : g 1 = nI ((f 1).toNatClampNeg + 1) := by rw [h1, hm.1, rs_tn (by have := hm.2; omega)]; exact nI_add _ 1
  have emo : mo g = mo f + 1 := by show (g 117).toNatClampNeg = _; rw [e117]; exact rs_tn (by omega)
  refine ⟨h.ents hlo (by rw [e1]; exact rng_of (by omega) (by decide)) (by rw [e117]; exact rng_of (by omega) (by decide)) (fun e he => ?_), emo, by rw [e1]; exact rs_tn (by omega), ?_⟩
  · rw [emo] at he
    by_cases z : e = mo f
    · subst z; exact hnew
    · exact (h.2.2.2.2.2.2.2.2.2.1 e (by omega)).c' (hlo 0 (by decide) (by decide)) (fun q _ hq => hen e q (by omega) hq)
  · rw [emo, gs_s]
    rw [gs_c (g := g) (f := f) (fun e he => gv_c (fun q _ hq => hen e q he hq))]
theorem lt60 (h : rng (f 1) 60) (h2 : ¬ 60 ≤ f 1) : (f 1).toNatClampNeg < 60 := by
  have := h.2
  by_cases z : (f 1).toNatClampNeg = 60
  · exact absurd (by rw [h.1, z]; decide) h2
  · omega
theorem pot_le (h : Inv a s f) : gs f (mo f) ≤ 659880 := by
  have := h.pot
  have := h.made.2
  omega
theorem rngw {w : Int32} (n : Nat) (hn : n < 2147483648) (h1 : 1 ≤ w) (h : w ≤ nI n) : rng w n ∧ 1 ≤ w.toNatClampNeg := by
  have hr : rng w n := rng_io hn (one_le h1) h
  refine ⟨hr, ?_⟩
  by_cases z : w.toNatClampNeg = 0
  · have := hr.1
    rw [z] at this
    rw [this] at h1
    exact absurd h1 (by decide)
  · omega
theorem I_enter (hI : Inv a s f) {k c : Nat} {w v : Int32} (hk : k < 6) (hc : c < 5) (hw : 1 ≤ w ∧ w ≤ 999) (hv : 1 ≤ v ∧ v ≤ 9999) (hn : mo f < 16) (h60 : ¬ 60 ≤ f 1) : Inv a s (enterF f k w v (nI c)) := by
  have rw' := rngw 999 (by decide) hw.1 hw.2
  have rv' := rngw 9999 (by decide) hv.1 hv.2
  have hl := lt60 hI.made h60
  have hg : ∀ j, j < 32 ∨ 67 < j → totF f k 0 w j = f j := fun j hj => tot_o f w hk (by decide) hj
  have hgI : Iw a s (totF f k 0 w) := hI.iw.free (fun j hj => hg j (by omega)) (by rw [hg _ (by decide)]; exact hI.acct)
  have hmo : mo (totF f k 0 w) = mo f := mo_c (hg _ (by decide))
  unfold enterF
  generalize htf : totF f k 0 w = t at *
  have hne : ∀ q, 1 ≤ q → q < 8 → en (mkF t (nI k) w v (nI c)) (mo t) q = mkV t (nI k) w v (nI c) q := fun q _ hq => mkF_new t _ _ _ _ hq
  have hE : EI (mkF t (nI k) w v (nI c)) (mo t) := by
    unfold EI
    rw [hne 1 (by decide) (by decide), hne 2 (by decide) (by decide), hne 3 (by decide) (by decide), hne 4 (by decide) (by decide), hne 5 (by decide) (by decide), hne 6 (by decide) (by decide), hne 7 (by decide) (by decide)]
    exact ⟨rng_of (show k ≤ 5 by omega) (by decide), rw'.1, rw'.2, rv'.1.mono (by decide), rng_of (show c ≤ 4 by omega) (by decide), rng_of (n := 0) (Nat.zero_le _) (by rw [mkF_lo _ _ _ _ _ (by decide) (by decide)]; have := hgI.1.2; omega), rng_of (n := 0) (Nat.zero_le _) (by rw [mkF_lo _ _ _ _ _ (by decide) (by decide)]; have := hgI.1.2; omega), rng_of (n := 1) (by decide) (by decide)⟩
  have hN := hgI.new (g := mkF t (nI k) w v (nI c)) (by omega) (by rw [hg _ (by decide)]; exact hl) (fun k hk h1 => mkF_lo _ _ _ _ _ hk h1) (mkF_1 _ _ _ _ _) (mkF_117 _ _ _ _ _) (fun e q he hq => mkF_en _ _ _ _ _ hq (by omega)) hE
  have hgs : gs t (mo t) = gs f (mo f) := by
    rw [hmo]
    exact gs_c (fun e he => gv_c (fun q _ hq => hg _ (by omega)))
  have hgv : gv (mkF t (nI k) w v (nI c)) (mo t) = v.toNatClampNeg + w.toNatClampNeg := by
    unfold gv
    rw [hne 3 (by decide) (by decide), hne 2 (by decide) (by decide)]
    rfl
  refine hN.1.inv (n := (f 4).toNatClampNeg) ⟨?_, ?_⟩ hI.bnd
  · rw [mkF_lo _ _ _ _ _ (by decide) (by decide), hg _ (by decide)]
    exact hI.debt.1
  · rw [hN.2.2.2, hN.2.2.1, hgs, hgv, hg _ (by decide)]
    have := hI.pot
    have := rw'.1.2
    have := rv'.1.2
    omega
theorem I_goes (hI : Inv a s f) (hg : Iw a s g) (h4 : g 4 = f 4) (h1 : g 1 = f 1) (h117 : g 117 = f 117) (hen : ∀ e q, e < mo f → q < 8 → en g e q = en f e q) {e : Nat} {w : Int32} (he : e < mo f) (hw : rng w (en f e 2).toNatClampNeg) : Inv a s (goesF g e w) := by
  have hmo : mo g = mo f := mo_c h117
  have hE := hI.ent e he
  have hEg : EI g e := hg.2.2.2.2.2.2.2.2.2.1 e (by omega)
  have hwg : rng w (en g e 2).toNatClampNeg := by rw [hen e 2 he (by decide)]; exact hw
  refine (hg.goes (by omega) hwg).inv (n := (f 4).toNatClampNeg) ⟨?_, ?_⟩ hI.bnd
  · rw [goes_lo _ _ _ (by decide), h4]
    exact hI.debt.1
  · have h := gs_goes hg.2.2.2.2.2.2.1 (show e < mo g by omega) hEg hwg
    have hs : gs g (mo g) = gs f (mo f) := by
      rw [hmo]
      exact gs_c (fun e he => gv_c (fun q _ hq => hen e q he hq))
    rw [goes_lo _ _ _ (by decide), h1]
    have := hI.pot
    omega
theorem Iw.files (h : Iw a s f) {kd w d : Int32} (h1 : rng kd 5) (h2 : rng w 999) (h3 : rng d 440000) : Iw a s (filesF f kd w d) := by
  have h12 : mr f ≤ 12 := h.2.2.2.2.2.1.2
  have hg : ∀ j, j < 68 ∨ 117 ≤ j → filesF f kd w d j = f j := fun j hj => files_hi f h12 (by omega)
  obtain ⟨a1, a2, a3, a4, a5, a6, a7, a8, a9, a10, a11⟩ := h
  refine ⟨by rw [hg _ (by decide)]; exact a1, by rw [hg _ (by decide)]; exact a2, by rw [hg _ (by decide)]; exact a3, by rw [hg _ (by decide)]; exact a4, by rw [hg _ (by decide)]; exact a5, ?_, by rw [hg _ (by decide)]; exact a7, fun c hc => ?_, fun k hk => ?_, fun e he => ?_, fun r hr => ?_⟩
  · show rng (nI (mr1 f)) 12
    exact rng_of (by unfold mr1; split <;> omega) (by decide)
  · rw [hg (10 + c) (by omega), hg (15 + c) (by omega), hg 2 (by decide)]
    exact a8 c hc
  · rw [hg (20 + k) (by omega), hg (26 + k) (by omega)]
    exact a9 k hk
  · rw [mo_c (hg 117 (by decide))] at he
    exact (a10 e he).c' (hg 0 (by decide)) (fun q _ hq => hg _ (by omega))
  · rw [files_mr f h12] at hr
    by_cases z : r = 0
    · subst z
      exact ⟨h1, h2, h3⟩
    · have hr12 : mr1 f ≤ 12 := by unfold mr1; split <;> omega
      have hr' : r - 1 < mr f := by unfold mr1 at hr; split at hr <;> omega
      refine (a11 (r - 1) hr').c' (fun q hq => ?_)
      unfold rc filesF
      rw [if_neg (by omega), if_neg (by omega), if_neg (by omega), if_neg (by omega), if_neg (by omega), if_pos (by omega)]
      exact congrArg f (by omega)
theorem dutyP_r (hI : Inv a s f) {e : Nat} {w : Int32} (he : e < mo f) (hw : rng w (en f e 2).toNatClampNeg) : rng (dutyPF f e w) 440000 := by
  obtain ⟨n, h1, h2, _⟩ := dutyP_rng hI he hw.2
  rw [← hw.1] at h2
  rw [h2]
  exact rng_of h1 (by decide)
theorem I_withdraw (hI : Inv a s f) {e : Nat} {w : Int32} (he : e < mo f) (hw : rng w (en f e 2).toNatClampNeg) (hd : dutyPF f e w ≤ f 3) : Inv a s (withdrawF f e w) := by
  have hE := hI.ent e he
  have hdr := dutyP_r hI he hw
  have hb := hI.bnd
  have ha : rng (f 3 - dutyPF f e w) a := (sub_r hI.acct (by omega) (rng_le hI.acct (by omega) (by have := hdr.nn (by decide); exact Int32.not_lt.mp this) hd)).1
  generalize hdd : dutyPF f e w = d at *
  have hw9 : rng w 999 := hw.mono hE.2.1.2
  have g1 : Iw a s (up (up f 3 (f 3 - d)) 7 (f 7 + d)) := hI.iw.free (fun k hk => by rw [up_ne _ _ (by omega), up_ne _ _ (by omega)]) (by rw [up_ne _ _ (by decide), up_eq]; exact ha)
  have g2 := g1.files (kd := en f e 1) (w := w) (d := d) hE.1 hw9 hdr
  have h12 : mr (up (up f 3 (f 3 - d)) 7 (f 7 + d)) ≤ 12 := by rw [mr_up _ _ (by decide), mr_up _ _ (by decide)]; exact hI.mr12
  have hk := hE.k.2
  unfold withdrawF wdF
  rw [hdd]
  have e3 : ∀ j, (j < 32 ∧ ¬ j = 3 ∧ ¬ j = 7) ∨ 117 ≤ j → totF (filesF (up (up f 3 (f 3 - d)) 7 (f 7 + d)) (en f e 1) w d) (knd f e) 1 w j = f j := fun j hj => by
    rw [tot_o _ _ hk (by decide) (by omega), files_hi _ h12 (by omega), up_ne _ _ (by omega), up_ne _ _ (by omega)]
  refine I_goes hI (g2.free (a' := a) (fun k hk' => tot_o _ _ hk (by decide) (by omega)) (by rw [tot_o _ _ hk (by decide) (by decide)]; exact g2.2.2.2.1)) (e3 _ (by decide)) (e3 _ (by decide)) (e3 _ (by decide)) (fun x q hx hq => e3 _ (by omega)) he hw
theorem I_send (hI : Inv a s f) {e : Nat} {w : Int32} (he : e < mo f) (hw : rng w (en f e 2).toNatClampNeg) : Inv a s (sendF f e w) := by
  have hk := (hI.ent e he).k.2
  have e3 : ∀ j, j < 32 ∨ 67 < j → totF f (knd f e) 2 w j = f j := fun j hj => tot_o _ _ hk (by decide) hj
  unfold sendF
  exact I_goes hI (hI.iw.free (a' := a) (fun k hk' => e3 _ (by omega)) (by rw [e3 _ (by decide)]; exact hI.acct)) (e3 _ (by decide)) (e3 _ (by decide)) (e3 _ (by decide)) (fun x q hx hq => e3 _ (by omega)) he hw
theorem gs_same (h117 : g 117 = f 117) (hen : ∀ e q, e < mo f → 1 ≤ q → q < 4 → en g e q = en f e q) : gs g (mo g) = gs f (mo f) := by
  rw [mo_c h117]
  refine gs_c (fun e he => ?_)
  unfold gv
  rw [hen e 2 he (by decide) (by decide), hen e 3 he (by decide) (by decide)]
/-- no entry's goods change -/
theorem I_same (hI : Inv a s f) (hg : Iw a' s' g) (hb : a' < 1000000000 ∧ s' < 1000000) (h4 : g 4 = f 4) (h1 : g 1 = f 1) (h117 : g 117 = f 117) (hen : ∀ e q, e < mo f → 1 ≤ q → q < 4 → en g e q = en f e q) : Inv a' s' g := by
  refine hg.inv (n := (f 4).toNatClampNeg) ⟨by rw [h4]; exact hI.debt.1, ?_⟩ hb
  rw [gs_same h117 hen, h1]
  exact hI.pot
theorem back_r (hI : Inv a s f) {r : Nat} {w : Int32} (hr : r < mr f) (hw : 1 ≤ w ∧ w ≤ rc f r 1) : rng (partF f r w) (rc f r 2).toNatClampNeg ∧ rng (backF f r w) 400000 ∧ rng w (rc f r 1).toNatClampNeg := by
  have hRI := hI.rec r hr
  have hwr : rng w (rc f r 1).toNatClampNeg := rng_le hRI.2.1 (by decide) (one_le hw.1) hw.2
  have h1 := hRI.2.1.2
  have h2 := hRI.2.2.2
  have h4 := hwr.2
  have hw1 : 1 ≤ w.toNatClampNeg := (rngw 999 (by decide) hw.1 (by rw [hwr.1]; exact nI_le (by omega) (by omega))).2
  unfold backF partF
  rw [hRI.2.2.1, hRI.2.1.1, hwr.1]
  rw [rs_tn (show (rc f r 1).toNatClampNeg < 2147483648 by omega), rs_tn (show (rc f r 2).toNatClampNeg < 2147483648 by omega)]
  generalize (rc f r 2).toNatClampNeg = V at *
  generalize (rc f r 1).toNatClampNeg = W at *
  generalize w.toNatClampNeg = w' at *
  have b1 : V * w' ≤ 440000 * 999 := Nat.mul_le_mul h2 (by omega)
  have b2 : V * w' / W ≤ V := Nat.div_le_of_le_mul (by rw [Nat.mul_comm W V]; exact Nat.mul_le_mul_left V h4)
  rw [pk_mul, pk_div (by omega) (by omega) (by omega), show (9 : Int32) = nI 9 from rfl, show (10 : Int32) = nI 10 from rfl, pk_mul, pk_div (by omega) (by omega) (by omega)]
  exact ⟨rng_of b2 (by omega), rng_of (by omega) (by decide), rng_of h4 (by omega)⟩
theorem add_r {x y : Int32} {b c : Nat} (hx : rng x b) (hy : rng y c) (hb : b + c < 2147483648) : rng (x + y) (b + c) ∧ (x + y).toNatClampNeg = x.toNatClampNeg + y.toNatClampNeg := by
  have h1 := hx.2
  have h2 := hy.2
  have : x + y = nI (x.toNatClampNeg + y.toNatClampNeg) := by
    have := nI_add x.toNatClampNeg y.toNatClampNeg
    rw [← hx.1, ← hy.1] at this
    exact this
  rw [this]
  exact ⟨rng_of (by omega) hb, rs_tn (by omega)⟩
theorem I_draw (hI : Inv a s f) {r : Nat} {w : Int32} (hr : r < mr f) (hw : 1 ≤ w ∧ w ≤ rc f r 1) (hb : a + 400000 < 1000000000) : Inv (a + 400000) s (drawF f r w) := by
  have hB := back_r hI hr hw
  have hRI := hI.rec r hr
  have hr12 : r < 12 := Nat.lt_of_lt_of_le hr hI.mr12
  have hk : (rc f r 0).toNatClampNeg < 6 := by have := hRI.1.2; omega
  have ha := (add_r hI.acct hB.2.1 (by omega)).1
  have h2 := (sub_r hRI.2.1 (by decide) hB.2.2).1
  have h3 := (sub_r hRI.2.2 (by decide) hB.1).1
  unfold drawF
  generalize backF f r w = b at *
  generalize partF f r w = p at *
  have e3 : ∀ j, (j < 32 ∧ ¬ j = 3 ∧ ¬ j = 9) ∨ 67 < j → totF (up (up f 3 (f 3 + b)) 9 (f 9 + b)) (rc f r 0).toNatClampNeg 5 w j = f j := fun j hj => by
    rw [tot_o _ _ hk (by decide) (by omega), up_ne _ _ (by omega), up_ne _ _ (by omega)]
  have e33 : totF (up (up f 3 (f 3 + b)) 9 (f 9 + b)) (rc f r 0).toNatClampNeg 5 w 3 = f 3 + b := by
    rw [tot_o _ _ hk (by decide) (by decide), up_ne _ _ (by decide), up_eq]
  generalize totF (up (up f 3 (f 3 + b)) 9 (f 9 + b)) (rc f r 0).toNatClampNeg 5 w = g at *
  have e4 : ∀ j, ¬ j = 69 + 4 * r + 1 → ¬ j = 69 + 4 * r + 2 → up (up g (69 + 4 * r + 1) (rc f r 1 - w)) (69 + 4 * r + 2) (rc f r 2 - p) j = g j := fun j h1 h2 => by rw [up_ne _ _ h2, up_ne _ _ h1]
  have e41 : up (up g (69 + 4 * r + 1) (rc f r 1 - w)) (69 + 4 * r + 2) (rc f r 2 - p) (69 + 4 * r + 1) = rc f r 1 - w := by rw [up_ne _ _ (by omega), up_eq]
  have e42 : up (up g (69 + 4 * r + 1) (rc f r 1 - w)) (69 + 4 * r + 2) (rc f r 2 - p) (69 + 4 * r + 2) = rc f r 2 - p := up_eq _ _ _
  generalize up (up g (69 + 4 * r + 1) (rc f r 1 - w)) (69 + 4 * r + 2) (rc f r 2 - p) = h at *
  have e5 : ∀ j, ((j < 32 ∧ ¬ j = 3 ∧ ¬ j = 9) ∨ 67 < j) → ¬ j = 69 + 4 * r + 1 → ¬ j = 69 + 4 * r + 2 → h j = f j := fun j hj h1 h2 => (e4 j h1 h2).trans (e3 j hj)
  obtain ⟨a1, a2, a3, a4, a5, a6, a7, a8, a9, a10, a11⟩ := hI.iw
  refine I_same hI ⟨by rw [e5 _ (by decide) (by omega) (by omega)]; exact a1, by rw [e5 _ (by decide) (by omega) (by omega)]; exact a2, by rw [e5 _ (by decide) (by omega) (by omega)]; exact a3, by rw [e4 _ (by omega) (by omega), e33]; exact ha, by rw [e5 _ (by decide) (by omega) (by omega)]; exact a5, by rw [e5 _ (by decide) (by omega) (by omega)]; exact a6, by rw [e5 _ (by decide) (by omega) (by omega)]; exact a7, fun c hc => ?_, fun k hk => ?_, fun e he => ?_, fun x hx => ?_⟩ ⟨hb, hI.bnd.2⟩ (e5 _ (by decide) (by omega) (by omega)) (e5 _ (by decide) (by omega) (by omega)) (e5 _ (by decide) (by omega) (by omega)) (fun e q _ _ _ => e5 _ (by omega) (by omega) (by omega))
  · rw [e5 (10 + c) (by omega) (by omega) (by omega), e5 (15 + c) (by omega) (by omega) (by omega), e5 2 (by decide) (by omega) (by omega)]
    exact a8 c hc
  · rw [e5 (20 + k) (by omega) (by omega) (by omega), e5 (26 + k) (by omega) (by omega) (by omega)]
    exact a9 k hk
  · rw [mo_c (e5 117 (by decide) (by omega) (by omega))] at he
    exact (a10 e he).c' (e5 0 (by decide) (by omega) (by omega)) (fun q _ hq => e5 _ (by omega) (by omega) (by omega))
  · rw [mr_c (e5 68 (by decide) (by omega) (by omega))] at hx
    by_cases z : x = r
    · subst z
      unfold RI
      have q0 : rc h x 0 = rc f x 0 := e5 _ (by omega) (by omega) (by omega)
      have q1 : rc h x 1 = rc f x 1 - w := e41
      have q2 : rc h x 2 = rc f x 2 - p := e42
      rw [q0, q1, q2]
      exact ⟨hRI.1, h2, h3⟩
    · exact (a11 x hx).c' (fun q hq => e5 _ (by omega) (by omega) (by omega))
/-- cells of the entries change, no goods -/
theorem I_ents (hI : Inv a s f) (hg : ∀ k, k < 118 → g k = f k) (hen : ∀ e q, e < mo f → 1 ≤ q → q < 4 → en g e q = en f e q) (hE : ∀ e, e < mo f → EI g e) : Inv a s g := by
  have hmo : mo g = mo f := mo_c (hg _ (by decide))
  exact I_same hI (hI.iw.ents (fun k hk _ => hg k (by omega)) (by rw [hg _ (by decide)]; exact hI.made) (by rw [hg _ (by decide)]; exact hI.opn) (fun e he => hE e (by omega))) hI.bnd (hg _ (by decide)) (hg _ (by decide)) (hg _ (by decide)) hen
theorem I_move (hI : Inv a s f) {e c : Nat} (hc : c < 5) : Inv a s (moveF f e (nI c)) := by
  unfold moveF
  refine I_ents hI (fun k hk => up_ne _ _ (by omega)) (fun x q _ h1 hq => en_up _ _ (by omega)) (fun x hx => ?_)
  have hE := hI.ent x hx
  by_cases z : x = e
  · subst z
    unfold EI
    rw [up_ne f _ (show ¬ 0 = 118 + 8 * x + 4 by omega), en_up_e, en_ot _ _ (by decide) (by decide) (by decide), en_ot _ _ (by decide) (by decide) (by decide), en_ot _ _ (by decide) (by decide) (by decide), en_ot _ _ (by decide) (by decide) (by decide), en_ot _ _ (by decide) (by decide) (by decide), en_ot _ _ (by decide) (by decide) (by decide)]
    exact ⟨hE.1, hE.2.1, hE.2.2.1, hE.2.2.2.1, rng_of (show c ≤ 4 by omega) (by decide), hE.2.2.2.2.2⟩
  · exact hE.c' (up_ne _ _ (by omega)) (fun q _ hq => en_oe _ _ hq (by decide) z)
theorem I_split (hI : Inv a s f) {e : Nat} {w : Int32} (he : e < mo f) (hw : rng w (en f e 2).toNatClampNeg) (hw1 : 1 ≤ w.toNatClampNeg) (hn : mo f < 16) (h60 : ¬ 60 ≤ f 1) : Inv a s (splitF f e w) := by
  have hE := hI.ent e he
  have hl := lt60 hI.made h60
  have hs := share_r hE hw
  have hne : ∀ q, q < 8 → en (mkX f (spV f e w)) (mo f) q = spV f e w q := fun q hq => mkX_new f _ hq
  have hoe : ∀ x q, x < mo f → q < 8 → en (mkX f (spV f e w)) x q = en f x q := fun x q hx hq => mkX_en f _ hq (by omega)
  have hd : mkX f (spV f e w) 0 = f 0 := mkX_lo _ _ (by decide) (by decide)
  have hnew : EI (mkX f (spV f e w)) (mo f) := by
    unfold EI
    rw [hd, hne 1 (by decide), hne 2 (by decide), hne 3 (by decide), hne 4 (by decide), hne 5 (by decide), hne 6 (by decide), hne 7 (by decide)]
    exact ⟨hE.1, hw.mono hE.2.1.2, hw1, hs.1.mono hE.2.2.2.1.2, hE.2.2.2.2⟩
  have h1 : mkX f (spV f e w) 1 = f 1 + 1 := rfl
  have hN := hI.iw.new (g := mkX f (spV f e w)) hn hl (fun k hk h1 => mkX_lo _ _ hk h1) h1 (mkX_117 _ _) hoe hnew
  have hgv : gv (mkX f (spV f e w)) (mo f) = (shareF f e w).toNatClampNeg + w.toNatClampNeg := by
    unfold gv
    rw [hne 3 (by decide), hne 2 (by decide)]
    rfl
  have hw' : rng w (en (mkX f (spV f e w)) e 2).toNatClampNeg := by rw [hoe e 2 he (by decide)]; exact hw
  have hsh : shareF (mkX f (spV f e w)) e w = shareF f e w := by
    unfold shareF
    rw [hoe e 2 he (by decide), hoe e 3 he (by decide)]
  unfold splitF
  have hG := gs_goes (f := mkX f (spV f e w)) (e := e) (w := w) hN.1.2.2.2.2.2.2.1 (by omega) (hN.1.2.2.2.2.2.2.2.2.2.1 e (by omega)) hw'
  rw [hsh, hN.2.2.2, hgv] at hG
  refine (hN.1.goes (e := e) (w := w) (by omega) hw').inv (n := (f 4).toNatClampNeg) ⟨?_, ?_⟩ hI.bnd
  · rw [goes_lo _ _ _ (by decide), mkX_lo _ _ (by decide) (by decide)]
    exact hI.debt.1
  · rw [goes_lo _ _ _ (by decide), hN.2.2.1]
    have := hI.pot
    omega
end SEM18
