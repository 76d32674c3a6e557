section JKEEP2
variable {a s : Nat} {f g G : Nat → Int32}
/-- one more entry, of number made -/
theorem JN.new (h : JN f) (hI : Inv a s f) (h117 : mo g = mo f + 1) (h1 : (g 1).toNatClampNeg = (f 1).toNatClampNeg + 1) (hen : ∀ e, e < mo f → en g e 0 = en f e 0) (hnew : en g (mo f) 0 = f 1) : JN g := by
  have hn : ∀ e, e < mo f → nN g e = nN f e := fun e he => by unfold nN; rw [hen e he]
  have hnn : nN g (mo f) = (f 1).toNatClampNeg := by unfold nN; rw [hnew]
  refine ⟨fun e he => ?_, fun x y hxy hy => ?_⟩
  · rw [h117] at he
    rw [h1]
    by_cases z : e = mo f
    · subst z
      rw [hnn, hnew]
      exact ⟨hI.made.1, by omega⟩
    · have := h.1 e (by omega)
      rw [hen e (by omega), hn e (by omega)]
      exact ⟨this.1, by omega⟩
  · rw [h117] at hy
    rw [hn x (by omega)]
    by_cases z : y = mo f
    · subst z
      rw [hnn]
      exact (h.1 x (by omega)).2
    · rw [hn y (by omega)]
      exact h.2 x y hxy (by omega)
theorem made1 (hI : Inv a s f) (h1 : g 1 = f 1 + 1) : (g 1).toNatClampNeg = (f 1).toNatClampNeg + 1 := by
  have h2 := hI.made.2
  rw [h1]
  exact (n_add (w := 1) (b := 1) hI.made.1 (rng_of (n := 1) (by decide) (by decide)) (by omega)).2
theorem open1 (hI : Inv a s f) (h1 : g 117 = f 117 + 1) : mo g = mo f + 1 := by
  have h2 := hI.opn.2
  show (g 117).toNatClampNeg = _
  rw [h1]
  exact (n_add (w := 1) (b := 1) hI.opn.1 (rng_of (n := 1) (by decide) (by decide)) (by omega)).2
theorem JI.enter (hI : Inv a s f) (hJ : JI f) {k c : Nat} {w v : Int32} (hk : k < 6) (hc : c < 5) (hw : 1 ≤ w ∧ w ≤ 999) (hr : w ≤ roomF f (nI c)) : JI (enterF f k w v (nI c)) := by
  have rw' := rngw 999 (by decide) hw.1 hw.2
  have hw9 := rw'.1.2
  unfold enterF
  have ht : ∀ j, j < 32 ∨ 67 < j → totF f k 0 w j = f j := fun j hj => tot_o f w hk (by decide) hj
  have hmt : mo (totF f k 0 w) = mo f := mo_c (ht _ (by decide))
  have hlo : ∀ j, j < 117 → ¬ j = 1 → mkF (totF f k 0 w) (nI k) w v (nI c) j = totF f k 0 w j := fun j hj h1 => mkF_lo _ _ _ _ _ hj h1
  have h1 : mkF (totF f k 0 w) (nI k) w v (nI c) 1 = f 1 + 1 := by rw [mkF_1, ht _ (by decide)]
  have h117 : mkF (totF f k 0 w) (nI k) w v (nI c) 117 = f 117 + 1 := by rw [mkF_117, ht _ (by decide)]
  have hold : ∀ e q, e < mo f → q < 8 → en (mkF (totF f k 0 w) (nI k) w v (nI c)) e q = en f e q := fun e q he hq => (mkF_en _ _ _ _ _ hq (by omega)).trans (ht _ (by omega))
  have hnew : ∀ q, q < 8 → en (mkF (totF f k 0 w) (nI k) w v (nI c)) (mo f) q = mkV (totF f k 0 w) (nI k) w v (nI c) q := fun q hq => by
    have := mkF_new (totF f k 0 w) (nI k) w v (nI c) hq
    rw [hmt] at this
    exact this
  have n0 : en (mkF (totF f k 0 w) (nI k) w v (nI c)) (mo f) 0 = f 1 := (hnew 0 (by decide)).trans (ht 1 (by decide))
  have n1 : en (mkF (totF f k 0 w) (nI k) w v (nI c)) (mo f) 1 = nI k := hnew 1 (by decide)
  have n2 : en (mkF (totF f k 0 w) (nI k) w v (nI c)) (mo f) 2 = w := hnew 2 (by decide)
  have n4 : en (mkF (totF f k 0 w) (nI k) w v (nI c)) (mo f) 4 = nI c := hnew 4 (by decide)
  generalize mkF (totF f k 0 w) (nI k) w v (nI c) = G at *
  have hmo := open1 hI h117
  have hmd := made1 hI h1
  have hsq : ∀ q v', q < 8 → sq G q v' = sq f q v' + (if en G (mo f) q = v' then w.toNatClampNeg else 0) := fun q v' hq => by
    unfold sq
    rw [hmo, sg_s, sg_c (G := eq1 G q v') (F := eq1 f q v') (fun e he => eq1_c (hold e q he hq) (hold e 2 he (by decide)))]
    unfold eq1 wN
    rw [n2]
  have h68 : mr G = mr f := mr_c ((hlo _ (by decide) (by decide)).trans (ht _ (by decide)))
  have h12 := hI.mr12
  have hrq : ∀ v', rq G v' = rq f v' := fun v' => rq_c h68 (fun r hr => (hlo _ (by omega) (by omega)).trans (ht _ (by omega))) (fun r hr => (hlo _ (by omega) (by omega)).trans (ht _ (by omega)))
  refine ⟨hJ.1.new hI hmo hmd (fun e he => hold e 0 he (by decide)) n0, hJ.2.1.same ((hlo _ (by decide) (by decide)).trans (ht _ (by decide))) ((hlo _ (by decide) (by decide)).trans (ht _ (by decide))) (fun j _ hj => (hlo _ (by omega) (by omega)).trans (ht _ (by omega))), fun c' hc' => ?_, fun k' hk' => ?_⟩
  · have h5 := hJ.2.2.1 c' hc'
    rw [hsq 4 _ (by decide), n4]
    by_cases z : c' = c
    · subst z
      have := room_le hI rw'.1 (by decide) h5 hr
      rw [if_pos rfl]
      omega
    · rw [if_neg (fun y => z ((nI_inj (by omega) (by omega)).mp y).symm)]
      omega
  · have hs := hsq 1 (nI k') (by decide)
    rw [n1] at hs
    have hT : ∀ q, q < 6 → G (32 + 6 * k' + q) = totF f k 0 w (32 + 6 * k' + q) := fun q hq => hlo _ (by omega) (by omega)
    by_cases z : k' = k
    · rw [if_pos (by rw [z])] at hs
      refine (hJ.2.2.2 k' hk').upd (d := fun q => if q = 0 then w.toNatClampNeg else 0) hI.m60 (fun q _ => ?_) (fun q hq => ?_) ?_ ?_ ?_
      · split <;> omega
      · rw [hT q hq]
        exact tot_in f (hJ.2.2.2 k' hk') hI.m60 rw'.1 hq (by decide) z
      · try dsimp only
        rw [hmd]
        simp
        omega
      · try dsimp only
        simp
        omega
      · try dsimp only
        rw [hrq]
        simp
    · rw [if_neg (fun y => z ((nI_inj (by omega) (by omega)).mp y).symm)] at hs
      refine (hJ.2.2.2 k' hk').keep hk' (by omega) (fun q hq => ?_) (by omega) (by rw [hrq]; exact Nat.le_refl _)
      rw [hT q hq]
      exact tot_out f hq (by decide) z
theorem JI.split (hI : Inv a s f) (hJ : JI f) {e : Nat} {w : Int32} (he : e < mo f) (hw : rng w (en f e 2).toNatClampNeg) (hn : mo f < 16) : JI (splitF f e w) := by
  have hE := hI.ent e he
  unfold splitF
  have hlo : ∀ j, j < 117 → ¬ j = 1 → mkX f (spV f e w) j = f j := fun j hj h1 => mkX_lo f _ hj h1
  have h1 : mkX f (spV f e w) 1 = f 1 + 1 := rfl
  have h117 : mkX f (spV f e w) 117 = f 117 + 1 := mkX_117 f _
  have hold : ∀ x q, x < mo f → q < 8 → en (mkX f (spV f e w)) x q = en f x q := fun x q hx hq => mkX_en f _ hq (by omega)
  have hnew : ∀ q, q < 8 → en (mkX f (spV f e w)) (mo f) q = spV f e w q := fun q hq => mkX_new f _ hq
  have n0 : en (mkX f (spV f e w)) (mo f) 0 = f 1 := hnew 0 (by decide)
  have n1 : en (mkX f (spV f e w)) (mo f) 1 = en f e 1 := hnew 1 (by decide)
  have n2 : en (mkX f (spV f e w)) (mo f) 2 = w := hnew 2 (by decide)
  have n4 : en (mkX f (spV f e w)) (mo f) 4 = en f e 4 := hnew 4 (by decide)
  generalize mkX f (spV f e w) = g at *
  have hmo := open1 hI h117
  have hmd := made1 hI h1
  have hog : rng (g 117) 16 := by
    have h9 := hI.opn
    refine ⟨?_, ?_⟩
    · have : g 117 = nI ((f 117).toNatClampNeg + 1) := by
        rw [h117]
        exact (n_add (w := 1) (b := 1) h9.1 (rng_of (n := 1) (by decide) (by decide)) (by have := h9.2; omega)).1
      have h8 : (g 117).toNatClampNeg = (f 117).toNatClampNeg + 1 := hmo
      rw [h8]
      exact this
    · show mo g ≤ 16
      omega
  have heg : e < mo g := by omega
  have hEg : rng (en g e 2) 999 := by rw [hold e 2 he (by decide)]; exact hE.2.1
  have hwg : rng w (en g e 2).toNatClampNeg := by rw [hold e 2 he (by decide)]; exact hw
  have hsq : ∀ q v', (q = 1 ∨ q = 4) → sq (goesF g e w) q v' = sq f q v' := fun q v' hq => by
    have h8 := sq_goes (f := g) (g := g) hq (v := v') hog rfl (fun _ _ => rfl) (fun _ _ => rfl) heg hEg hwg
    have h7 : sq g q v' = sq f q v' + (if en f e q = v' then w.toNatClampNeg else 0) := by
      unfold sq
      rw [hmo, sg_s, sg_c (G := eq1 g q v') (F := eq1 f q v') (fun x hx => eq1_c (hold x q hx (by omega)) (hold x 2 hx (by decide)))]
      have h6 : en g (mo f) q = en f e q := by rcases hq with rfl | rfl; exact n1; exact n4
      unfold eq1 wN
      rw [n2, h6]
    rw [hold e q he (by omega)] at h8
    omega
  have hGlo : ∀ j, j < 117 → goesF g e w j = g j := fun j hj => goes_lo g e w hj
  have h12 := hI.mr12
  have hJNg : JN g := hJ.1.new hI hmo hmd (fun x hx => hold x 0 hx (by decide)) n0
  have h68 : mr (goesF g e w) = mr f := mr_c ((hGlo _ (by decide)).trans (hlo _ (by decide) (by decide)))
  refine ⟨hJNg.goes hog rfl rfl (fun _ _ => rfl) heg, hJ.2.1.same ((hGlo _ (by decide)).trans (hlo _ (by decide) (by decide))) ((hGlo _ (by decide)).trans (hlo _ (by decide) (by decide))) (fun j _ hj => (hGlo _ (by omega)).trans (hlo _ (by omega) (by omega))), hJ.2.2.1.le (fun c _ => by rw [hsq 4 _ (Or.inr rfl)]; exact Nat.le_refl _), fun k hk => ?_⟩
  refine (hJ.2.2.2 k hk).keep hk (by rw [hGlo _ (by decide), hmd]; omega) (fun q hq => (hGlo _ (by omega)).trans (hlo _ (by omega) (by omega))) (hsq 1 _ (Or.inl rfl)) ?_
  rw [rq_c (f := f) h68 (fun r hr => (hGlo _ (by omega)).trans (hlo _ (by omega) (by omega))) (fun r hr => (hGlo _ (by omega)).trans (hlo _ (by omega) (by omega)))]
  exact Nat.le_refl _
theorem JI.merge (hI : Inv a s f) (hJ : JI f) {x y : Nat} (hx : x < mo f) (hy : y < mo f) (hxy : ¬ x = y) (h1 : en f x 1 = en f y 1) (h4 : en f x 4 = en f y 4) : JI (mergeF f x y) := by
  have hE := hI.ent x hx
  have hD := hI.ent y hy
  have hlo : ∀ k, k < 118 → mgF f x y k = f k := fun k hk => mg_at f (by omega)
  have ho : ∀ z q, ¬ z = x → q < 8 → en (mgF f x y) z q = en f z q := fun z q hz hq => mg_at f (by omega)
  have q2 : en (mgF f x y) x 2 = en f x 2 + en f y 2 := by
    unfold mgF
    rw [en_ot _ _ (by decide) (by decide) (by decide), en_ot _ _ (by decide) (by decide) (by decide), en_ot _ _ (by decide) (by decide) (by decide)]
    exact en_up_e _ x 2 _
  have qo : ∀ q, q < 8 → ¬ q = 2 → ¬ q = 3 → ¬ q = 5 → ¬ q = 6 → en (mgF f x y) x q = en f x q := fun q hq h2 h3 h5 h6 => by
    unfold mgF
    rw [en_ot _ _ hq (by decide) h6, en_ot _ _ hq (by decide) h5, en_ot _ _ hq (by decide) h3, en_ot _ _ hq (by decide) h2]
  unfold mergeF
  generalize mgF f x y = P at *
  have hmo : mo P = mo f := mo_c (hlo _ (by decide))
  have hoP : rng (P 117) 16 := by rw [hlo _ (by decide)]; exact hI.opn
  have hyP : y < mo P := by omega
  have hen : ∀ z q, q = 0 ∨ q = 1 ∨ q = 4 → en P z q = en f z q := fun z q hq => by
    by_cases w : z = x
    · subst w
      exact qo q (by omega) (by omega) (by omega) (by omega) (by omega)
    · exact ho z q w (by omega)
  have hclo : ∀ k, k < 117 → closeF P y k = f k := fun k hk => (close_lo P y hk).trans (hlo k (by omega))
  have hcm := close_mo hoP hyP
  have hadd := add_r hE.2.1 hD.2.1 (by decide)
  have hsq : ∀ q v, (q = 1 ∨ q = 4) → sq (closeF P y) q v = sq f q v := fun q v hq => by
    have hr := sg_rm (G := eq1 (closeF P y) q v) (F := eq1 P q v) hyP (fun p hp => eq1_c (close_en _ _ hp (by omega)) (close_en _ _ hp (by decide)))
    have hu : sg (eq1 P q v) (mo f) + eq1 f q v x = sg (eq1 f q v) (mo f) + eq1 P q v x := sg_upd _ hx (fun z _ hn => eq1_c (hen z q (by omega)) (ho z 2 hn (by decide)))
    have e1 : eq1 P q v y = eq1 f q v y := eq1_c (hen y q (by omega)) (ho y 2 (fun z => hxy z.symm) (by decide))
    have e2 : eq1 P q v x = eq1 f q v x + eq1 f q v y := by
      have hq' : en f y q = en f x q := by rcases hq with rfl | rfl; exact h1.symm; exact h4.symm
      unfold eq1 wN
      rw [hen x q (by omega), q2, hadd.2, hq']
      split <;> omega
    rw [hmo] at hr
    unfold sq
    rw [hcm, hmo]
    omega
  have h12 := hI.mr12
  have hJNP : JN P := hJ.1.same (hlo _ (by decide)) (hlo _ (by decide)) (fun z _ => hen z 0 (Or.inl rfl))
  have h68 : mr (closeF P y) = mr f := mr_c (hclo _ (by decide))
  refine ⟨hJNP.close hoP hyP, hJ.2.1.same (hclo _ (by decide)) (hclo _ (by decide)) (fun j _ hj => hclo _ (by omega)), hJ.2.2.1.le (fun c _ => by rw [hsq 4 _ (Or.inr rfl)]; exact Nat.le_refl _), fun k hk => ?_⟩
  refine (hJ.2.2.2 k hk).same hk (fun j _ hj => hclo _ (by omega)) (hclo _ (by decide)) (hsq 1 _ (Or.inl rfl)) (rq_c h68 (fun r hr => hclo _ (by omega)) (fun r hr => hclo _ (by omega)))
theorem i0_nn {x : Int32} {b : Nat} (h : rng x b) (hb : b < 2147483648) : ¬ x < 0 := h.nn hb
theorem JI.weigh (hI : Inv a s f) (hJ : JI f) {e : Nat} {w : Int32} (he : e < mo f) (hw : rng w (en f e 2).toNatClampNeg) : JI (weighF f e w) := by
  have hE := hI.ent e he
  have hk := hE.k.2
  have h12 := hI.mr12
  have hgo := sub_r hE.2.1 (by decide) hw
  have hw2 := hw.2
  have hW := hE.2.1.2
  have hgw : rng (en f e 2 - w) (en f e 2).toNatClampNeg := ⟨hgo.1.1, by rw [hgo.2]; omega⟩
  have hL := loss_rng hI he hw
  have hL2 := hL.2
  have hLr : rng (lossF f e w) 999 := hL.mono (by omega)
  have hLw : rng (lossF f e w) (en f e 2 - w).toNatClampNeg := by rw [hgo.2]; exact hL
  have hd := sub_r hgo.1 (by decide) hLw
  have hC := (charge_r hI he hgw (L := lossF f e w) (by rw [hgo.2]; exact hL)).1
  have hm := hJ.2.1
  unfold weighF wgF
  generalize hc : chargeF f e (lossF f e w) = C at *
  generalize hl : lossF f e w = L at *
  generalize hP : wgP f C = Pm at *
  have hPd : (C < f 3 ∧ Pm = C) ∨ (¬ C < f 3 ∧ Pm = f 3) := by
    rw [← hP]
    unfold wgP
    by_cases z : C < f 3
    · exact Or.inl ⟨z, if_pos z⟩
    · exact Or.inr ⟨z, if_neg z⟩
  have ht : ∀ j, ¬ j = 3 → ¬ j = 4 → ¬ j = 8 → up (up (up f 3 (f 3 - Pm)) 4 (f 4 + (C - Pm))) 8 (f 8 + C) j = f j := fun j a1 a2 a3 => by rw [up_ne _ _ a3, up_ne _ _ a2, up_ne _ _ a1]
  have ht3 : up (up (up f 3 (f 3 - Pm)) 4 (f 4 + (C - Pm))) 8 (f 8 + C) 3 = f 3 - Pm := by rw [up_ne _ _ (by decide), up_ne _ _ (by decide), up_eq]
  have ht4 : up (up (up f 3 (f 3 - Pm)) 4 (f 4 + (C - Pm))) 8 (f 8 + C) 4 = f 4 + (C - Pm) := by rw [up_ne _ _ (by decide), up_eq]
  have ht8 : up (up (up f 3 (f 3 - Pm)) 4 (f 4 + (C - Pm))) 8 (f 8 + C) 8 = f 8 + C := up_eq _ _ _
  generalize up (up (up f 3 (f 3 - Pm)) 4 (f 4 + (C - Pm))) 8 (f 8 + C) = t at *
  have hg : ∀ j, j < 118 ∨ (118 + 8 * e + 8 ≤ j ∨ j < 118 + 8 * e + 6) → up (up (totF (totF t (knd f e) 3 (en f e 2 - w - L)) (knd f e) 4 L) (118 + 8 * e + 7) 1) (118 + 8 * e + 6) 0 j = totF (totF t (knd f e) 3 (en f e 2 - w - L)) (knd f e) 4 L j := fun j hj => by rw [up_ne _ _ (by omega), up_ne _ _ (by omega)]
  generalize up (up (totF (totF t (knd f e) 3 (en f e 2 - w - L)) (knd f e) 4 L) (118 + 8 * e + 7) 1) (118 + 8 * e + 6) 0 = g at *
  have hlo : ∀ j, j < 32 → g j = t j := fun j hj => (hg j (by omega)).trans ((tot_ne _ _ _ _ (by omega)).trans (tot_ne _ _ _ _ (by omega)))
  have hhi : ∀ j, 68 ≤ j → (j < 118 ∨ (118 + 8 * e + 8 ≤ j ∨ j < 118 + 8 * e + 6)) → g j = f j := fun j h1 h2 => (hg j h2).trans ((tot_ne _ _ _ _ (by omega)).trans ((tot_ne _ _ _ _ (by omega)).trans (ht j (by omega) (by omega) (by omega))))
  have hen : ∀ x q, q < 5 → en g x q = en f x q := fun x q hq => hhi _ (by omega) (by omega)
  have h117 : g 117 = f 117 := hhi _ (by decide) (by omega)
  have h1 : g 1 = f 1 := (hlo 1 (by decide)).trans (ht _ (by decide) (by decide) (by decide))
  have hs : ∀ q v, q = 1 ∨ q = 4 → sq (goesF g e (en f e 2 - w)) q v + (if en f e q = v then (en f e 2 - w).toNatClampNeg else 0) = sq f q v := fun q v hq => sq_goes hq hI.opn h117 (fun x _ => hen x q (by omega)) (fun x _ => hen x 2 (by decide)) he hE.2.1 hgw
  have hGlo : ∀ {j}, j < 117 → goesF g e (en f e 2 - w) j = g j := fun hj => goes_lo g e _ hj
  have hmr : mr (goesF g e (en f e 2 - w)) = mr f := mr_c ((hGlo (by decide)).trans (hhi _ (by decide) (by omega)))
  have hrG : ∀ v, rq (goesF g e (en f e 2 - w)) v = rq f v := fun v => rq_c hmr (fun r hr => (hGlo (by omega)).trans (hhi _ (by omega) (by omega))) (fun r hr => (hGlo (by omega)).trans (hhi _ (by omega) (by omega)))
  refine ⟨hJ.1.goes hI.opn h117 h1 (fun x _ => hen x 0 (by decide)) he, ?_, hJ.2.2.1.le (fun c _ => by have := hs 4 (nI c) (Or.inr rfl); omega), fun k hk6 => ?_⟩
  · unfold JM at hm ⊢
    rw [hGlo (by decide), hGlo (by decide), hGlo (by decide), hGlo (by decide), hGlo (by decide), hGlo (by decide), hlo 3 (by decide), hlo 4 (by decide), hlo 6 (by decide), hlo 7 (by decide), hlo 8 (by decide), hlo 9 (by decide), ht3, ht4, ht8, ht 6 (by decide) (by decide) (by decide), ht 7 (by decide) (by decide) (by decide), ht 9 (by decide) (by decide) (by decide)]
    obtain ⟨m1, m2⟩ := hm
    refine ⟨by grind, ?_⟩
    rcases hPd with ⟨z, rfl⟩ | ⟨z, rfl⟩
    · rcases m2 with m2 | m2
      · rw [m2] at z
        exact absurd z (hC.nn (by decide))
      · exact Or.inr (by rw [m2]; grind)
    · exact Or.inl (by grind)
  · have h4 := hs 1 (nI k) (Or.inl rfl)
    have e1 : goesF g e (en f e 2 - w) 1 = f 1 := (hGlo (by decide)).trans h1
    have hT : ∀ q, q < 6 → goesF g e (en f e 2 - w) (32 + 6 * k + q) = totF (totF t (knd f e) 3 (en f e 2 - w - L)) (knd f e) 4 L (32 + 6 * k + q) := fun q hq => (hGlo (by omega)).trans (hg _ (by omega))
    have htt : ∀ q, q < 6 → t (32 + 6 * k + q) = f (32 + 6 * k + q) := fun q hq => ht _ (by omega) (by omega) (by omega)
    have hd2 := hd.2
    have hg2 := hgo.2
    by_cases z : k = knd f e
    · rw [if_pos ((kn_eq hE hk6).mpr z)] at h4
      have hbd := (hJ.2.2.2 k hk6).bd hI.m60
      refine (hJ.2.2.2 k hk6).upd (d := fun q => if q = 3 then (en f e 2 - w - L).toNatClampNeg else if q = 4 then L.toNatClampNeg else 0) hI.m60 (fun q _ => ?_) (fun q hq => ?_) ?_ ?_ ?_
      · split
        · omega
        · split <;> omega
      · rw [hT q hq]
        have hf := (hJ.2.2.2 k hk6).1 q hq
        have hb := hbd q hq
        rw [← z]
        by_cases q3 : q = 3
        · subst q3
          rw [tot_ne _ _ _ _ (by omega), tot_at, htt _ (by decide), if_pos rfl]
          exact (n_add hf hd.1 (by omega)).1
        · by_cases q4 : q = 4
          · subst q4
            rw [tot_at, tot_ne _ _ _ _ (by omega), htt _ (by decide), if_neg (by decide), if_pos rfl]
            exact (n_add hf hLr (by omega)).1
          · rw [tot_ne _ _ _ _ (by omega), tot_ne _ _ _ _ (by omega), htt _ hq, if_neg q3, if_neg q4]
            exact hf
      · rw [e1]
        simp
      · simp
        omega
      · rw [hrG]
        simp
    · rw [if_neg (fun y => z ((kn_eq hE hk6).mp y))] at h4
      refine (hJ.2.2.2 k hk6).keep hk6 (by rw [e1]; exact Nat.le_refl _) (fun q hq => ?_) (by omega) (by rw [hrG]; exact Nat.le_refl _)
      rw [hT q hq, tot_out _ hq (by decide) z, tot_out _ hq (by decide) z, htt q hq]
theorem JI.pay (hJ : JI f) (h12 : mr f ≤ 12) (x : Int32) (hx : 1 ≤ x) : JI (payF f x) := by
  have hm := hJ.2.1
  unfold payF
  generalize hP : pyP f x = Pm
  have hPd : (x < f 4 ∧ Pm = x) ∨ (¬ x < f 4 ∧ Pm = f 4) := by
    rw [← hP]
    unfold pyP
    by_cases z : x < f 4
    · exact Or.inl ⟨z, if_pos z⟩
    · exact Or.inr ⟨z, if_neg z⟩
  have ht : ∀ j, ¬ j = 3 → ¬ j = 4 → ¬ j = 6 → up (up (up f 4 (f 4 - Pm)) 3 (f 3 + (x - Pm))) 6 (f 6 + x) j = f j := fun j a1 a2 a3 => by rw [up_ne _ _ a3, up_ne _ _ a1, up_ne _ _ a2]
  have ht3 : up (up (up f 4 (f 4 - Pm)) 3 (f 3 + (x - Pm))) 6 (f 6 + x) 3 = f 3 + (x - Pm) := by rw [up_ne _ _ (by decide), up_eq]
  have ht4 : up (up (up f 4 (f 4 - Pm)) 3 (f 3 + (x - Pm))) 6 (f 6 + x) 4 = f 4 - Pm := by rw [up_ne _ _ (by decide), up_ne _ _ (by decide), up_eq]
  have ht6 : up (up (up f 4 (f 4 - Pm)) 3 (f 3 + (x - Pm))) 6 (f 6 + x) 6 = f 6 + x := up_eq _ _ _
  generalize up (up (up f 4 (f 4 - Pm)) 3 (f 3 + (x - Pm))) 6 (f 6 + x) = t at *
  refine ⟨hJ.1.same (ht _ (by decide) (by decide) (by decide)) (ht _ (by decide) (by decide) (by decide)) (fun e _ => ht _ (by omega) (by omega) (by omega)), ?_, hJ.2.2.1.same (ht _ (by decide) (by decide) (by decide)) (fun e _ => ht _ (by omega) (by omega) (by omega)) (fun e _ => ht _ (by omega) (by omega) (by omega)), hJ.2.2.2.same (fun j _ _ => ht _ (by omega) (by omega) (by omega)) (ht _ (by decide) (by decide) (by decide)) (ht _ (by decide) (by decide) (by decide)) (ht _ (by decide) (by decide) (by decide)) (fun e _ => ht _ (by omega) (by omega) (by omega)) (fun e _ => ht _ (by omega) (by omega) (by omega)) (fun e _ => ht _ (by omega) (by omega) (by omega)) (fun e _ => ht _ (by omega) (by omega) (by omega))⟩
  unfold JM at hm ⊢
  rw [ht3, ht4, ht6, ht 7 (by decide) (by decide) (by decide), ht 8 (by decide) (by decide) (by decide), ht 9 (by decide) (by decide) (by decide)]
  obtain ⟨m1, m2⟩ := hm
  refine ⟨by grind, ?_⟩
  rcases hPd with ⟨z, rfl⟩ | ⟨z, rfl⟩
  · rcases m2 with m2 | m2
    · exact Or.inl (by rw [m2]; grind)
    · rw [m2, Int32.lt_iff_toInt_lt] at z
      rw [Int32.le_iff_toInt_le] at hx
      have e0 : (0 : Int32).toInt = 0 := rfl
      have e1 : (1 : Int32).toInt = 1 := rfl
      omega
  · exact Or.inr (by grind)
theorem JI.lock (hJ : JI f) (h12 : mr f ≤ 12) {c : Nat} (hc : c < 5) : JI (lockF f c) := by
  have ht : ∀ j, 3 ≤ j → ¬ j = 10 + c → ¬ j = 15 + c → lockF f c j = f j := fun j h1 h2 h3 => by
    unfold lockF
    rw [up_ne _ _ h3, up_ne _ _ h2, up_ne _ _ (by omega)]
  have e1 : lockF f c 1 = f 1 := by
    unfold lockF
    rw [up_ne _ _ (by omega), up_ne _ _ (by omega), up_ne _ _ (by decide)]
  exact hJ.same (ht _ (by omega) (by omega) (by omega)) (ht _ (by omega) (by omega) (by omega)) (fun k _ _ => ht _ (by omega) (by omega) (by omega)) (fun j _ _ => ht _ (by omega) (by omega) (by omega)) e1 (ht _ (by omega) (by omega) (by omega)) h12 (fun e q _ _ => ht _ (by omega) (by omega) (by omega))
theorem JI.up1 (hJ : JI f) (h12 : mr f ≤ 12) {j : Nat} (hj : j = 5 ∨ (10 ≤ j ∧ j < 32)) (v : Int32) : JI (up f j v) :=
  hJ.same (up_ne _ _ (by omega)) (up_ne _ _ (by omega)) (fun k _ _ => up_ne _ _ (by omega)) (fun k _ _ => up_ne _ _ (by omega)) (up_ne _ _ (by omega)) (up_ne _ _ (by omega)) h12 (fun e q _ _ => up_ne _ _ (by omega))
theorem JI.unseal (hJ : JI f) (h12 : mr f ≤ 12) {c : Nat} (hc : c < 5) : JI (opF f c).2 := by
  have ht : ∀ j, ¬ j = 10 + c → ¬ j = 15 + c → (∀ e, ¬ j = 118 + 8 * e + 7) → (opF f c).2 j = f j := fun j h1 h2 h3 => by
    unfold opF opL
    rw [op_at _ _ _ _ _ (fun ⟨e, _, he⟩ => h3 e he), up_ne _ _ h2, up_ne _ _ h1]
  exact hJ.same (ht _ (by omega) (by omega) (by omega)) (ht _ (by omega) (by omega) (by omega)) (fun k _ _ => ht _ (by omega) (by omega) (by omega)) (fun j _ _ => ht _ (by omega) (by omega) (by omega)) (ht _ (by omega) (by omega) (by omega)) (ht _ (by omega) (by omega) (by omega)) h12 (fun e q _ hq => ht _ (by omega) (by omega) (by omega))
theorem JI.pass (hJ : JI f) (h12 : mr f ≤ 12) (d : Int32) : JI (passF f d) := by
  have ht : ∀ j, ¬ j = 0 → (∀ e, ¬ (j = 118 + 8 * e + 5 ∨ j = 118 + 8 * e + 6)) → passF f d j = f j := fun j h1 h2 => by
    unfold passF
    rw [up_ne _ _ h1, ps_at, if_neg (fun ⟨e, _, he⟩ => h2 e he)]
  exact hJ.same (ht _ (by omega) (by omega)) (ht _ (by omega) (by omega)) (fun k _ _ => ht _ (by omega) (by omega)) (fun j _ _ => ht _ (by omega) (by omega)) (ht _ (by omega) (by omega)) (ht _ (by omega) (by omega)) h12 (fun e q _ hq => ht _ (by omega) (by omega))
end JKEEP2
