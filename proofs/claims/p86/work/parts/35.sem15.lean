section SEM15
variable {m m' mm : Mm} {i a s : Nat} {f : Nat → Int32} {S : Mm → Prop} {Q : Int32 → Mm → Prop}
theorem sub_assoc32 (x y z : Int32) : x + y - z = x + (y - z) := by
  rw [Int32.sub_eq_add_neg, Int32.sub_eq_add_neg, Int32.add_assoc]
theorem loss_rng (hI : Inv a s f) {e : Nat} (he : e < mo f) {w : Int32} (hw : rng w (en f e 2).toNatClampNeg) : rng (lossF f e w) ((en f e 2).toNatClampNeg - w.toNatClampNeg) := by
  have hE := hI.ent e he
  have ha := allow_rng hE hI.day
  unfold lossF
  have h1 := hE.2.1.2
  have h2 := hw.2
  have h3 := ha.2
  rw [hE.2.1.1, hw.1, ha.1, pk_sub h2]
  rw [rs_tn (show (en f e 2).toNatClampNeg < 2147483648 by omega), rs_tn (show w.toNatClampNeg < 2147483648 by omega)]
  generalize (en f e 2).toNatClampNeg = W at *
  generalize w.toNatClampNeg = w' at *
  generalize (allowF f e).toNatClampNeg = y' at *
  split
  · rename_i h
    rw [Int32.lt_iff_toInt_lt, pk_sub_toInt (by omega) (by omega)] at h
    simp at h
    rw [pk_sub (by omega)]
    exact rng_of (by omega) (by omega)
  · exact rng_of (Nat.zero_le _) (by omega)
theorem d_weigh (hR : RS m 1 f) (hI : Inv a s f) (hsv : ∀ Q' : Mm → Prop, (∀ m1, S m1 → Q' m1) → w_X3_save 1 m Q') (hS : ∀ m1, S m1 → RS m1 1 f ∧ m1.2 = m.2) (p w : Int32) (he : fiE f p < mo f) (hw : 0 ≤ w ∧ w ≤ en f (fiE f p) 2)
    (h3 : ¬ f (10 + (en f (fiE f p) 4).toNatClampNeg) ≤ 0 → Q (-3) m) (h0 : f (10 + (en f (fiE f p) 4).toNatClampNeg) ≤ 0 → ∀ m1 m', S m1 → Fr 1 m1 m' → RS m' 1 (weighF f (fiE f p) w) → Q (chargeF f (fiE f p) (lossF f (fiE f p) w)) m') : w_X1_putOnScales p w m Q := by
  have h6 : fiE f p < 16 := Nat.lt_of_lt_of_le he hI.mo16
  have hE := hI.ent _ he
  have hv5 : vp_in (en f (fiE f p) 4) 5 := hE.2.2.2.2.1.vp (by decide) (by decide)
  have hwr : rng w (en f (fiE f p) 2).toNatClampNeg := rng_le hE.2.1 (by decide) hw.1 hw.2
  unfold w_X1_putOnScales
  simp only [c_findEntry hR hI i1, he, isWithin_iff, hR.e2 he, hw, hR.e4 he, hv5, hR.ne0 h6, hR.oke i1 h6, c_isSealed hR hE.c.2, z10, not_true_eq_false, not_false_eq_true, false_implies, true_implies, true_and, and_true, if_true, if_false, reduceIte]
  by_cases b1 : f (10 + (en f (fiE f p) 4).toNatClampNeg) ≤ 0
  · simp only [b1, z10, not_true_eq_false, not_false_eq_true, false_implies, true_implies, true_and, and_true, if_true, if_false, reduceIte]
    have h0 := h0 b1
    refine hsv _ (fun m13 h13 => ?_)
    obtain ⟨hR13, e13⟩ := hS m13 h13
    have h0 := fun m' => h0 m13 m' h13
    rw [← e13]
    generalize fiE f p = e at *
    rw [hR13.e2 he]
    intro x14 ex14
    subst ex14
    simp only [c_lossIf hR13 hI he, c_chargeFor hR13 hI he]
    have hox : own 3 (m13.2 7 1 e) = 1 := own3 (by decide) (hR13.2.2.2.2.2.2.1 _ h6)
    generalize hL : lossF f e w = L at *
    generalize hC : chargeF f e L = C at *
    unfold w_X6_takeCharge
    rw [hR13.acct]
    intro x1 ex n2 f2 n3 f3 n4 f4
    rw [show n2.1 2 1 2 = f 4 by rw [f2]; exact hR13.debt] at f3
    rw [show n3.1 2 1 5 = f 8 by rw [f3, f2]; exact hR13.chgs] at f4
    have ex : x1 = wgP f C := ex
    subst ex
    rw [sub_assoc32] at f3
    have g2 := hR13.pm hI.mr12 (q := 1) (by decide) (f 3 - wgP f C)
    have g3 := g2.pm (by rw [mr_up _ _ (by decide)]; exact hI.mr12) (q := 2) (by decide) (f 4 + (C - wgP f C))
    have g4 := g3.pm (by rw [mr_up _ _ (by decide), mr_up _ _ (by decide)]; exact hI.mr12) (q := 5) (by decide) (f 8 + C)
    rw [← f2, ← f3, ← f4] at g4
    have g4 : RS n4 1 (up (up (up f 3 (f 3 - wgP f C)) 4 (f 4 + (C - wgP f C))) 8 (f 8 + C)) := g4
    have hF4 : Fr 1 m13 n4 := by rw [f4, f3, f2]; exact ((Fr.sI _ _ _ (own2 1)).trans (Fr.sI _ _ _ (own2 1))).trans (Fr.sI _ _ _ (own2 1))
    have p4 : n4.2 = m13.2 := by rw [f4, f3, f2]; rfl
    have q4 : n4.1 3 = m13.1 3 := by rw [f4, f3, f2]; rfl
    generalize hG : up (up (up f 3 (f 3 - wgP f C)) 4 (f 4 + (C - wgP f C))) 8 (f 8 + C) = g at *
    have glo : ∀ k, ¬ k = 3 → ¬ k = 4 → ¬ k = 8 → g k = f k := fun k h1 h2 h3 => by rw [← hG, up_ne _ _ h3, up_ne _ _ h2, up_ne _ _ h1]
    have gmr : mr g = mr f := by unfold mr; rw [glo _ (by omega) (by omega) (by omega)]
    have hk6 := hE.k.2
    have hv6 : vp_in (en f e 1) 6 := hE.1.vp (by decide) (by decide)
    have hk1 : n4.1 3 (m13.2 7 1 e) 1 = en f e 1 := by rw [q4]; exact hR13.e1 he
    rw [hk1]
    refine ⟨hv6, ?_⟩
    show ∀ m_22 : Mm, m_22 = sI n4 6 (6 * (1 - 1) + knd f e + 1) 6 (n4.1 6 (6 * (1 - 1) + knd f e + 1) 6 + L) → _
    rw [g4.k6 hk6]
    intro n5 f5
    have hk2 : n5.1 3 (m13.2 7 1 e) 1 = en f e 1 := by rw [f5]; exact hk1
    rw [hk2]
    refine ⟨hv6, ?_⟩
    show ∀ m_24 : Mm, m_24 = sI n5 6 (6 * (1 - 1) + knd f e + 1) 5 (n5.1 6 (6 * (1 - 1) + knd f e + 1) 5 + (en f e 2 - w - L)) → _
    have g5 := g4.pk (by rw [gmr]; exact hI.mr12) hk6 (q := 6) (by decide) (g (30 + 6 * knd f e + 6) + L)
    rw [← f5, show kix (knd f e) 6 = 32 + 6 * knd f e + 4 by unfold kix; simp; omega, show 30 + 6 * knd f e + 6 = 32 + 6 * knd f e + 4 by omega] at g5
    rw [g5.k5 hk6]
    intro n6 f6
    have g6 := g5.pk (by rw [mr_up _ _ (by omega), gmr]; exact hI.mr12) hk6 (q := 5) (by decide) (up g (32 + 6 * knd f e + 4) (g (32 + 6 * knd f e + 4) + L) (30 + 6 * knd f e + 5) + (en f e 2 - w - L))
    rw [← f6, show kix (knd f e) 5 = 32 + 6 * knd f e + 3 by unfold kix; simp; omega, show 30 + 6 * knd f e + 5 = 32 + 6 * knd f e + 3 by omega] at g6
    have hGG : up (up g (32 + 6 * knd f e + 4) (g (32 + 6 * knd f e + 4) + L)) (32 + 6 * knd f e + 3) (up g (32 + 6 * knd f e + 4) (g (32 + 6 * knd f e + 4) + L) (32 + 6 * knd f e + 3) + (en f e 2 - w - L)) = totF (totF g (knd f e) 3 (en f e 2 - w - L)) (knd f e) 4 L := by
      unfold totF
      rw [up_ne g _ (show ¬ 32 + 6 * knd f e + 3 = 32 + 6 * knd f e + 4 by omega), up_ne g _ (show ¬ 32 + 6 * knd f e + 4 = 32 + 6 * knd f e + 3 by omega), up_comm _ _ _ (show ¬ 32 + 6 * knd f e + 4 = 32 + 6 * knd f e + 3 by omega)]
    rw [hGG] at g6
    have hF6 : Fr 1 m13 n6 := hF4.trans (by rw [f6, f5]; exact (Fr.sI _ _ _ (own6 (by decide) hk6)).trans (Fr.sI _ _ _ (own6 (by decide) hk6)))
    have p6 : n6.2 = m13.2 := by rw [f6, f5]; exact p4
    have hrest : ∀ k, k = 0 ∨ k = 68 ∨ 117 ≤ k → totF (totF g (knd f e) 3 (en f e 2 - w - L)) (knd f e) 4 L k = f k := fun k hk => by
      unfold totF
      rw [up_ne _ _ (by omega), up_ne _ _ (by omega), glo _ (by omega) (by omega) (by omega)]
    generalize hH : totF (totF g (knd f e) 3 (en f e 2 - w - L)) (knd f e) 4 L = h at *
    have hmo : mo h = mo f := by unfold mo; rw [hrest _ (by omega)]
    have hmr : mr h = mr f := by unfold mr; rw [hrest _ (by omega)]
    have hen : ∀ q, en h e q = en f e q := fun q => hrest _ (by omega)
    have hp1 := hw.1
    have hmis : rng (en f e 2 - w) (en f e 2).toNatClampNeg := by
      have z1 := hE.2.1.2
      have z2 := hwr.2
      rw [hE.2.1.1, hwr.1, pk_sub z2]
      rw [rs_tn (show (en f e 2).toNatClampNeg < 2147483648 by omega)]
      exact rng_of (by omega) (by omega)
    rw [← p6]
    refine c_losePart g6 (by rw [hmr]; exact hI.mr12) (by rw [hmo]; exact hI.mo16) (by rw [hmo]; exact he) (by rw [hen]; exact hE.p) (by decide) _ _ (fun n7 e7 hF7 g7 => ?_)
    have ph : ∀ k, k < 118 ∨ k = 118 + 8 * e + 6 ∨ k = 118 + 8 * e + 7 → partG h e (en f e 2 - w) k = h k := fun k hk => by
      unfold partG
      rw [up_ne _ _ (by omega), up_ne _ _ (by omega)]
    have pmo : mo (partG h e (en f e 2 - w)) = mo f := by unfold mo; rw [ph _ (by omega)]; exact hmo
    have pmr : mr (partG h e (en f e 2 - w)) = mr f := by unfold mr; rw [ph _ (by omega)]; exact hmr
    intro n8 f8 n9 f9
    rw [show n8.1 1 1 0 = f 0 by rw [f8]; show n7.1 1 1 0 = f 0; rw [g7.day, ph _ (by omega), hrest _ (by omega)]] at f9
    have g8 := g7.pe (e := e) (by rw [pmr]; exact hI.mr12) (by rw [pmo]; exact hI.mo16) (by rw [pmo]; exact he) (q := 7) (by decide) 1
    rw [e7] at g8
    have g8 : RS n8 1 (up (partG h e (en f e 2 - w)) (118 + 8 * e + 7) 1) := by rw [f8]; exact g8
    have g9 := g8.pe (e := e) (by rw [mr_up _ _ (by omega), pmr]; exact hI.mr12) (by rw [mo_up _ _ (by omega), pmo]; exact hI.mo16) (by rw [mo_up _ _ (by omega), pmo]; exact he) (q := 6) (by decide) 0
    have hcv : cv (up (partG h e (en f e 2 - w)) (118 + 8 * e + 7) 1) 6 0 = f 0 := by
      unfold cv
      rw [if_pos (by decide), up_ne _ _ (by omega), ph _ (by omega), hrest _ (by omega), Int32.sub_zero]
    rw [hcv, show n8.2 = n7.2 by rw [f8]; rfl, e7, ← f9] at g9
    have hsame : up (up (partG h e (en f e 2 - w)) (118 + 8 * e + 7) 1) (118 + 8 * e + 6) 0 = partG (wgF f e w) e (en f e 2 - w) := by
      have hwg : wgF f e w = up (up h (118 + 8 * e + 7) 1) (118 + 8 * e + 6) 0 := by
        unfold wgF
        rw [hL, hC, hG, hH]
      rw [hwg]
      have i3 : en (up (up h (118 + 8 * e + 7) 1) (118 + 8 * e + 6) 0) e 3 = en h e 3 := by rw [en_ot _ _ (by decide) (by decide) (by decide), en_ot _ _ (by decide) (by decide) (by decide)]
      have i2 : en (up (up h (118 + 8 * e + 7) 1) (118 + 8 * e + 6) 0) e 2 = en h e 2 := by rw [en_ot _ _ (by decide) (by decide) (by decide), en_ot _ _ (by decide) (by decide) (by decide)]
      unfold partG shareF
      rw [i3, i2]
      rw [up_comm _ _ _ (show ¬ 118 + 8 * e + 2 = 118 + 8 * e + 7 by omega), up_comm _ _ _ (show ¬ 118 + 8 * e + 3 = 118 + 8 * e + 7 by omega), up_comm _ _ _ (show ¬ 118 + 8 * e + 2 = 118 + 8 * e + 6 by omega), up_comm _ _ _ (show ¬ 118 + 8 * e + 3 = 118 + 8 * e + 6 by omega)]
    rw [hsame] at g9
    have hF9 : Fr 1 n6 n9 := hF7.trans (by rw [f9, f8]; rw [← p6] at hox; exact (Fr.sI _ _ _ hox).trans (Fr.sI _ _ _ hox))
    have p9 : n9.2 = n6.2 := by rw [f9, f8]; exact e7
    have hwg2 : en (wgF f e w) e 2 = en f e 2 := wg_at f hk6 (Or.inr ⟨by omega, by omega⟩)
    have hwg117 : wgF f e w 117 = f 117 := wg_at f hk6 (Or.inl rfl)
    have wmo : mo (partG (wgF f e w) e (en f e 2 - w)) = mo f := by unfold mo; rw [partG_lo _ _ (by decide), hwg117]
    have w117 : partG (wgF f e w) e (en f e 2 - w) 117 = f 117 := by rw [partG_lo _ _ (by decide), hwg117]
    have wmr : mr (partG (wgF f e w) e (en f e 2 - w)) = mr f := by
      rw [← hsame, mr_up _ _ (by omega), mr_up _ _ (by omega), pmr]
    have wen : en (partG (wgF f e w) e (en f e 2 - w)) e 2 = en f e 2 - (en f e 2 - w) := by
      unfold partG
      rw [en_up_e, hwg2]
    have hc := c_closeIfEmpty g9 (by rw [wmr]; exact hI.mr12) (by rw [w117]; exact hI.opn) i1 (e := e) (by rw [wmo]; exact he) (fun m3 => Q C m3)
    rw [p9, wen] at hc
    have hz0 := sub_le0 hE.2.1 hmis
    refine hc (fun hz m3 e3 hF3 hR3 => h0 m3 ((hF6.trans hF9).trans hF3) ?_) (fun hz => h0 n9 (hF6.trans hF9) ?_)
    · unfold weighF goesF
      rw [hwg2, if_pos (hz0.mp hz)]
      exact hR3
    · unfold weighF goesF
      rw [hwg2, if_neg (fun z => hz (hz0.mpr z))]
      exact g9
  · simp only [b1, z10, not_true_eq_false, not_false_eq_true, false_implies, true_implies, true_and, and_true, if_true, if_false, reduceIte]
    exact h3 b1
/-! chambers -/
theorem slc_pos {x : Int32} (h : ¬ x ≤ 0) : slc x = x := if_neg h
theorem cr5 {c : Nat} (hc : c < 5) : 0 ≤ nI c ∧ nI c ≤ 4 := ⟨nI_pos' (by omega), by rw [show (4 : Int32) = nI 4 from rfl]; exact nI_le (by omega) (by decide)⟩
theorem d_lock (hR : RS m 1 f) (hI : Inv a s f) (hsv : ∀ Q' : Mm → Prop, (∀ m1, S m1 → Q' m1) → w_X3_save 1 m Q') (hS : ∀ m1, S m1 → RS m1 1 f ∧ m1.2 = m.2) {c : Nat} (hc : c < 5)
    (h3 : ¬ f (10 + c) ≤ 0 → Q (-3) m) (h0 : f (10 + c) ≤ 0 → ∀ m1 m', S m1 → Fr 1 m1 m' → RS m' 1 (lockF f c) → Q (f 2 + 1) m') (hpos : ¬ f 2 + 1 ≤ 0) : w_X1_putSeal (nI c) m Q := by
  have hv5 : vp_in (nI c) 5 := vp_in_nI hc (by decide)
  have ht : (nI c).toNatClampNeg = c := rs_tn (by omega)
  unfold w_X1_putSeal
  simp only [isWithin_iff, cr5 hc, hv5, ht, c_isSealed hR hc, z10, not_true_eq_false, not_false_eq_true, false_implies, true_implies, true_and, and_true, if_true, if_false, reduceIte]
  by_cases b1 : f (10 + c) ≤ 0
  · simp only [b1, z10, not_true_eq_false, not_false_eq_true, false_implies, true_implies, true_and, and_true, if_true, if_false, reduceIte]
    have h0 := h0 b1
    refine hsv _ (fun m9 h9 => ?_)
    obtain ⟨hR9, e9⟩ := hS m9 h9
    rw [hR9.seals]
    intro n1 f1 n2 f2
    have hs1 : n1.1 1 1 3 = f 2 + 1 := by rw [f1]; exact sI_at _ _ _ _ _
    rw [hs1] at f2
    have g1 := hR9.ps hI.mr12 (f 2 + 1)
    have g2 := g1.pc0 (by rw [mr_up _ _ (by decide)]; exact hI.mr12) hc (f 2 + 1)
    rw [slc_pos hpos, ← f1, ← f2] at g2
    have hb : f (15 + c) = 0 := (hI.cham c hc).2.2 b1
    have hrd : n2.1 5 (5 * (1 - 1) + c + 1) 0 = f 2 + 1 := by rw [f2]; exact sI_at _ _ _ _ _
    rw [hrd]
    refine h0 m9 n2 h9 (by rw [f2, f1]; exact (Fr.sI _ _ _ (own1 1)).trans (Fr.sI _ _ _ (own5 (by decide) hc))) ?_
    have : lockF f c = up (up f 2 (f 2 + 1)) (10 + c) (f 2 + 1) := by
      unfold lockF
      funext k
      by_cases z : k = 15 + c
      · subst z
        rw [up_eq, up_ne _ _ (by omega), up_ne _ _ (by omega), hb]
      · rw [up_ne _ _ z]
    rw [this]
    exact g2
  · simp only [b1, z10, not_true_eq_false, not_false_eq_true, false_implies, true_implies, true_and, and_true, if_true, if_false, reduceIte]
    exact h3 b1
theorem d_break (hR : RS m 1 f) (hI : Inv a s f) (hsv : ∀ Q' : Mm → Prop, (∀ m1, S m1 → Q' m1) → w_X3_save 1 m Q') (hS : ∀ m1, S m1 → RS m1 1 f ∧ m1.2 = m.2) {c : Nat} (hc : c < 5)
    (h3 : ¬ (¬ f (10 + c) ≤ 0 ∧ f (15 + c) = 0) → Q (-3) m) (h0 : (¬ f (10 + c) ≤ 0 ∧ f (15 + c) = 0) → ∀ m1 m', S m1 → Fr 1 m1 m' → RS m' 1 (breakF f c) → Q (f (10 + c)) m') : w_X1_damageSeal (nI c) m Q := by
  have hv5 : vp_in (nI c) 5 := vp_in_nI hc (by decide)
  have ht : (nI c).toNatClampNeg = c := rs_tn (by omega)
  unfold w_X1_damageSeal
  simp only [isWithin_iff, cr5 hc, hv5, ht, c_isSealed hR hc, hR.brok hc, z10, not_true_eq_false, not_false_eq_true, false_implies, true_implies, true_and, and_true, if_true, if_false, reduceIte]
  by_cases b1 : f (10 + c) ≤ 0
  · simp only [b1, z10, not_true_eq_false, not_false_eq_true, false_implies, true_implies, true_and, and_true, if_true, if_false, reduceIte]
    exact h3 (fun z => z.1 b1)
  · by_cases b2 : f (15 + c) = 0
    · simp only [b1, b2, z10, not_true_eq_false, not_false_eq_true, false_implies, true_implies, true_and, and_true, if_true, if_false, reduceIte]
      have h0 := h0 ⟨b1, b2⟩
      refine hsv _ (fun m9 h9 => ?_)
      obtain ⟨hR9, e9⟩ := hS m9 h9
      intro n1 f1
      have g1 := hR9.pc1 hI.mr12 hc 1
      rw [← f1] at g1
      have hrd : n1.1 5 (5 * (1 - 1) + c + 1) 0 = f (10 + c) := by
        rw [g1.seal hc, up_ne _ _ (by omega), slc_pos b1]
      rw [hrd]
      exact h0 m9 n1 h9 (by rw [f1]; exact Fr.sI _ _ _ (own5 (by decide) hc)) g1
    · simp only [b1, b2, z10, not_true_eq_false, not_false_eq_true, false_implies, true_implies, true_and, and_true, if_true, if_false, reduceIte]
      exact h3 (fun z => b2 z.2)
/-! money -/
theorem d_pay (hR : RS m 1 f) (hI : Inv a s f) (hsv : ∀ Q' : Mm → Prop, (∀ m1, S m1 → Q' m1) → w_X3_save 1 m Q') (hS : ∀ m1, S m1 → RS m1 1 f ∧ m1.2 = m.2) (x : Int32) (hx : 1 ≤ x ∧ x ≤ 9999)
    (h3 : ¬ afterF f x ≤ 99999 → Q (-3) m) (h0 : afterF f x ≤ 99999 → ∀ m1 m', S m1 → Fr 1 m1 m' → RS m' 1 (payF f x) → Q (afterF f x) m') : w_X1_payIn x m Q := by
  unfold w_X1_payIn w_X6_accountAfter
  simp only [isWithin_iff, hx, hR.acct, hR.debt, z10, not_true_eq_false, not_false_eq_true, false_implies, true_implies, true_and, and_true, if_true, if_false, reduceIte]
  show (afterF f x ≤ 99999 → _) ∧ (¬ afterF f x ≤ 99999 → _)
  refine ⟨fun hy => ?_, h3⟩
  have h0 := h0 hy
  refine hsv _ (fun m8 h8 => ?_)
  obtain ⟨hR8, e8⟩ := hS m8 h8
  unfold w_X6_takeDeposit w_X6_accountAfter
  rw [hR8.acct, hR8.debt]
  show ∀ m_3 : Mm, m_3 = sI m8 2 1 1 (afterF f x) → _
  intro n1 f1 n2 f2
  rw [show n1.1 2 1 2 = f 4 by rw [f1]; exact hR8.debt] at f2
  intro n3 f3
  rw [show n2.1 2 1 3 = f 6 by rw [f2, f1]; exact hR8.deps] at f3
  have f2 : n2 = sI n1 2 1 2 (f 4 - pyP f x) := f2
  have g1 := hR8.pm hI.mr12 (q := 1) (by decide) (afterF f x)
  have g2 := g1.pm (by rw [mr_up _ _ (by decide)]; exact hI.mr12) (q := 2) (by decide) (f 4 - pyP f x)
  have g3 := g2.pm (by rw [mr_up _ _ (by decide), mr_up _ _ (by decide)]; exact hI.mr12) (q := 3) (by decide) (f 6 + x)
  rw [← f1, ← f2, ← f3] at g3
  have g3 : RS n3 1 (up (up (up f 3 (afterF f x)) 4 (f 4 - pyP f x)) 6 (f 6 + x)) := g3
  have hfin : up (up (up f 3 (afterF f x)) 4 (f 4 - pyP f x)) 6 (f 6 + x) = payF f x := by
    unfold payF
    rw [after_eq, up_comm f _ _ (show ¬ 3 = 4 by decide)]
  rw [hfin] at g3
  have hrd : n3.1 2 1 1 = afterF f x := by
    rw [f3, f2, f1]
    simp [sI_1]
  rw [hrd]
  exact h0 m8 n3 h8 (by rw [f3, f2, f1]; exact ((Fr.sI _ _ _ (own2 1)).trans (Fr.sI _ _ _ (own2 1))).trans (Fr.sI _ _ _ (own2 1))) g3
theorem d_bond (hR : RS m 1 f) (hI : Inv a s f) (hsv : ∀ Q' : Mm → Prop, (∀ m1, S m1 → Q' m1) → w_X3_save 1 m Q') (hS : ∀ m1, S m1 → RS m1 1 f ∧ m1.2 = m.2) (x : Int32) (hx : 0 ≤ x ∧ x ≤ 50000)
    (h3 : ¬ stakeF f ≤ x → Q (-3) m) (h0 : stakeF f ≤ x → ∀ m1 m', S m1 → Fr 1 m1 m' → RS m' 1 (up f 5 x) → Q (f 5) m') : w_X1_changeBond x m Q := by
  unfold w_X1_changeBond
  simp only [isWithin_iff, hx, c_stake hR hI i1, z10, not_true_eq_false, not_false_eq_true, false_implies, true_implies, true_and, and_true, if_true, if_false, reduceIte]
  refine ⟨fun hy => ?_, h3⟩
  have h0 := h0 hy
  refine hsv _ (fun m8 h8 => ?_)
  obtain ⟨hR8, e8⟩ := hS m8 h8
  rw [hR8.bond]
  intro x9 ex n1 f1
  subst ex
  have g1 := hR8.pm hI.mr12 (q := 0) (by decide) x
  rw [← f1] at g1
  exact h0 m8 n1 h8 (by rw [f1]; exact Fr.sI _ _ _ (own2 1)) g1
theorem kr6 {k : Nat} (hk : k < 6) : 0 ≤ nI k ∧ nI k ≤ 5 := ⟨nI_pos' (by omega), by rw [show (5 : Int32) = nI 5 from rfl]; exact nI_le (by omega) (by decide)⟩
theorem d_rateV (hR : RS m 1 f) (hI : Inv a s f) (hsv : ∀ Q' : Mm → Prop, (∀ m1, S m1 → Q' m1) → w_X3_save 1 m Q') (hS : ∀ m1, S m1 → RS m1 1 f ∧ m1.2 = m.2) {k : Nat} (hk : k < 6) (x : Int32) (hx : 0 ≤ x ∧ x ≤ 60)
    (h0 : ∀ m1 m', S m1 → Fr 1 m1 m' → RS m' 1 (up f (20 + k) x) → Q (f (20 + k)) m') : w_X1_changeRateByValue (nI k) x m Q := by
  have hv : vp_in (nI k) 6 := vp_in_nI hk (by decide)
  have ht : (nI k).toNatClampNeg = k := rs_tn (by omega)
  unfold w_X1_changeRateByValue
  simp only [isWithin_iff, kr6 hk, hx, hv, ht, z10, not_true_eq_false, not_false_eq_true, false_implies, true_implies, true_and, and_true, if_true, if_false, reduceIte]
  refine hsv _ (fun m8 h8 => ?_)
  obtain ⟨hR8, e8⟩ := hS m8 h8
  rw [hR8.k0 hk]
  intro x9 ex n1 f1
  subst ex
  have g1 := hR8.pk hI.mr12 hk (q := 0) (by decide) x
  rw [← f1] at g1
  exact h0 m8 n1 h8 (by rw [f1]; exact Fr.sI _ _ _ (own6 (by decide) hk)) g1
theorem d_rateW (hR : RS m 1 f) (hI : Inv a s f) (hsv : ∀ Q' : Mm → Prop, (∀ m1, S m1 → Q' m1) → w_X3_save 1 m Q') (hS : ∀ m1, S m1 → RS m1 1 f ∧ m1.2 = m.2) {k : Nat} (hk : k < 6) (x : Int32) (hx : 0 ≤ x ∧ x ≤ 80)
    (h0 : ∀ m1 m', S m1 → Fr 1 m1 m' → RS m' 1 (up f (26 + k) x) → Q (f (26 + k)) m') : w_X1_changeRateByWeight (nI k) x m Q := by
  have hv : vp_in (nI k) 6 := vp_in_nI hk (by decide)
  have ht : (nI k).toNatClampNeg = k := rs_tn (by omega)
  unfold w_X1_changeRateByWeight
  simp only [isWithin_iff, kr6 hk, hx, hv, ht, z10, not_true_eq_false, not_false_eq_true, false_implies, true_implies, true_and, and_true, if_true, if_false, reduceIte]
  refine hsv _ (fun m8 h8 => ?_)
  obtain ⟨hR8, e8⟩ := hS m8 h8
  rw [hR8.k1 hk]
  intro x9 ex n1 f1
  subst ex
  have g1 := hR8.pk hI.mr12 hk (q := 1) (by decide) x
  rw [← f1] at g1
  exact h0 m8 n1 h8 (by rw [f1]; exact Fr.sI _ _ _ (own6 (by decide) hk)) g1
end SEM15

