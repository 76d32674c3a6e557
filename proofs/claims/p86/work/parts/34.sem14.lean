section SEM14
variable {m m' mm : Mm} {i a s : Nat} {f : Nat → Int32} {S : Mm → Prop} {Q : Int32 → Mm → Prop}
/-- the row's dead cells don't matter -/
theorem RS.congr {g : Nat → Int32} (h : RS m i f) (hm : mo g = mo f) (hlo : ∀ k, k < 118 → g k = f k) (hen : ∀ e q, e < mo f → q < 8 → en g e q = en f e q) (h12 : mr f ≤ 12) : RS m i g := by
  obtain ⟨h1, h2, h3, h4, h5, h6, h7⟩ := h
  refine ⟨fun q hq => ?_, fun q hq => ?_, fun c hc => ?_, fun k hk q hq => ?_, fun e he q hq => ?_, fun r hr q hq => ?_, h7⟩
  · rw [h1 q hq, hlo]
    have : q = 0 ∨ q = 1 ∨ q = 2 ∨ q = 3 ∨ q = 4 := by omega
    rcases this with rfl | rfl | rfl | rfl | rfl <;> decide
  · have := mix_rng hq
    rw [h2 q hq, hlo _ (by omega)]
  · rw [hlo _ (by omega), hlo _ (by omega)]
    exact h3 c hc
  · have := kix_rng hk hq
    rw [hlo _ (by omega)]
    exact h4 k hk q hq
  · rw [hm] at he
    unfold ev
    rw [hen e q he hq, hlo 0 (by omega)]
    exact h5 e he q hq
  · have : mr g = mr f := by unfold mr; rw [hlo _ (by omega)]
    rw [this] at hr
    rw [h6 r hr q hq]
    unfold rc
    rw [hlo _ (by omega)]
/-! merge -/
def mgA (f : Nat → Int32) (x y : Nat) : Int32 := if en f x 5 ≤ en f y 5 then en f y 5 else en f x 5
def mgW (f : Nat → Int32) (x y : Nat) : Int32 := if en f y 6 ≤ en f x 6 then en f y 6 else en f x 6
def mgF (f : Nat → Int32) (x y : Nat) : Nat → Int32 := up (up (up (up f (118 + 8 * x + 2) (en f x 2 + en f y 2)) (118 + 8 * x + 3) (en f x 3 + en f y 3)) (118 + 8 * x + 5) (mgA f x y)) (118 + 8 * x + 6) (mgW f x y)
def mergeF (f : Nat → Int32) (x y : Nat) : Nat → Int32 := closeF (mgF f x y) y
theorem mg_at (f : Nat → Int32) {x y k : Nat} (h : ¬ (118 + 8 * x ≤ k ∧ k < 126 + 8 * x)) : mgF f x y k = f k := by
  unfold mgF
  rw [up_ne _ _ (by omega), up_ne _ _ (by omega), up_ne _ _ (by omega), up_ne _ _ (by omega)]
theorem m_mergeB (hI : Inv a s (mm.1 32 1)) {x y : Nat} (hx : x < mo (mm.1 32 1)) (hy : y < mo (mm.1 32 1)) (hxy : ¬ x = y) (Q : Int32 → Mm → Prop) : (w_X10_of (nI x) 2 mm (fun (r_11 : Int32) => w_X10_of (nI y) 2 mm (fun (r_13 : Int32) => ∀ x_15 : Int32, x_15 = (r_11 + r_13) → (w_X10_put (nI x) 2 x_15 mm (fun (m_17 : Mm) => w_X10_of (nI x) 3 m_17 (fun (r_18 : Int32) => w_X10_of (nI y) 3 m_17 (fun (r_20 : Int32) => w_X10_put (nI x) 3 (r_18 + r_20) m_17 (fun (m_23 : Mm) => w_X10_of (nI x) 5 m_23 (fun (r_24 : Int32) => w_X10_of (nI y) 5 m_23 (fun (r_26 : Int32) => ((r_24 ≤ r_26 → w_X10_of (nI y) 5 m_23 (fun (r_49 : Int32) => w_X10_merge_J145 Q (nI x) (nI y) x_15 m_23 r_49)) ∧ (¬ r_24 ≤ r_26 → w_X10_of (nI x) 5 m_23 (fun (r_51 : Int32) => w_X10_merge_J145 Q (nI x) (nI y) x_15 m_23 r_51))))))))))))) ↔ Q (en (mm.1 32 1) x 2 + en (mm.1 32 1) y 2) (st mm (mergeF (mm.1 32 1) x y)) := by
  have h6 : x < 16 := Nat.lt_of_lt_of_le hx hI.mo16
  have h7 : y < 16 := Nat.lt_of_lt_of_le hy hI.mo16
  have hyx : ¬ y = x := fun z => hxy z.symm
  have key : ∀ v, v = mgA (mm.1 32 1) x y → (w_X10_merge_J145 Q (nI x) (nI y) (en (mm.1 32 1) x 2 + en (mm.1 32 1) y 2) (st mm (up (up (mm.1 32 1) (118 + 8 * x + 2) (en (mm.1 32 1) x 2 + en (mm.1 32 1) y 2)) (118 + 8 * x + 3) (en (mm.1 32 1) x 3 + en (mm.1 32 1) y 3))) v ↔ Q (en (mm.1 32 1) x 2 + en (mm.1 32 1) y 2) (st mm (mergeF (mm.1 32 1) x y))) := by
    intro v hv
    subst hv
    have h117 : mgF (mm.1 32 1) x y 117 = mm.1 32 1 117 := mg_at _ (by omega)
    have hmo : mo (mgF (mm.1 32 1) x y) = mo (mm.1 32 1) := by unfold mo; rw [h117]
    have hc := m_close (mm := st mm (mgF (mm.1 32 1) x y)) (e := y) (by rw [st_now, h117]; exact hI.opn) (by rw [st_now, hmo]; exact hy)
    simp only [st_now, st_st] at hc
    have ex6 : ∀ v1 v2 v3, en (up (up (up (mm.1 32 1) (118 + 8 * x + 2) v1) (118 + 8 * x + 3) v2) (118 + 8 * x + 5) v3) x 6 = en (mm.1 32 1) x 6 := fun v1 v2 v3 => by
      rw [en_ot _ _ (by decide) (by decide) (by decide), en_ot _ _ (by decide) (by decide) (by decide), en_ot _ _ (by decide) (by decide) (by decide)]
    have ey6 : ∀ v1 v2 v3, en (up (up (up (mm.1 32 1) (118 + 8 * x + 2) v1) (118 + 8 * x + 3) v2) (118 + 8 * x + 5) v3) y 6 = en (mm.1 32 1) y 6 := fun v1 v2 v3 => by
      rw [en_oe _ _ (by decide) (by decide) hyx, en_oe _ _ (by decide) (by decide) hyx, en_oe _ _ (by decide) (by decide) hyx]
    unfold w_X10_merge_J145
    simp only [m_put5 h6, st_now, st_st, m_of6 h6, m_of6 h7, ex6, ey6, m_put6 h6]
    by_cases hb : en (mm.1 32 1) y 6 ≤ en (mm.1 32 1) x 6
    · have hw : mgW (mm.1 32 1) x y = en (mm.1 32 1) y 6 := if_pos hb
      simp only [hb, not_true_eq_false, not_false_eq_true, false_implies, true_implies, true_and, and_true, if_true, if_false, reduceIte]
      rw [← hw]
      exact hc _
    · have hw : mgW (mm.1 32 1) x y = en (mm.1 32 1) x 6 := if_neg hb
      simp only [hb, not_true_eq_false, not_false_eq_true, false_implies, true_implies, true_and, and_true, if_true, if_false, reduceIte]
      rw [← hw]
      exact hc _
  have e3x : ∀ v1, en (up (mm.1 32 1) (118 + 8 * x + 2) v1) x 3 = en (mm.1 32 1) x 3 := fun v1 => en_ot _ _ (by decide) (by decide) (by decide)
  have e3y : ∀ v1, en (up (mm.1 32 1) (118 + 8 * x + 2) v1) y 3 = en (mm.1 32 1) y 3 := fun v1 => en_oe _ _ (by decide) (by decide) hyx
  have e5x : ∀ v1 v2, en (up (up (mm.1 32 1) (118 + 8 * x + 2) v1) (118 + 8 * x + 3) v2) x 5 = en (mm.1 32 1) x 5 := fun v1 v2 => by rw [en_ot _ _ (by decide) (by decide) (by decide), en_ot _ _ (by decide) (by decide) (by decide)]
  have e5y : ∀ v1 v2, en (up (up (mm.1 32 1) (118 + 8 * x + 2) v1) (118 + 8 * x + 3) v2) y 5 = en (mm.1 32 1) y 5 := fun v1 v2 => by rw [en_oe _ _ (by decide) (by decide) hyx, en_oe _ _ (by decide) (by decide) hyx]
  simp only [m_of2 h6, m_of2 h7, forall_eq, m_put2 h6, st_now, st_st, m_of3 h6, m_of3 h7, e3x, e3y, m_put3 h6, m_of5 h6, m_of5 h7, e5x, e5y]
  by_cases hb : en (mm.1 32 1) x 5 ≤ en (mm.1 32 1) y 5
  · simp only [hb, not_true_eq_false, not_false_eq_true, false_implies, true_implies, true_and, and_true, if_true, if_false, reduceIte]
    exact key _ (by unfold mgA; rw [if_pos hb])
  · simp only [hb, not_true_eq_false, not_false_eq_true, false_implies, true_implies, true_and, and_true, if_true, if_false, reduceIte]
    exact key _ (by unfold mgA; rw [if_neg hb])
theorem day_lt {D x y : Int32} (hd : rng D 9999) (hx : rng x D.toNatClampNeg) (hy : rng y D.toNatClampNeg) : (D - x < D - y) ↔ ¬ x ≤ y := by
  have h := day_le hd hy hx
  have e1 := @Int32.le_iff_toInt_le (D - y) (D - x)
  have e2 := @Int32.lt_iff_toInt_lt (D - x) (D - y)
  constructor
  · intro q z
    have := e2.mp q
    have := e1.mp (h.mpr z)
    omega
  · intro q
    refine e2.mpr ?_
    have := mt e1.mpr (fun z => q (h.mp z))
    omega
theorem d_merge (hR : RS m 1 f) (hI : Inv a s f) (hsv : ∀ Q' : Mm → Prop, (∀ m1, S m1 → Q' m1) → w_X3_save 1 m Q') (hS : ∀ m1, S m1 → RS m1 1 f ∧ m1.2 = m.2) (p q : Int32) (hx : fiE f p < mo f) (hy : fiE f q < mo f) (hpq : ¬ p = q) (hxy : ¬ fiE f p = fiE f q)
    (h3 : ¬ canJ f (fiE f p) (fiE f q) → Q (-3) m) (h0 : canJ f (fiE f p) (fiE f q) → ∀ m1 m', S m1 → Fr 1 m1 m' → RS m' 1 (mergeF f (fiE f p) (fiE f q)) → Q (en f (fiE f p) 2 + en f (fiE f q) 2) m') : w_X1_join p q m Q := by
  have h6 : fiE f p < 16 := Nat.lt_of_lt_of_le hx hI.mo16
  have h7 : fiE f q < 16 := Nat.lt_of_lt_of_le hy hI.mo16
  have hE := hI.ent _ hx
  have hD := hI.ent _ hy
  unfold w_X1_join
  simp only [c_findEntry hR hI i1, hx, hy, hR.ne0 h6, hR.ne0 h7, hR.oke i1 h6, hR.oke i1 h7, hpq, c_canJoin hR hI hx hy, z10, and_false, or_false, false_or, not_true_eq_false, not_false_eq_true, false_implies, true_implies, true_and, and_true, if_true, if_false, reduceIte]
  by_cases hj : canJ f (fiE f p) (fiE f q)
  · simp only [hj, false_and, or_false, not_true_eq_false, not_false_eq_true, false_implies, true_implies, true_and, and_true, if_true, if_false, reduceIte]
    have h0 := h0 hj
    refine hsv _ (fun m14 h14 => ?_)
    obtain ⟨hR14, e14⟩ := hS m14 h14
    have h0 := fun m' => h0 m14 m' h14
    rw [← e14]
    generalize fiE f p = x at *
    generalize fiE f q = y at *
    have hyx : ¬ y = x := fun z => hxy z.symm
    have hne : ¬ m14.2 7 1 x = m14.2 7 1 y := fun z => hxy (hR14.2.2.2.2.2.2.2.1 _ _ h6 h7 z)
    have hox : own 3 (m14.2 7 1 x) = 1 := own3 (by decide) (hR14.2.2.2.2.2.2.1 _ h6)
    have hoy : own 3 (m14.2 7 1 y) = 1 := own3 (by decide) (hR14.2.2.2.2.2.2.1 _ h7)
    have x2 := hR14.e2 hx
    have x3 := hR14.e3 hx
    have x5 := hR14.e5 hx
    have x6 := hR14.e6 hx
    have y2 := hR14.e2 hy
    have y3 := hR14.e3 hy
    have y5 := hR14.e5 hy
    have y6 := hR14.e6 hy
    have g1 := hR14.pe hI.mr12 hI.mo16 hx (q := 2) (by decide) (en f x 2 + en f y 2)
    have g2 := g1.pe (e := x) (by rw [mr_up _ _ (by omega)]; exact hI.mr12) (by rw [mo_up _ _ (by omega)]; exact hI.mo16) (by rw [mo_up _ _ (by omega)]; exact hx) (q := 3) (by decide) (en f x 3 + en f y 3)
    have g3 := g2.pe (e := x) (by rw [mr_up _ _ (by omega), mr_up _ _ (by omega)]; exact hI.mr12) (by rw [mo_up _ _ (by omega), mo_up _ _ (by omega)]; exact hI.mo16) (by rw [mo_up _ _ (by omega), mo_up _ _ (by omega)]; exact hx) (q := 5) (by decide) (mgA f x y)
    have g4 := g3.pe (e := x) (by rw [mr_up _ _ (by omega), mr_up _ _ (by omega), mr_up _ _ (by omega)]; exact hI.mr12) (by rw [mo_up _ _ (by omega), mo_up _ _ (by omega), mo_up _ _ (by omega)]; exact hI.mo16) (by rw [mo_up _ _ (by omega), mo_up _ _ (by omega), mo_up _ _ (by omega)]; exact hx) (q := 6) (by decide) (mgW f x y)
    have hmg : ∀ k, ¬ (118 + 8 * x ≤ k ∧ k < 126 + 8 * x) → mgF f x y k = f k := fun k hk => mg_at f hk
    have hmo : mo (mgF f x y) = mo f := by unfold mo; rw [hmg _ (by omega)]
    have hmr : mr (mgF f x y) = mr f := by unfold mr; rw [hmg _ (by omega)]
    have g4 : RS (sI (sI (sI (sI m14 3 (m14.2 7 1 x) 2 (en f x 2 + en f y 2)) 3 (m14.2 7 1 x) 3 (en f x 3 + en f y 3)) 3 (m14.2 7 1 x) 5 (f 0 - mgA f x y)) 3 (m14.2 7 1 x) 6 (f 0 - mgW f x y)) 1 (mgF f x y) := by
      have c5 : cv (up (up f (118 + 8 * x + 2) (en f x 2 + en f y 2)) (118 + 8 * x + 3) (en f x 3 + en f y 3)) 5 (mgA f x y) = f 0 - mgA f x y := by
        unfold cv
        rw [if_pos (by decide), up_ne _ _ (by omega), up_ne _ _ (by omega)]
      have c6 : cv (up (up (up f (118 + 8 * x + 2) (en f x 2 + en f y 2)) (118 + 8 * x + 3) (en f x 3 + en f y 3)) (118 + 8 * x + 5) (mgA f x y)) 6 (mgW f x y) = f 0 - mgW f x y := by
        unfold cv
        rw [if_pos (by decide), up_ne _ _ (by omega), up_ne _ _ (by omega), up_ne _ _ (by omega)]
      rw [c6, c5] at g4
      exact g4
    have g5 := g4.pe (e := y) (by rw [hmr]; exact hI.mr12) (by rw [hmo]; exact hI.mo16) (by rw [hmo]; exact hy) (q := 2) (by decide) 0
    have g5 : RS (sI (sI (sI (sI (sI m14 3 (m14.2 7 1 x) 2 (en f x 2 + en f y 2)) 3 (m14.2 7 1 x) 3 (en f x 3 + en f y 3)) 3 (m14.2 7 1 x) 5 (f 0 - mgA f x y)) 3 (m14.2 7 1 x) 6 (f 0 - mgW f x y)) 3 (m14.2 7 1 y) 2 0) 1 (up (mgF f x y) (118 + 8 * y + 2) 0) := g5
    have hFs : Fr 1 m14 (sI (sI (sI (sI (sI m14 3 (m14.2 7 1 x) 2 (en f x 2 + en f y 2)) 3 (m14.2 7 1 x) 3 (en f x 3 + en f y 3)) 3 (m14.2 7 1 x) 5 (f 0 - mgA f x y)) 3 (m14.2 7 1 x) 6 (f 0 - mgW f x y)) 3 (m14.2 7 1 y) 2 0) := ((((Fr.sI m14 _ _ hox).trans (Fr.sI _ _ _ hox)).trans (Fr.sI _ _ _ hox)).trans (Fr.sI _ _ _ hox)).trans (Fr.sI _ _ _ hoy)
    have hc := c_closeIfEmpty g5 (by rw [mr_up _ _ (by omega), hmr]; exact hI.mr12) (by rw [up_ne _ _ (by omega), hmg _ (by omega)]; exact hI.opn) i1 (e := y) (by rw [mo_up _ _ (by omega), hmo]; exact hy)
    unfold w_X2_takeIn
    generalize hrx : m14.2 7 1 x = rx at *
    generalize hry : m14.2 7 1 y = ry at *
    have hne' : ¬ ry = rx := fun z => hne z.symm
    intro n1 f1 n2 f2 n3 f3 n4 f4 n5 f5
    rw [x2, y2] at f1
    rw [show n1.1 3 rx 3 = en f x 3 by rw [f1]; simp [sI_1, x3], show n1.1 3 ry 3 = en f y 3 by rw [f1]; simp [sI_1, hne', y3]] at f2
    rw [show n2.1 3 rx 5 = f 0 - en f x 5 by rw [f2, f1]; simp [sI_1, x5], show n2.1 3 ry 5 = f 0 - en f y 5 by rw [f2, f1]; simp [sI_1, hne', y5]] at f3
    have hA : (if f 0 - en f y 5 < f 0 - en f x 5 then f 0 - en f y 5 else f 0 - en f x 5) = f 0 - mgA f x y := by
      have h := day_lt hI.day hD.2.2.2.2.2.1 hE.2.2.2.2.2.1
      have h2 := day_le hI.day hE.2.2.2.2.2.1 hD.2.2.2.2.2.1
      unfold mgA
      by_cases z : en f x 5 ≤ en f y 5
      · rw [if_pos z]
        by_cases y' : f 0 - en f y 5 < f 0 - en f x 5
        · rw [if_pos y']
        · rw [if_neg y']
          have hyx' : en f y 5 ≤ en f x 5 := Classical.byContradiction fun q => y' (h.mpr q)
          have : en f x 5 = en f y 5 := Int32.le_antisymm z hyx'
          rw [this]
      · rw [if_neg z, if_neg]
        intro q
        have h3 := h.mp q
        have e1 := @Int32.le_iff_toInt_le (en f y 5) (en f x 5)
        have e2 := @Int32.le_iff_toInt_le (en f x 5) (en f y 5)
        have := mt e1.mpr h3
        have := mt e2.mpr z
        omega
    rw [hA] at f3
    rw [show n3.1 3 rx 6 = f 0 - en f x 6 by rw [f3, f2, f1]; simp [sI_1, x6], show n3.1 3 ry 6 = f 0 - en f y 6 by rw [f3, f2, f1]; simp [sI_1, hne', y6]] at f4
    have hW : (if f 0 - en f x 6 < f 0 - en f y 6 then f 0 - en f y 6 else f 0 - en f x 6) = f 0 - mgW f x y := by
      have h := day_lt hI.day hE.2.2.2.2.2.2.1 hD.2.2.2.2.2.2.1
      unfold mgW
      by_cases z : en f y 6 ≤ en f x 6
      · rw [if_pos z]
        by_cases y' : f 0 - en f x 6 < f 0 - en f y 6
        · rw [if_pos y']
        · rw [if_neg y']
          have hxy' : en f x 6 ≤ en f y 6 := Classical.byContradiction fun q => y' (h.mpr q)
          have : en f x 6 = en f y 6 := Int32.le_antisymm hxy' z
          rw [this]
      · rw [if_neg z, if_neg]
        intro q
        have h3 := h.mp q
        have e1 := @Int32.le_iff_toInt_le (en f y 6) (en f x 6)
        have e2 := @Int32.le_iff_toInt_le (en f x 6) (en f y 6)
        have := mt e1.mpr z
        have := mt e2.mpr h3
        omega
    rw [hW] at f4
    have hz : n5 = sI (sI (sI (sI (sI m14 3 rx 2 (en f x 2 + en f y 2)) 3 rx 3 (en f x 3 + en f y 3)) 3 rx 5 (f 0 - mgA f x y)) 3 rx 6 (f 0 - mgW f x y)) 3 ry 2 0 := by rw [f5, f4, f3, f2, f1]
    have hrd : n5.1 3 rx 2 = en f x 2 + en f y 2 := by rw [hz]; simp [sI_1, hne]
    rw [← hz] at hc hFs
    rw [show n5.2 7 1 y = ry by rw [hz]; exact hry] at hc
    refine hc _ (fun hle m3 e3 hF hR3 => ?_) (fun hnle => absurd (by rw [en_up_e]; decide) hnle)
    rw [e3, hrd]
    refine h0 m3 (hFs.trans hF) ?_
    have hmo1 : mo (mgF f x y) ≤ 16 := by rw [hmo]; exact hI.mo16
    have hcl : ∀ g : Nat → Int32, rng (g 117) 16 → y < mo g → mo (closeF g y) = mo g - 1 := by
      intro g hg hyg
      have h16 : mo g ≤ 16 := hg.2
      unfold mo closeF
      rw [if_pos rfl, hg.1, show (1 : Int32) = nI 1 from rfl, pk_sub (by unfold mo at hyg; omega), rs_tn (by unfold mo at *; omega), rs_tn (by unfold mo at *; omega)]
    have o1 : rng (mgF f x y 117) 16 := by rw [hmg _ (by omega)]; exact hI.opn
    have o2 : rng (up (mgF f x y) (118 + 8 * y + 2) 0 117) 16 := by rw [up_ne _ _ (by omega)]; exact o1
    have mu : mo (up (mgF f x y) (118 + 8 * y + 2) 0) = mo (mgF f x y) := mo_up _ _ (by omega)
    have c1 := hcl _ o1 (by rw [hmo]; exact hy)
    have c2 := hcl _ o2 (by rw [mu, hmo]; exact hy)
    unfold mergeF
    refine RS.congr hR3 (by rw [c1, c2, mu]) (fun k hk => ?_) (fun e q he hq => ?_) ?_
    · unfold closeF
      by_cases z : k = 117
      · rw [if_pos z, if_pos z, up_ne _ _ (by omega)]
      · rw [if_neg z, if_neg z, if_neg (by omega), if_neg (by omega), up_ne _ _ (by omega)]
    · rw [c2, mu] at he
      show closeF (mgF f x y) y (118 + 8 * e + q) = closeF (up (mgF f x y) (118 + 8 * y + 2) 0) y (118 + 8 * e + q)
      unfold closeF
      have k117 : ¬ 118 + 8 * e + q = 117 := by omega
      rw [if_neg k117, if_neg k117, mu]
      by_cases z : 118 + 8 * y ≤ 118 + 8 * e + q ∧ 118 + 8 * e + q < 110 + 8 * mo (mgF f x y)
      · rw [if_pos z, if_pos z, up_ne _ _ (by omega)]
      · rw [if_neg z, if_neg z, up_ne _ _ (by omega)]
    · have : mr (closeF (up (mgF f x y) (118 + 8 * y + 2) 0) y) = mr f := by
        unfold mr closeF
        rw [if_neg (by decide), if_neg (by omega), up_ne _ _ (by omega), hmg _ (by omega)]
      rw [this]
      exact hI.mr12
  · simp only [hj, true_and, false_and, false_or, not_true_eq_false, not_false_eq_true, false_implies, true_implies, true_and, and_true, if_true, if_false, reduceIte]
    exact h3 hj
end SEM14

