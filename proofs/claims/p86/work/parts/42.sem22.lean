section SEM22
variable {m m' mm : Mm} {i p a s a' s' : Nat} {f g : Nat → Int32}
def sx (u : Nat) (mm : Mm) (g : Nat → Int32) : Mm := (fun t i j => if t = u ∧ i = 1 then g j else mm.1 t i j, mm.2)
theorem sx_at (u : Nat) (mm : Mm) (g : Nat → Int32) : (sx u mm g).1 u 1 = g := by
  funext j
  exact if_pos ⟨rfl, rfl⟩
theorem sx_ne {u t : Nat} (mm : Mm) (g : Nat → Int32) (h : ¬ t = u) : (sx u mm g).1 t = mm.1 t := by
  funext i j
  exact if_neg (fun z => h z.1)
theorem sx_st (mm : Mm) (g : Nat → Int32) : sx 32 mm g = st mm g := rfl
theorem sx_sI (u : Nat) (mm : Mm) (g : Nat → Int32) (j : Nat) (v : Int32) : sI (sx u mm g) u 1 j v = sx u mm (up g j v) := by
  refine Prod.ext ?_ rfl
  funext t i k
  show (if t = u ∧ i = 1 ∧ k = j then v else if t = u ∧ i = 1 then g k else mm.1 t i k) = if t = u ∧ i = 1 then (if k = j then v else g k) else mm.1 t i k
  by_cases h : t = u ∧ i = 1
  · rw [if_pos h, if_pos h]
    by_cases z : k = j
    · rw [if_pos ⟨h.1, h.2, z⟩, if_pos z]
    · rw [if_neg (fun w => z w.2.2), if_neg z]
  · rw [if_neg h, if_neg h, if_neg (fun w => h ⟨w.1, w.2.1⟩)]
theorem sx_self (u : Nat) (mm : Mm) : sx u mm (mm.1 u 1) = mm := by
  refine Prod.ext ?_ rfl
  funext t i k
  show (if t = u ∧ i = 1 then mm.1 u 1 k else mm.1 t i k) = _
  by_cases h : t = u ∧ i = 1
  · rw [if_pos h, h.1, h.2]
  · rw [if_neg h]
def ckF (f g : Nat → Int32) (x y n q : Nat) : Int32 := if y ≤ q ∧ q < y + n then f (x + (q - y)) else g q
def ckG (t u x y j : Nat) (m : Mm) : Mm := sI m u 1 (y + j) (m.1 t 1 (x + j))
theorem ck_eq {t u : Nat} (h : ¬ t = u) (x y : Nat) (mm : Mm) : ∀ n, fo (ckG t u x y) n mm = sx u mm (ckF (mm.1 t 1) (mm.1 u 1) x y n) := by
  intro n
  induction n with
  | zero =>
    have : ckF (mm.1 t 1) (mm.1 u 1) x y 0 = mm.1 u 1 := by
      funext q
      exact if_neg (by omega)
    rw [this, sx_self]
    rfl
  | succ n ih =>
    show ckG t u x y n (fo (ckG t u x y) n mm) = _
    rw [ih]
    unfold ckG
    rw [sx_ne _ _ h, sx_sI]
    congr 1
    funext q
    show (if q = y + n then mm.1 t 1 (x + n) else if y ≤ q ∧ q < y + n then mm.1 t 1 (x + (q - y)) else mm.1 u 1 q) = if y ≤ q ∧ q < y + (n + 1) then mm.1 t 1 (x + (q - y)) else mm.1 u 1 q
    by_cases z : q = y + n
    · subst z
      rw [if_pos rfl, if_pos (show y ≤ y + n ∧ y + n < y + (n + 1) by omega), Nat.add_sub_cancel_left]
    · rw [if_neg z]
      by_cases w : y ≤ q ∧ q < y + n
      · rw [if_pos w, if_pos (by omega)]
      · rw [if_neg w, if_neg (by omega)]
theorem ix246 {n j : Nat} (hn : n < 6) (hj : j < 246) : ((246 : Int32) * nI n + nI j).toNatClampNeg = 246 * n + j := by
  rw [show (246 : Int32) = nI 246 from rfl, pk_mul, nI_add]
  exact rs_tn (by omega)
theorem ix246v {n j N : Nat} (hn : 246 * n + j < N) (hN : N < 100000) : vp_in ((246 : Int32) * nI n + nI j) N := by
  rw [show (246 : Int32) = nI 246 from rfl, pk_mul, nI_add]
  exact vp_in_nI hn (by omega)
theorem ix0 {j : Nat} (hj : j < 246) : ((0 : Int32) + nI j).toNatClampNeg = 0 + j ∧ vp_in ((0 : Int32) + nI j) 246 := by
  rw [show (0 : Int32) = nI 0 from rfl, nI_add]
  exact ⟨rs_tn (by omega), vp_in_nI (by omega) (by decide)⟩
theorem le246 {j : Nat} (hj : j < 246) : ¬ (246 : Int32) ≤ nI j := by
  rw [show (246 : Int32) = nI 246 from rfl, nI_leI (by decide) (by omega)]
  omega
theorem m_cp_32_33 {n : Nat} (hn : n < 6) (mm : Mm) (Q : Mm → Prop) : w_X10_copyState_32_33 0 (246 * nI n) mm Q ↔ Q (sx 33 mm (ckF (mm.1 32 1) (mm.1 33 1) 0 (246 * n) 246)) := by
  unfold w_X10_copyState_32_33
  rw [← ck_eq (t := 32) (u := 33) (by decide)]
  refine itr_for _ (fun j s => (nI j, s)) 246 (ckG 32 33 0 (246 * n)) mm _ (fun K j hj => ?_) (fun K => ?_)
  · have h0 := ix0 hj
    have h1 := ix246 (n := n) (by omega) hj
    have h2 : vp_in ((246 : Int32) * nI n + nI j) 1476 := ix246v (by omega) (by decide)
    simp only [w_X10_copyState_32_33_B3, le246 hj, h0, h1, h2, nI_1, not_true_eq_false, not_false_eq_true, false_implies, true_implies, true_and, and_true, forall_eq, if_true, if_false, reduceIte]
    exact Iff.rfl
  · simp only [w_X10_copyState_32_33_B3, show (246 : Int32) ≤ nI 246 by decide, not_true_eq_false, not_false_eq_true, false_implies, true_implies, true_and, and_true, forall_eq, if_true, if_false, reduceIte]
theorem m_cp_33_32 {n : Nat} (hn : n < 6) (mm : Mm) (Q : Mm → Prop) : w_X10_copyState_33_32 (246 * nI n) 0 mm Q ↔ Q (sx 32 mm (ckF (mm.1 33 1) (mm.1 32 1) (246 * n) 0 246)) := by
  unfold w_X10_copyState_33_32
  rw [← ck_eq (t := 33) (u := 32) (by decide)]
  refine itr_for _ (fun j s => (nI j, s)) 246 (ckG 33 32 (246 * n) 0) mm _ (fun K j hj => ?_) (fun K => ?_)
  · have h0 := ix0 hj
    have h1 := ix246 (n := n) (by omega) hj
    have h2 : vp_in ((246 : Int32) * nI n + nI j) 1476 := ix246v (by omega) (by decide)
    simp only [w_X10_copyState_33_32_B3, le246 hj, h0, h1, h2, nI_1, not_true_eq_false, not_false_eq_true, false_implies, true_implies, true_and, and_true, forall_eq, if_true, if_false, reduceIte]
    exact Iff.rfl
  · simp only [w_X10_copyState_33_32_B3, show (246 : Int32) ≤ nI 246 by decide, not_true_eq_false, not_false_eq_true, false_implies, true_implies, true_and, and_true, forall_eq, if_true, if_false, reduceIte]
theorem m_cp_32_34 {n : Nat} (hn : n < 2) (mm : Mm) (Q : Mm → Prop) : w_X10_copyState_32_34 0 (246 * nI n) mm Q ↔ Q (sx 34 mm (ckF (mm.1 32 1) (mm.1 34 1) 0 (246 * n) 246)) := by
  unfold w_X10_copyState_32_34
  rw [← ck_eq (t := 32) (u := 34) (by decide)]
  refine itr_for _ (fun j s => (nI j, s)) 246 (ckG 32 34 0 (246 * n)) mm _ (fun K j hj => ?_) (fun K => ?_)
  · have h0 := ix0 hj
    have h1 := ix246 (n := n) (by omega) hj
    have h2 : vp_in ((246 : Int32) * nI n + nI j) 492 := ix246v (by omega) (by decide)
    simp only [w_X10_copyState_32_34_B3, le246 hj, h0, h1, h2, nI_1, not_true_eq_false, not_false_eq_true, false_implies, true_implies, true_and, and_true, forall_eq, if_true, if_false, reduceIte]
    exact Iff.rfl
  · simp only [w_X10_copyState_32_34_B3, show (246 : Int32) ≤ nI 246 by decide, not_true_eq_false, not_false_eq_true, false_implies, true_implies, true_and, and_true, forall_eq, if_true, if_false, reduceIte]
theorem m_cp_34_32 {n : Nat} (hn : n < 2) (mm : Mm) (Q : Mm → Prop) : w_X10_copyState_34_32 (246 * nI n) 0 mm Q ↔ Q (sx 32 mm (ckF (mm.1 34 1) (mm.1 32 1) (246 * n) 0 246)) := by
  unfold w_X10_copyState_34_32
  rw [← ck_eq (t := 34) (u := 32) (by decide)]
  refine itr_for _ (fun j s => (nI j, s)) 246 (ckG 34 32 (246 * n) 0) mm _ (fun K j hj => ?_) (fun K => ?_)
  · have h0 := ix0 hj
    have h1 := ix246 (n := n) (by omega) hj
    have h2 : vp_in ((246 : Int32) * nI n + nI j) 492 := ix246v (by omega) (by decide)
    simp only [w_X10_copyState_34_32_B3, le246 hj, h0, h1, h2, nI_1, not_true_eq_false, not_false_eq_true, false_implies, true_implies, true_and, and_true, forall_eq, if_true, if_false, reduceIte]
    exact Iff.rfl
  · simp only [w_X10_copyState_34_32_B3, show (246 : Int32) ≤ nI 246 by decide, not_true_eq_false, not_false_eq_true, false_implies, true_implies, true_and, and_true, forall_eq, if_true, if_false, reduceIte]
def shF6 (f : Nat → Int32) (n q : Nat) : Int32 := if q < n then f (q + 246) else f q
def shG6 (j : Nat) (m : Mm) : Mm := sI m 33 1 j (m.1 33 1 (j + 246))
theorem sh6_eq (mm : Mm) : ∀ n, fo shG6 n mm = sx 33 mm (shF6 (mm.1 33 1) n) := by
  intro n
  induction n with
  | zero =>
    have : shF6 (mm.1 33 1) 0 = mm.1 33 1 := by
      funext q
      exact if_neg (by omega)
    rw [this, sx_self]
    rfl
  | succ n ih =>
    show shG6 n (fo shG6 n mm) = _
    rw [ih]
    unfold shG6
    rw [sx_at, sx_sI]
    congr 1
    funext q
    show (if q = n then shF6 (mm.1 33 1) n (n + 246) else if q < n then mm.1 33 1 (q + 246) else mm.1 33 1 q) = if q < n + 1 then mm.1 33 1 (q + 246) else mm.1 33 1 q
    unfold shF6
    by_cases z : q = n
    · subst z
      rw [if_pos rfl, if_neg (by omega), if_pos (by omega)]
    · rw [if_neg z]
      by_cases w : q < n
      · rw [if_pos w, if_pos (by omega)]
      · rw [if_neg w, if_neg (by omega)]
/-- the saved rows after a save -/
def svS (mm : Mm) : Nat → Int32 :=
  if mm.1 30 1 5 = 6 then ckF (mm.1 32 1) (shF6 (mm.1 33 1) 1230) 0 (246 * 5) 246 else ckF (mm.1 32 1) (mm.1 33 1) 0 (246 * (mm.1 30 1 5).toNatClampNeg) 246
def svN (mm : Mm) : Int32 := if mm.1 30 1 5 = 6 then 6 else mm.1 30 1 5 + 1
def svM (mm : Mm) : Mm := sI (sx 33 mm (svS mm)) 30 1 5 (svN mm)
theorem Mm_ext {x y : Mm} (h1 : ∀ t i j, x.1 t i j = y.1 t i j) (h2 : x.2 = y.2) : x = y := Prod.ext (by funext t i j; exact h1 t i j) h2
theorem m_saves {mm : Mm} (hn : rng (mm.1 30 1 5) 6) (Q : Mm → Prop) : w_X10_saves mm Q ↔ Q (svM mm) := by
  unfold w_X10_saves svM svS svN
  by_cases h6 : mm.1 30 1 5 = 6
  · simp only [h6, not_true_eq_false, not_false_eq_true, false_implies, true_implies, true_and, and_true, forall_eq, if_true, if_false, reduceIte]
    refine itr_for _ (fun j s => (nI j, s)) 1230 shG6 mm _ (fun K j hj => ?_) (fun K => ?_)
    · have hlt : ¬ (1230 : Int32) ≤ nI j := by
        rw [show (1230 : Int32) = nI 1230 from rfl, nI_leI (by decide) (by omega)]
        omega
      have h1 : (nI j + 246).toNatClampNeg = j + 246 ∧ vp_in (nI j + 246) 1476 := by
        rw [show (246 : Int32) = nI 246 from rfl, nI_add]
        exact ⟨rs_tn (by omega), vp_in_nI (by omega) (by decide)⟩
      have h2 : (nI j).toNatClampNeg = j := rs_tn (by omega)
      have h3 : vp_in (nI j) 1476 := vp_in_nI (by omega) (by decide)
      simp only [w_X10_saves_B11, hlt, h1, h2, h3, nI_1, not_true_eq_false, not_false_eq_true, false_implies, true_implies, true_and, and_true, forall_eq, if_true, if_false, reduceIte]
      exact Iff.rfl
    · simp only [w_X10_saves_B11, show (1230 : Int32) ≤ nI 1230 by decide, not_true_eq_false, not_false_eq_true, false_implies, true_implies, true_and, and_true, forall_eq, if_true, if_false, reduceIte]
      rw [sh6_eq]
      unfold w_X10_saves_J50
      have e1 : (sx 33 mm (shF6 (mm.1 33 1) 1230)).1 30 1 5 = 6 := by rw [sx_ne _ _ (by decide), h6]
      have e2 : (sI (sx 33 mm (shF6 (mm.1 33 1) 1230)) 30 1 5 (6 - 1)).1 30 1 5 = nI 5 := (sI_at _ _ _ _ _).trans (by decide)
      rw [e1, e2, m_cp_32_33 (by decide)]
      simp only [forall_eq]
      rw [show (sx 33 (sI (sx 33 mm (shF6 (mm.1 33 1) 1230)) 30 1 5 (6 - 1)) (ckF ((sI (sx 33 mm (shF6 (mm.1 33 1) 1230)) 30 1 5 (6 - 1)).1 32 1) ((sI (sx 33 mm (shF6 (mm.1 33 1) 1230)) 30 1 5 (6 - 1)).1 33 1) 0 (246 * 5) 246)).1 30 1 5 + 1 = 6 from by rw [sx_ne _ _ (by decide), e2]; decide]
      refine iff_of_eq (congrArg Q (Mm_ext (fun t i j => ?_) rfl))
      show (if t = 30 ∧ i = 1 ∧ j = 5 then (6 : Int32) else if t = 33 ∧ i = 1 then ckF (mm.1 32 1) ((sI (sx 33 mm (shF6 (mm.1 33 1) 1230)) 30 1 5 (6 - 1)).1 33 1) 0 (246 * 5) 246 j else if t = 30 ∧ i = 1 ∧ j = 5 then (6 - 1 : Int32) else if t = 33 ∧ i = 1 then shF6 (mm.1 33 1) 1230 j else mm.1 t i j) = if t = 30 ∧ i = 1 ∧ j = 5 then (6 : Int32) else if t = 33 ∧ i = 1 then ckF (mm.1 32 1) (shF6 (mm.1 33 1) 1230) 0 (246 * 5) 246 j else mm.1 t i j
      have e3 : (sI (sx 33 mm (shF6 (mm.1 33 1) 1230)) 30 1 5 (6 - 1)).1 33 1 = shF6 (mm.1 33 1) 1230 := sx_at 33 mm _
      rw [e3]
      by_cases z : t = 30 ∧ i = 1 ∧ j = 5
      · rw [if_pos z, if_pos z]
      · rw [if_neg z, if_neg z]
        by_cases w : t = 33 ∧ i = 1
        · simp only [if_pos w, if_neg z]
        · simp only [if_neg w, if_neg z]
  · have hlt : (mm.1 30 1 5).toNatClampNeg < 6 := by
      have h1 := hn.2
      by_cases z : (mm.1 30 1 5).toNatClampNeg = 6
      · exact absurd (by rw [hn.1, z]; rfl) h6
      · omega
    have hk : w_X10_saves_J50 Q mm ↔ Q (sI (sx 33 mm (ckF (mm.1 32 1) (mm.1 33 1) 0 (246 * (mm.1 30 1 5).toNatClampNeg) 246)) 30 1 5 (mm.1 30 1 5 + 1)) := by
      unfold w_X10_saves_J50
      have := m_cp_32_33 hlt mm (fun m_3 => ∀ m_4 : Mm, m_4 = sI m_3 30 1 5 (m_3.1 30 1 5 + 1) → Q m_4)
      rw [← hn.1] at this
      rw [this]
      simp only [forall_eq]
      rw [sx_ne _ _ (by decide)]
    simp only [h6, not_true_eq_false, not_false_eq_true, false_implies, true_implies, true_and, and_true, forall_eq, if_true, if_false, reduceIte]
    exact hk
theorem svM_32 (mm : Mm) : (svM mm).1 32 = mm.1 32 := by
  funext i j
  show (if 32 = 30 ∧ i = 1 ∧ j = 5 then svN mm else if 32 = 33 ∧ i = 1 then svS mm j else mm.1 32 i j) = mm.1 32 i j
  rw [if_neg (fun z => absurd z.1 (by decide)), if_neg (fun z => absurd z.1 (by decide))]
theorem svM_34 (mm : Mm) : (svM mm).1 34 = mm.1 34 := by
  funext i j
  show (if 34 = 30 ∧ i = 1 ∧ j = 5 then svN mm else if 34 = 33 ∧ i = 1 then svS mm j else mm.1 34 i j) = mm.1 34 i j
  rw [if_neg (fun z => absurd z.1 (by decide)), if_neg (fun z => absurd z.1 (by decide))]
theorem svM_35 (mm : Mm) : (svM mm).1 35 = mm.1 35 := by
  funext i j
  show (if 35 = 30 ∧ i = 1 ∧ j = 5 then svN mm else if 35 = 33 ∧ i = 1 then svS mm j else mm.1 35 i j) = mm.1 35 i j
  rw [if_neg (fun z => absurd z.1 (by decide)), if_neg (fun z => absurd z.1 (by decide))]
theorem svM_31 (mm : Mm) : (svM mm).1 31 = mm.1 31 := by
  funext i j
  show (if 31 = 30 ∧ i = 1 ∧ j = 5 then svN mm else if 31 = 33 ∧ i = 1 then svS mm j else mm.1 31 i j) = mm.1 31 i j
  rw [if_neg (fun z => absurd z.1 (by decide)), if_neg (fun z => absurd z.1 (by decide))]
theorem svM_33 (mm : Mm) : (svM mm).1 33 1 = svS mm := by
  funext j
  show (if 33 = 30 ∧ 1 = 1 ∧ j = 5 then svN mm else if 33 = 33 ∧ 1 = 1 then svS mm j else mm.1 33 1 j) = svS mm j
  rw [if_neg (fun z => absurd z.1 (by decide)), if_pos ⟨rfl, rfl⟩]
theorem svM_30 (mm : Mm) {j : Nat} (h : ¬ j = 5) : (svM mm).1 30 1 j = mm.1 30 1 j := by
  show (if 30 = 30 ∧ 1 = 1 ∧ j = 5 then _ else (sx 33 mm (svS mm)).1 30 1 j) = _
  rw [if_neg (fun z => h z.2.2), sx_ne _ _ (by decide)]
theorem svM_5 (mm : Mm) : (svM mm).1 30 1 5 = svN mm := sI_at _ _ _ _ _
/-- only the first 246 cells of a row matter -/
theorem Inv.c246 (h : Inv a s f) (hg : ∀ k, k < 246 → g k = f k) : Inv a s g := by
  obtain ⟨a1, a2, a3, a4, a5, a6, a7, a8, a9, a10, a11⟩ := h.iw
  have h16 := h.mo16
  have h12 := h.mr12
  refine I_same h ⟨by rw [hg _ (by decide)]; exact a1, by rw [hg _ (by decide)]; exact a2, by rw [hg _ (by decide)]; exact a3, by rw [hg _ (by decide)]; exact a4, by rw [hg _ (by decide)]; exact a5, by rw [hg _ (by decide)]; exact a6, by rw [hg _ (by decide)]; exact a7, fun c hc => ?_, fun k hk => ?_, fun e he => ?_, fun r hr => ?_⟩ h.bnd (hg _ (by decide)) (hg _ (by decide)) (hg _ (by decide)) (fun e q he _ hq => hg _ (by omega))
  · rw [hg (10 + c) (by omega), hg (15 + c) (by omega), hg 2 (by decide)]
    exact a8 c hc
  · rw [hg (20 + k) (by omega), hg (26 + k) (by omega)]
    exact a9 k hk
  · rw [mo_c (hg 117 (by decide))] at he
    exact (a10 e he).c' (hg 0 (by decide)) (fun q _ hq => hg _ (by omega))
  · rw [mr_c (hg 68 (by decide))] at hr
    exact (a11 r hr).c' (fun q hq => hg _ (by omega))
theorem RS.c246 (h : RS m i f) (h16 : mo f ≤ 16) (h12 : mr f ≤ 12) (hg : ∀ k, k < 246 → g k = f k) : RS m i g :=
  h.congr (mo_c (hg _ (by decide))) (fun k hk => hg k (by omega)) (fun e q he hq => hg _ (by omega)) h12
end SEM22
