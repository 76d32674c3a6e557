section SEM30
variable {m : Mm} {T : Nat → Int32} {p n k F : Nat} {x : Int32} {w : Nat → Int32} {Q : Int32 → Mm → Prop}
def jc (m : Mm) (x : Int32) (F k : Nat) (w : Nat → Int32) : Mm := (fun t i j => if t = 17 ∧ i = 1 ∧ j = 2 then x else if t = 17 ∧ i = 1 ∧ j = 4 then nI k else if t = 19 ∧ i = 1 then w j else m.1 t i j, fun t i j => if t = 17 ∧ i = 1 ∧ j = 3 then F else m.2 t i j)
theorem jc_2 (m : Mm) (x : Int32) (F k : Nat) (w : Nat → Int32) : (jc m x F k w).1 17 1 2 = x := by
  show (if 17 = 17 ∧ 1 = 1 ∧ 2 = 2 then x else if 17 = 17 ∧ 1 = 1 ∧ 2 = 4 then nI k else if 17 = 19 ∧ 1 = 1 then w 2 else m.1 17 1 2) = x
  rw [if_pos (by decide)]
theorem jc_4 (m : Mm) (x : Int32) (F k : Nat) (w : Nat → Int32) : (jc m x F k w).1 17 1 4 = nI k := by
  show (if 17 = 17 ∧ 1 = 1 ∧ 4 = 2 then x else if 17 = 17 ∧ 1 = 1 ∧ 4 = 4 then nI k else if 17 = 19 ∧ 1 = 1 then w 4 else m.1 17 1 4) = nI k
  rw [if_neg (by decide), if_pos (by decide)]
theorem jc_19 (m : Mm) (x : Int32) (F k : Nat) (w : Nat → Int32) (j : Nat) : (jc m x F k w).1 19 1 j = w j := by
  show (if 19 = 17 ∧ 1 = 1 ∧ j = 2 then x else if 19 = 17 ∧ 1 = 1 ∧ j = 4 then nI k else if 19 = 19 ∧ 1 = 1 then w j else m.1 19 1 j) = w j
  rw [if_neg (fun z => absurd z.1 (by decide)), if_neg (fun z => absurd z.1 (by decide)), if_pos (by decide)]
theorem jc_3 (m : Mm) (x : Int32) (F k : Nat) (w : Nat → Int32) : (jc m x F k w).2 17 1 3 = F := by
  show (if 17 = 17 ∧ 1 = 1 ∧ 3 = 3 then F else m.2 17 1 3) = F
  rw [if_pos (by decide)]
theorem jc_o (m : Mm) (x : Int32) (F k : Nat) (w : Nat → Int32) {t i j : Nat} (h : ¬ (t = 17 ∧ i = 1 ∧ (j = 2 ∨ j = 4))) (h2 : ¬ (t = 19 ∧ i = 1)) : (jc m x F k w).1 t i j = m.1 t i j := by
  show (if t = 17 ∧ i = 1 ∧ j = 2 then x else if t = 17 ∧ i = 1 ∧ j = 4 then nI k else if t = 19 ∧ i = 1 then w j else m.1 t i j) = _
  rw [if_neg (fun z => h ⟨z.1, z.2.1, Or.inl z.2.2⟩), if_neg (fun z => h ⟨z.1, z.2.1, Or.inr z.2.2⟩), if_neg h2]
theorem jc_r (m : Mm) (x : Int32) (F k : Nat) (w : Nat → Int32) {t i j : Nat} (h : ¬ (t = 17 ∧ i = 1 ∧ j = 3)) : (jc m x F k w).2 t i j = m.2 t i j := if_neg h
theorem jc_s19 (m : Mm) (x : Int32) (F k : Nat) (w : Nat → Int32) (j : Nat) (v : Int32) : sI (jc m x F k w) 19 1 j v = jc m x F k (up w j v) := by
  refine Mm_ext (fun t i q => ?_) rfl
  show (if t = 19 ∧ i = 1 ∧ q = j then v else if t = 17 ∧ i = 1 ∧ q = 2 then x else if t = 17 ∧ i = 1 ∧ q = 4 then nI k else if t = 19 ∧ i = 1 then w q else m.1 t i q) = if t = 17 ∧ i = 1 ∧ q = 2 then x else if t = 17 ∧ i = 1 ∧ q = 4 then nI k else if t = 19 ∧ i = 1 then (if q = j then v else w q) else m.1 t i q
  by_cases h : t = 19 ∧ i = 1
  · have h1 : ¬ (t = 17 ∧ i = 1 ∧ q = 2) := by omega
    have h2 : ¬ (t = 17 ∧ i = 1 ∧ q = 4) := by omega
    rw [if_neg h1, if_neg h1, if_neg h2, if_neg h2, if_pos h, if_pos h]
    by_cases z : q = j
    · rw [if_pos ⟨h.1, h.2, z⟩, if_pos z]
    · rw [if_neg (fun y => z y.2.2), if_neg z]
  · rw [if_neg (fun z => h ⟨z.1, z.2.1⟩), if_neg h, if_neg h]
theorem jc_s4 (m : Mm) (x : Int32) (F k k' : Nat) (w : Nat → Int32) : sI (jc m x F k w) 17 1 4 (nI k') = jc m x F k' w := by
  refine Mm_ext (fun t i q => ?_) rfl
  show (if t = 17 ∧ i = 1 ∧ q = 4 then nI k' else if t = 17 ∧ i = 1 ∧ q = 2 then x else if t = 17 ∧ i = 1 ∧ q = 4 then nI k else if t = 19 ∧ i = 1 then w q else m.1 t i q) = if t = 17 ∧ i = 1 ∧ q = 2 then x else if t = 17 ∧ i = 1 ∧ q = 4 then nI k' else if t = 19 ∧ i = 1 then w q else m.1 t i q
  by_cases h : t = 17 ∧ i = 1 ∧ q = 4
  · rw [if_pos h, if_neg (fun z => by omega), if_pos h]
  · rw [if_neg h, if_neg h, if_neg h]
theorem jc_s2 (m : Mm) (x y : Int32) (F k : Nat) (w : Nat → Int32) : sI (jc m x F k w) 17 1 2 y = jc m y F k w := by
  refine Mm_ext (fun t i q => ?_) rfl
  show (if t = 17 ∧ i = 1 ∧ q = 2 then y else if t = 17 ∧ i = 1 ∧ q = 2 then x else if t = 17 ∧ i = 1 ∧ q = 4 then nI k else if t = 19 ∧ i = 1 then w q else m.1 t i q) = if t = 17 ∧ i = 1 ∧ q = 2 then y else if t = 17 ∧ i = 1 ∧ q = 4 then nI k else if t = 19 ∧ i = 1 then w q else m.1 t i q
  by_cases h : t = 17 ∧ i = 1 ∧ q = 2
  · rw [if_pos h, if_pos h]
  · rw [if_neg h, if_neg h, if_neg h]
theorem jc_s3 (m : Mm) (x : Int32) (F G k : Nat) (w : Nat → Int32) : sR (jc m x F k w) 17 1 3 G = jc m x G k w := by
  refine Mm_ext (fun t i q => rfl) ?_
  funext t i q
  show (if t = 17 ∧ i = 1 ∧ q = 3 then G else if t = 17 ∧ i = 1 ∧ q = 3 then F else m.2 t i q) = if t = 17 ∧ i = 1 ∧ q = 3 then G else m.2 t i q
  by_cases h : t = 17 ∧ i = 1 ∧ q = 3
  · rw [if_pos h, if_pos h]
  · rw [if_neg h, if_neg h, if_neg h]
def Fok (F : Nat) : Prop := 6 ≤ F ∧ F ≤ 12
def gD (F k : Nat) : Nat := (fL F).getD k 8
theorem F_cases (h : Fok F) : F = 6 ∨ F = 7 ∨ F = 8 ∨ F = 9 ∨ F = 10 ∨ F = 11 ∨ F = 12 := by
  unfold Fok at h
  omega
theorem F_len (h : Fok F) : slen F = (fL F).length ∧ (fL F).length ≤ 4 ∧ 1 ≤ (fL F).length := by
  rcases F_cases h with rfl | rfl | rfl | rfl | rfl | rfl | rfl <;> decide
theorem F_at (h : Fok F) (hk : k < (fL F).length) : stv F k = nI (gD F k) ∧ gD F k < 8 := by
  have hl := (F_len h).2.1
  have hk4 : k = 0 ∨ k = 1 ∨ k = 2 ∨ k = 3 := by omega
  rcases F_cases h with rfl | rfl | rfl | rfl | rfl | rfl | rfl <;> rcases hk4 with rfl | rfl | rfl | rfl <;> first | exact ⟨by decide, by decide⟩ | exact absurd hk (by decide)
theorem gD_out (hk : (fL F).length ≤ k) : gD F k = 8 := by
  unfold gD
  rw [List.getD_eq_getElem?_getD, List.getElem?_eq_none hk]
  rfl
theorem gD_8 (h : Fok F) : gD F k = 8 ↔ (fL F).length ≤ k := by
  refine ⟨fun z => ?_, gD_out⟩
  by_cases hk : k < (fL F).length
  · have := (F_at h hk).2
    omega
  · omega
theorem bd_st {s : Nat} (h : s < 8) : stv 4 s = nI (bd s).1 ∧ stv 5 s = nI (bd s).2 ∧ slen 4 = 8 ∧ slen 5 = 8 := by
  have : s = 0 ∨ s = 1 ∨ s = 2 ∨ s = 3 ∨ s = 4 ∨ s = 5 ∨ s = 6 ∨ s = 7 := by omega
  rcases this with rfl | rfl | rfl | rfl | rfl | rfl | rfl | rfl <;> exact ⟨by decide, by decide, rfl, rfl⟩
theorem c_start (Q : Mm → Prop) : w_X4_startLine (jc m x F k w) Q ↔ Q (jc m x 0 0 (up w 0 (-1))) := by
  unfold w_X4_startLine w_X4_startNumber
  have hv : vp_in 0 4 := vp_in_nI (n := 0) (by decide) (by decide)
  simp only [forall_eq, hv, true_and, jc_s3]
  have h4 := jc_s4 m x 0 k 0 w
  have h4 : sI (jc m x 0 k w) 17 1 4 0 = jc m x 0 0 w := h4
  rw [h4, jc_s19]
  exact Iff.rfl
theorem c_startNo (hk : k < 4) (k' : Nat) (Q : Mm → Prop) : w_X4_startNumber (nI k) (jc m x F k' w) Q ↔ Q (jc m x F k (up w k (-1))) := by
  unfold w_X4_startNumber
  have hv : vp_in (nI k) 4 := vp_in_nI hk (by decide)
  have ht : (nI k).toNatClampNeg = k := rs_tn (by omega)
  simp only [forall_eq, hv, true_and, jc_s4, ht, jc_s19]
theorem c_sortAt (h : Fok F) {k' : Nat} (hk : k ≤ 4) (Q : Int32 → Prop) : w_X4_sortAt (nI k) (jc m x F k' w) Q ↔ Q (nI (gD F k)) := by
  obtain ⟨l1, l2, l3⟩ := F_len h
  have hF0 : ¬ F = 0 := by unfold Fok at h; omega
  have hok : ok 20 F := by
    show 1 ≤ F ∧ F ≤ 12
    unfold Fok at h
    omega
  unfold w_X4_sortAt
  have ht : (nI k).toNatClampNeg = k := rs_tn (by omega)
  by_cases hlt : k < (fL F).length
  · have hle : ¬ Int32.ofNat (fL F).length ≤ nI k := fun z => by have := (le_nI (by omega) (by omega)).mp z; omega
    have hv : vp_in (nI k) (fL F).length := vp_in_nI hlt (by omega)
    simp only [jc_3, hF0, hok, l1, hle, hv, ht, (F_at h hlt).1, not_true_eq_false, not_false_eq_true, false_implies, true_implies, true_and, and_true, forall_eq, if_true, if_false, reduceIte]
  · have hle : Int32.ofNat (fL F).length ≤ nI k := (le_nI (by omega) (by omega)).mpr (by omega)
    rw [gD_out (by omega)]
    simp only [jc_3, hF0, hok, l1, hle, not_true_eq_false, not_false_eq_true, false_implies, true_implies, true_and, and_true, forall_eq, if_true, if_false, reduceIte]
    exact Iff.rfl
theorem c_within {s : Nat} (hs : s < 8) {y : Nat} (hy : y ≤ 100000) (mm : Mm) (Q : Int32 → Prop) : w_X9_isWithin (nI y) (stv 4 s) (stv 5 s) mm Q ↔ if (bd s).1 ≤ y ∧ y ≤ (bd s).2 then Q 1 else Q 0 := by
  obtain ⟨b1, b2, _, _⟩ := bd_st hs
  have hb := bd_ok s
  rw [isWithin_iff, b1, b2]
  have e1 := nI_leI (a := (bd s).1) (b := y) (by omega) (by omega)
  have e2 := nI_leI (a := y) (b := (bd s).2) (by omega) (by omega)
  by_cases h : (bd s).1 ≤ y ∧ y ≤ (bd s).2
  · rw [if_pos h, if_pos ⟨e1.mpr h.1, e2.mpr h.2⟩]
  · rw [if_neg h, if_neg (fun z => h ⟨e1.mp z.1, e2.mp z.2⟩)]
theorem c_J46 (hk : k < 4) {s : Nat} (hs : s < 8) {y : Nat} (hy : y ≤ 100000) : w_X4_readsDigit_J46 (jc m x F k w) Q (nI s) (nI y) ↔ if (bd s).1 ≤ y ∧ y ≤ (bd s).2 then Q 1 (jc m x F k (up w k (nI y))) else Q 0 (jc m x F k w) := by
  obtain ⟨b1, b2, b3, b4⟩ := bd_st hs
  have ht : (nI s).toNatClampNeg = s := rs_tn (by omega)
  have htk : (nI k).toNatClampNeg = k := rs_tn (by omega)
  have hv : vp_in (nI s) 8 := vp_in_nI hs (by decide)
  unfold w_X4_readsDigit_J46
  rw [b3, b4, ht, c_within hs hy]
  by_cases h : (bd s).1 ≤ y ∧ y ≤ (bd s).2
  · simp only [h, hv, jc_4, htk, jc_s19, z10, and_self, not_true_eq_false, not_false_eq_true, false_implies, true_implies, true_and, and_true, forall_eq, if_true, if_false, reduceIte]
  · simp only [h, hv, not_true_eq_false, not_false_eq_true, false_implies, true_implies, true_and, and_true, forall_eq, if_true, if_false, reduceIte]
/-- a digit -/
theorem c_digit (h : Fok F) (hk : k < (fL F).length) {v : Option Nat} (hw : w k = oc v) (hv9 : ∀ y, v = some y → (bd (gD F k)).1 ≤ y ∧ y ≤ 9999) {c : Int32} (hc : 48 ≤ c ∧ c ≤ 57) (hq1 : ∀ y, nx (bd (gD F k)).1 (bd (gD F k)).2 v c = some y → Q 1 (jc m x F k (up w k (nI y)))) (hq0 : nx (bd (gD F k)).1 (bd (gD F k)).2 v c = none → Q 0 (jc m x F k w)) : w_X4_reads c (jc m x F k w) Q := by
  obtain ⟨l1, l2, l3⟩ := F_len h
  have hF0 : ¬ F = 0 := by unfold Fok at h; omega
  have hk4 : k < 4 := by omega
  obtain ⟨s1, s8⟩ := F_at h hk
  obtain ⟨d, hd9, hcd, hd⟩ := dig_ex hc
  have e48 : c - 48 = nI d := by
    rw [hcd, show (48 : Int32) = nI 48 from rfl, pk_sub (by omega)]
    exact congrArg nI (by omega)
  have hn48 : ¬ c < 48 := Int32.not_lt.mpr hc.1
  have hn57 : ¬ 57 < c := Int32.not_lt.mpr hc.2
  have hvk : vp_in (nI k) 4 := vp_in_nI hk4 (by decide)
  have htk : (nI k).toNatClampNeg = k := rs_tn (by omega)
  have hr8 : ¬ nI (gD F k) = 8 := fun z => by have := (nI_eq (a := gD F k) (b := 8) (by omega) (by decide)).mp z; omega
  have hB0 : ∀ {r : Int32} {m' : Mm}, r = 0 ∨ r = 1 → Q r m' → isB r ∧ Q r m' := fun hr hQ => ⟨hr, hQ⟩
  unfold w_X4_reads
  simp only [jc_3, hF0, hn48, hn57, e48, not_true_eq_false, not_false_eq_true, false_implies, true_implies, true_and, and_true, forall_eq, if_true, if_false, reduceIte]
  unfold w_X4_readsDigit
  simp only [jc_4, htk, hvk, jc_19, hw, c_sortAt h (show k ≤ 4 by omega), hr8, not_true_eq_false, not_false_eq_true, false_implies, true_implies, true_and, and_true, forall_eq, if_true, if_false, reduceIte]
  cases v with
  | none =>
    have e1 : oc none = -1 := rfl
    have hx := fun (y : Nat) (hy : nx (bd (gD F k)).1 (bd (gD F k)).2 none c = some y) => hq1 y hy
    have hnx : nx (bd (gD F k)).1 (bd (gD F k)).2 none c = if (bd (gD F k)).1 ≤ d ∧ d ≤ (bd (gD F k)).2 then some d else none := by
      unfold nx
      rw [if_pos hc, hd]
    simp only [e1, show ¬ (-1 : Int32) = 0 by decide, not_true_eq_false, not_false_eq_true, false_implies, true_implies, true_and, and_true, forall_eq, if_true, if_false, reduceIte]
    rw [c_J46 (Q := fun r m' => isB r ∧ Q r m') hk4 s8 (by omega)]
    by_cases hb : (bd (gD F k)).1 ≤ d ∧ d ≤ (bd (gD F k)).2
    · rw [if_pos hb]
      exact ⟨isB1, hq1 d (by rw [hnx, if_pos hb])⟩
    · rw [if_neg hb]
      exact ⟨isB0, hq0 (by rw [hnx, if_neg hb])⟩
  | some y =>
    obtain ⟨y1, y2⟩ := hv9 y rfl
    have e1 : oc (some y) = nI y := rfl
    have hnx : nx (bd (gD F k)).1 (bd (gD F k)).2 (some y) c = if y = 0 then none else if 10 * y + d ≤ (bd (gD F k)).2 then some (10 * y + d) else none := by
      unfold nx
      rw [if_pos hc, hd]
    by_cases hy0 : y = 0
    · subst hy0
      simp only [e1, show nI 0 = 0 from rfl, not_true_eq_false, not_false_eq_true, false_implies, true_implies, true_and, and_true, forall_eq, if_true, if_false, reduceIte]
      exact ⟨isB0, hq0 (by rw [hnx, if_pos rfl])⟩
    · have hne : ¬ nI y = 0 := fun z => hy0 ((nI_eq (b := 0) (by omega) (by decide)).mp z)
      have hnm : ¬ nI y = -1 := nI_nm1 (by omega)
      have ex : (10 : Int32) * nI y + nI d = nI (10 * y + d) := by
        rw [show (10 : Int32) = nI 10 from rfl, pk_mul, nI_add]
      simp only [e1, hne, hnm, ex, not_true_eq_false, not_false_eq_true, false_implies, true_implies, true_and, and_true, forall_eq, if_true, if_false, reduceIte]
      rw [c_J46 (Q := fun r m' => isB r ∧ Q r m') hk4 s8 (by omega)]
      rw [if_neg hy0] at hnx
      by_cases hb : 10 * y + d ≤ (bd (gD F k)).2
      · rw [if_pos ⟨by omega, hb⟩]
        exact ⟨isB1, hq1 _ (by rw [hnx, if_pos hb])⟩
      · rw [if_neg (fun z => hb z.2)]
        exact ⟨isB0, hq0 (by rw [hnx, if_neg hb])⟩
theorem sgn_nd (s : Nat) : ¬ (48 ≤ sgn s ∧ sgn s ≤ 57) := by
  unfold sgn
  repeat' split
  all_goals decide
theorem c_sgn {s : Nat} (hs : s ≤ 8) (mm : Mm) (Q : Int32 → Prop) : w_X4_signBefore (nI s) mm Q ↔ Q (sgn s) := by
  have : s = 0 ∨ s = 1 ∨ s = 2 ∨ s = 3 ∨ s = 4 ∨ s = 5 ∨ s = 6 ∨ s = 7 ∨ s = 8 := by omega
  rcases this with rfl | rfl | rfl | rfl | rfl | rfl | rfl | rfl | rfl <;> (unfold w_X4_signBefore; simp (decide := true) only [not_true_eq_false, not_false_eq_true, false_implies, true_implies, true_and, and_true, forall_eq, if_true, if_false, reduceIte]) <;> exact Iff.rfl
/-- no digit -/
theorem c_nodig (h : Fok F) (hk : k < (fL F).length) {c : Int32} (hc : ¬ (48 ≤ c ∧ c ≤ 57)) : w_X4_reads c (jc m x F k w) Q ↔ if w k = -1 then Q 0 (jc m x F k w) else if c = sgn (gD F (k + 1)) then (if c = 59 then Q 1 (jc m x 0 0 (up w 0 (-1))) else Q 1 (jc m x F (k + 1) (up w (k + 1) (-1)))) else Q 0 (jc m x F k w) := by
  obtain ⟨l1, l2, l3⟩ := F_len h
  have hF0 : ¬ F = 0 := by unfold Fok at h; omega
  have hk4 : k < 4 := by omega
  have hvk : vp_in (nI k) 4 := vp_in_nI hk4 (by decide)
  have htk : (nI k).toNatClampNeg = k := rs_tn (by omega)
  have hg8 : gD F (k + 1) ≤ 8 := by
    by_cases hk1 : k + 1 < (fL F).length
    · have := (F_at h hk1).2; omega
    · rw [gD_out (by omega)]; exact Nat.le_refl _
  have hJ : w_X4_reads_J54 c (jc m x F k w) Q ↔ if w k = -1 then Q 0 (jc m x F k w) else if c = sgn (gD F (k + 1)) then (if c = 59 then Q 1 (jc m x 0 0 (up w 0 (-1))) else Q 1 (jc m x F (k + 1) (up w (k + 1) (-1)))) else Q 0 (jc m x F k w) := by
    unfold w_X4_reads_J54
    simp only [jc_4, htk, hvk, jc_19, true_and, nI_1]
    by_cases hw : w k = -1
    · simp only [hw, not_true_eq_false, not_false_eq_true, false_implies, true_implies, true_and, and_true, forall_eq, if_true, if_false, reduceIte]
    · simp only [hw, c_sortAt h (show k + 1 ≤ 4 by omega), c_sgn hg8, not_true_eq_false, not_false_eq_true, false_implies, true_implies, true_and, and_true, forall_eq, if_true, if_false, reduceIte]
      by_cases hs : c = sgn (gD F (k + 1))
      · rw [if_pos hs]
        by_cases h59 : c = 59
        · simp only [hs.symm, h59, c_start, not_true_eq_false, not_false_eq_true, false_implies, true_implies, true_and, and_true, forall_eq, if_true, if_false, reduceIte]
        · have hk1 : k + 1 < (fL F).length := by
            by_cases z : k + 1 < (fL F).length
            · exact z
            · rw [gD_out (by omega)] at hs
              exact absurd hs h59
          simp only [hs.symm, h59, c_startNo (show k + 1 < 4 by omega), not_true_eq_false, not_false_eq_true, false_implies, true_implies, true_and, and_true, forall_eq, if_true, if_false, reduceIte]
      · simp only [hs, not_true_eq_false, not_false_eq_true, false_implies, true_implies, true_and, and_true, forall_eq, if_true, if_false, reduceIte]
  unfold w_X4_reads
  simp only [jc_3, hF0, not_true_eq_false, not_false_eq_true, false_implies, true_implies, true_and, and_true, forall_eq, if_true, if_false, reduceIte]
  by_cases h1 : c < 48
  · simp only [h1, not_true_eq_false, not_false_eq_true, false_implies, true_implies, true_and, and_true, forall_eq, if_true, if_false, reduceIte]
    exact hJ
  · have h2 : 57 < c := by
      by_cases z : 57 < c
      · exact z
      · exact absurd ⟨Int32.not_lt.mp h1, Int32.not_lt.mp z⟩ hc
    simp only [h1, h2, not_true_eq_false, not_false_eq_true, false_implies, true_implies, true_and, and_true, forall_eq, if_true, if_false, reduceIte]
    exact hJ
theorem fm_ok (c : Int32) (h : ¬ fm c = 0) : Fok (fm c) := by
  rcases lt_cases c with q | q | q | q | q | q | q | q | q | q | q
  all_goals first
    | (subst q; unfold Fok; decide)
    | exact absurd q.1 h
/-- the first sign of a line -/
theorem c_letter (c : Int32) : w_X4_reads c (jc m x 0 k w) Q ↔ if fm c = 0 then Q 0 (jc m c 0 k w) else Q 1 (jc m c (fm c) k w) := by
  unfold w_X4_reads
  simp only [jc_3, jc_s2, not_true_eq_false, not_false_eq_true, false_implies, true_implies, true_and, and_true, forall_eq, if_true, if_false, reduceIte]
  have hf : ∀ (mm : Mm) (Q : Nat → Prop), w_X4_formOf c mm Q ↔ Q (fm c) := fun mm Q => by
    rcases lt_cases c with q | q | q | q | q | q | q | q | q | q | ⟨q, g1, g2, g3, g4, g5, g6, g7, g8, g9, g10⟩
    all_goals first
      | (subst q; unfold w_X4_formOf; simp (decide := true) only [not_true_eq_false, not_false_eq_true, false_implies, true_implies, true_and, and_true, forall_eq, if_true, if_false, reduceIte]; exact Iff.rfl)
      | (unfold w_X4_formOf; rw [q]; simp [g1, g2, g3, g4, g5, g6, g7, g8, g9, g10])
  rw [hf]
  simp only [jc_s3, jc_3]
  by_cases h : fm c = 0
  · simp only [h, not_true_eq_false, not_false_eq_true, false_implies, true_implies, true_and, and_true, forall_eq, if_true, if_false, reduceIte]
  · simp only [h, not_true_eq_false, not_false_eq_true, false_implies, true_implies, true_and, and_true, forall_eq, if_true, if_false, reduceIte]
end SEM30
