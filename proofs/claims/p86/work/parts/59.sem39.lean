section SEM39
variable {m m' : Mm} {N i t j q : Nat} {Q : Mm → Prop}
theorem cI_inv (t j q : Nat) : cI t j q = 1000000 ∨
  (t = 2 ∧ (1 ≤ j ∧ j ≤ 9 ∧ q = 0) ∧ cI t j q = 2 * (sbC j + 2)) ∨
  (t = 5 ∧ (1 ≤ j ∧ j ≤ 45 ∧ q = 0) ∧ cI t j q = 2 * (sbC ((j - 1) / 5 + 1) + 36 + (j - 1) % 5)) ∨
  (t = 6 ∧ (1 ≤ j ∧ j ≤ 54 ∧ q < 2) ∧ cI t j q = 2 * (sbC ((j - 1) / 6 + 1) + 41 + (j - 1) % 6)) := by
  unfold cI far
  by_cases h2 : t = 2
  · subst h2
    by_cases c : 1 ≤ j ∧ j ≤ 9 ∧ q = 0 <;> simp [c]
  by_cases h5 : t = 5
  · subst h5
    by_cases c : 1 ≤ j ∧ j ≤ 45 ∧ q = 0 <;> simp [c]
  by_cases h6 : t = 6
  · subst h6
    by_cases c : 1 ≤ j ∧ j ≤ 54 ∧ q < 2 <;> simp [c]
  · simp [h2, h5, h6]
theorem sb_d (k : Nat) : (k = 0 ∧ sbC (k + 1) = 1) ∨ (1 ≤ k ∧ sbC (k + 1) = 51 + 46 * (k - 1)) := by
  rcases sb_eq (j := k + 1) (by omega) with h | h
  · exact Or.inl ⟨by omega, h.2⟩
  · exact Or.inr ⟨by omega, by rw [h.2]; congr 2⟩
theorem sb_j (j : Nat) : j = 0 ∨ (j = 1 ∧ sbC j = 1) ∨ (2 ≤ j ∧ sbC j = 51 + 46 * (j - 2)) := by
  by_cases hj : 1 ≤ j
  · exact Or.inr (sb_eq hj)
  · exact Or.inl (by omega)
theorem wR_e (hi : 1 ≤ i ∧ i ≤ 9) {e : Nat} (he : e < 16) (t j q : Nat) : (2 * (sbC i + 7 + e) < cR t j q ∧ cR t j q ≤ 2 * (sbC i + 8 + e)) ↔ (t = 7 ∧ j = i ∧ q = e) := by
  have hb := sb_eq hi.1
  constructor
  · intro h
    have hb2 := sb_j j
    have hv := cR_inv t j q
    generalize cR t j q = v at *
    omega
  · rintro ⟨rfl, rfl, rfl⟩
    unfold cR
    first | rw [if_neg (by decide), if_neg (by decide), if_neg (by decide), if_neg (by decide), if_pos rfl, if_pos (by omega)] | rw [if_neg (by decide), if_neg (by decide), if_neg (by decide), if_pos rfl, if_pos (by omega)] | rw [if_neg (by decide), if_neg (by decide), if_pos rfl, if_pos (by omega)] | rw [if_neg (by decide), if_pos rfl, if_pos (by omega)] | rw [if_pos rfl, if_pos (by omega)]
    omega
theorem wI_e (hi : 1 ≤ i ∧ i ≤ 9) {e : Nat} (he : e < 16) (t j q : Nat) : (2 * (sbC i + 7 + e) < cI t j q ∧ cI t j q ≤ 2 * (sbC i + 8 + e)) ↔ False := by
  have hb := sb_eq hi.1
  refine ⟨fun h => ?_, fun h => h.elim⟩
  have hb2 := sb_j j
  have hd5 := sb_d ((j - 1) / 5)
  have hd6 := sb_d ((j - 1) / 6)
  have hv := cI_inv t j q
  generalize cI t j q = v at *
  omega
theorem wR_r (hi : 1 ≤ i ∧ i ≤ 9) {e : Nat} (he : e < 12) (t j q : Nat) : (2 * (sbC i + 23 + e) < cR t j q ∧ cR t j q ≤ 2 * (sbC i + 24 + e)) ↔ (t = 8 ∧ j = i ∧ q = e) := by
  have hb := sb_eq hi.1
  constructor
  · intro h
    have hb2 := sb_j j
    have hv := cR_inv t j q
    generalize cR t j q = v at *
    omega
  · rintro ⟨rfl, rfl, rfl⟩
    unfold cR
    first | rw [if_neg (by decide), if_neg (by decide), if_neg (by decide), if_neg (by decide), if_pos rfl, if_pos (by omega)] | rw [if_neg (by decide), if_neg (by decide), if_neg (by decide), if_pos rfl, if_pos (by omega)] | rw [if_neg (by decide), if_neg (by decide), if_pos rfl, if_pos (by omega)] | rw [if_neg (by decide), if_pos rfl, if_pos (by omega)] | rw [if_pos rfl, if_pos (by omega)]
    omega
theorem wI_r (hi : 1 ≤ i ∧ i ≤ 9) {e : Nat} (he : e < 12) (t j q : Nat) : (2 * (sbC i + 23 + e) < cI t j q ∧ cI t j q ≤ 2 * (sbC i + 24 + e)) ↔ False := by
  have hb := sb_eq hi.1
  refine ⟨fun h => ?_, fun h => h.elim⟩
  have hb2 := sb_j j
  have hd5 := sb_d ((j - 1) / 5)
  have hd6 := sb_d ((j - 1) / 6)
  have hv := cI_inv t j q
  generalize cI t j q = v at *
  omega
theorem wR_c (hi : 1 ≤ i ∧ i ≤ 9) {e : Nat} (he : e < 5) (t j q : Nat) : (2 * (sbC i + 35 + e) < cR t j q ∧ cR t j q ≤ 2 * (sbC i + 36 + e)) ↔ (t = 9 ∧ j = i ∧ q = e) := by
  have hb := sb_eq hi.1
  constructor
  · intro h
    have hb2 := sb_j j
    have hv := cR_inv t j q
    generalize cR t j q = v at *
    omega
  · rintro ⟨rfl, rfl, rfl⟩
    unfold cR
    first | rw [if_neg (by decide), if_neg (by decide), if_neg (by decide), if_neg (by decide), if_pos rfl, if_pos (by omega)] | rw [if_neg (by decide), if_neg (by decide), if_neg (by decide), if_pos rfl, if_pos (by omega)] | rw [if_neg (by decide), if_neg (by decide), if_pos rfl, if_pos (by omega)] | rw [if_neg (by decide), if_pos rfl, if_pos (by omega)] | rw [if_pos rfl, if_pos (by omega)]
    omega
theorem wR_k (hi : 1 ≤ i ∧ i ≤ 9) {e : Nat} (he : e < 6) (t j q : Nat) : (2 * (sbC i + 40 + e) < cR t j q ∧ cR t j q ≤ 2 * (sbC i + 41 + e)) ↔ (t = 10 ∧ j = i ∧ q = e) := by
  have hb := sb_eq hi.1
  constructor
  · intro h
    have hb2 := sb_j j
    have hv := cR_inv t j q
    generalize cR t j q = v at *
    omega
  · rintro ⟨rfl, rfl, rfl⟩
    unfold cR
    first | rw [if_neg (by decide), if_neg (by decide), if_neg (by decide), if_neg (by decide), if_pos rfl, if_pos (by omega)] | rw [if_neg (by decide), if_neg (by decide), if_neg (by decide), if_pos rfl, if_pos (by omega)] | rw [if_neg (by decide), if_neg (by decide), if_pos rfl, if_pos (by omega)] | rw [if_neg (by decide), if_pos rfl, if_pos (by omega)] | rw [if_pos rfl, if_pos (by omega)]
    omega
theorem wR_s (hi : 1 ≤ i ∧ i ≤ 9) {e : Nat} (he : 6 ≤ e ∧ e ≤ 10) (t j q : Nat) : (2 * (sbC i + e - 4) < cR t j q ∧ cR t j q ≤ 2 * (sbC i + e - 3)) ↔ (t = 1 ∧ j = i ∧ q = e) := by
  have hb := sb_eq hi.1
  constructor
  · intro h
    have hb2 := sb_j j
    have hv := cR_inv t j q
    generalize cR t j q = v at *
    omega
  · rintro ⟨rfl, rfl, rfl⟩
    unfold cR
    first | rw [if_neg (by decide), if_neg (by decide), if_neg (by decide), if_neg (by decide), if_pos rfl, if_pos (by omega)] | rw [if_neg (by decide), if_neg (by decide), if_neg (by decide), if_pos rfl, if_pos (by omega)] | rw [if_neg (by decide), if_neg (by decide), if_pos rfl, if_pos (by omega)] | rw [if_neg (by decide), if_pos rfl, if_pos (by omega)] | rw [if_pos rfl, if_pos (by omega)]
    omega
theorem wI_s (hi : 1 ≤ i ∧ i ≤ 9) {e : Nat} (he : 6 ≤ e ∧ e ≤ 10) (t j q : Nat) : (2 * (sbC i + e - 4) < cI t j q ∧ cI t j q ≤ 2 * (sbC i + e - 3)) ↔ False := by
  have hb := sb_eq hi.1
  refine ⟨fun h => ?_, fun h => h.elim⟩
  have hb2 := sb_j j
  have hd5 := sb_d ((j - 1) / 5)
  have hd6 := sb_d ((j - 1) / 6)
  have hv := cI_inv t j q
  generalize cI t j q = v at *
  omega
theorem wR_m (hi : 1 ≤ i ∧ i ≤ 9) (t j q : Nat) : (2 * (sbC i + 1) < cR t j q ∧ cR t j q ≤ 2 * (sbC i + 2)) ↔ (t = 1 ∧ j = i ∧ q = 5) := by
  have hb := sb_eq hi.1
  constructor
  · intro h
    have hb2 := sb_j j
    have hv := cR_inv t j q
    generalize cR t j q = v at *
    omega
  · rintro ⟨rfl, rfl, rfl⟩
    unfold cR
    rw [if_pos rfl, if_pos (by omega)]
    omega
theorem wI_m (hi : 1 ≤ i ∧ i ≤ 9) (t j q : Nat) : (2 * (sbC i + 1) < cI t j q ∧ cI t j q ≤ 2 * (sbC i + 2)) ↔ (t = 2 ∧ j = i ∧ q = 0) := by
  have hb := sb_eq hi.1
  constructor
  · intro h
    have hb2 := sb_j j
    have hd5 := sb_d ((j - 1) / 5)
    have hd6 := sb_d ((j - 1) / 6)
    have hv := cI_inv t j q
    generalize cI t j q = v at *
    omega
  · rintro ⟨rfl, rfl, rfl⟩
    unfold cI
    rw [if_pos rfl, if_pos (by omega)]
    omega
theorem wI_c (hi : 1 ≤ i ∧ i ≤ 9) {e : Nat} (he : e < 5) (t j q : Nat) : (2 * (sbC i + 35 + e) < cI t j q ∧ cI t j q ≤ 2 * (sbC i + 36 + e)) ↔ (t = 5 ∧ j = 5 * (i - 1) + e + 1 ∧ q = 0) := by
  have hb := sb_eq hi.1
  constructor
  · intro h
    have hb2 := sb_j j
    have hd5 := sb_d ((j - 1) / 5)
    have hd6 := sb_d ((j - 1) / 6)
    have hv := cI_inv t j q
    generalize cI t j q = v at *
    omega
  · rintro ⟨rfl, rfl, rfl⟩
    have e1 : (5 * (i - 1) + e + 1 - 1) / 5 + 1 = i := by omega
    have e2 : (5 * (i - 1) + e + 1 - 1) % 5 = e := by omega
    unfold cI
    rw [if_neg (by decide), if_pos rfl, if_pos (by omega), e1, e2]
    omega
theorem wI_k (hi : 1 ≤ i ∧ i ≤ 9) {e : Nat} (he : e < 6) (t j q : Nat) : (2 * (sbC i + 40 + e) < cI t j q ∧ cI t j q ≤ 2 * (sbC i + 41 + e)) ↔ (t = 6 ∧ j = 6 * (i - 1) + e + 1 ∧ q < 2) := by
  have hb := sb_eq hi.1
  constructor
  · intro h
    have hb2 := sb_j j
    have hd5 := sb_d ((j - 1) / 5)
    have hd6 := sb_d ((j - 1) / 6)
    have hv := cI_inv t j q
    generalize cI t j q = v at *
    omega
  · rintro ⟨rfl, rfl, hq⟩
    have e1 : (6 * (i - 1) + e + 1 - 1) / 6 + 1 = i := by omega
    have e2 : (6 * (i - 1) + e + 1 - 1) % 6 = e := by omega
    unfold cI
    rw [if_neg (by decide), if_neg (by decide), if_pos rfl, if_pos (by omega), e1, e2]
    omega
theorem ME_cons {cell : Nat × Nat × Nat} {lo hi v : Nat} (h : lo ≤ hi) (hR : ∀ t j q, (lo < cR t j q ∧ cR t j q ≤ hi) ↔ (t = cell.1 ∧ j = cell.2.1 ∧ q = cell.2.2)) (hI : ∀ t j q, (lo < cI t j q ∧ cI t j q ≤ hi) ↔ False) (hv : v = iR cell.1 cell.2.1 cell.2.2) : sR (ME lo) cell.1 cell.2.1 cell.2.2 v = ME hi := by
  refine ME_step h (fun t j q => ?_) (fun t j q => ?_)
  · rw [if_neg (fun z => (hI t j q).mp z)]
    rfl
  · show (if t = cell.1 ∧ j = cell.2.1 ∧ q = cell.2.2 then v else (ME lo).2 t j q) = _
    by_cases z : t = cell.1 ∧ j = cell.2.1 ∧ q = cell.2.2
    · rw [if_pos z, if_pos ((hR t j q).mpr z), hv, z.1, z.2.1, z.2.2]
    · rw [if_neg z, if_neg (fun w => z ((hR t j q).mp w))]
end SEM39
