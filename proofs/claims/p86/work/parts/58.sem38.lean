section SEM38
variable {m m' : Mm} {N i t j q : Nat}
def far : Nat := 1000000
/-- where a reference points once it is set, and the size of the heap at which it is -/
def iR (t j q : Nat) : Nat := if t = 0 then 1 else if t = 1 then j else if t = 7 then 16 * (j - 1) + q + 1 else if t = 8 then 12 * (j - 1) + q + 1 else if t = 9 then 5 * (j - 1) + q + 1 else if t = 10 then 6 * (j - 1) + q + 1 else if t = 13 then q + 2 else if t = 14 then q + 8 else 1
def cR (t j q : Nat) : Nat :=
  if t = 1 then (if 1 ≤ j ∧ j ≤ 9 ∧ 5 ≤ q ∧ q ≤ 10 then 2 * (sbC j + q - 3) else far)
  else if t = 7 then (if 1 ≤ j ∧ j ≤ 9 ∧ q < 16 then 2 * (sbC j + 8 + q) else far)
  else if t = 8 then (if 1 ≤ j ∧ j ≤ 9 ∧ q < 12 then 2 * (sbC j + 24 + q) else far)
  else if t = 9 then (if 1 ≤ j ∧ j ≤ 9 ∧ q < 5 then 2 * (sbC j + 36 + q) else far)
  else if t = 10 then (if 1 ≤ j ∧ j ≤ 9 ∧ q < 6 then 2 * (sbC j + 41 + q) else far)
  else if j = 1 then
    (if t = 0 then (if q = 0 then 95 else if q = 1 then 840 else if q = 2 then 842 else if q = 3 then 847 else far)
    else if t = 12 then (if q = 0 then 98 else if q = 3 then 100 else if q = 4 then 102 else far)
    else if t = 13 then (if q < 6 then 195 + 92 * q else far)
    else if t = 14 then (if q < 2 then 747 + 92 * q else far)
    else if t = 16 then (if q < 2 then 841 else far)
    else if t = 17 then (if q = 0 then 844 else if q = 5 then 846 else far)
    else far)
  else far
/-- the same of the numbers -/
def iI (t j q : Nat) : Int32 := if t = 2 then 5000 else if t = 5 then -1 else if q = 0 then stv 1 ((j - 1) % 6) else stv 2 ((j - 1) % 6)
def cI (t j q : Nat) : Nat :=
  if t = 2 then (if 1 ≤ j ∧ j ≤ 9 ∧ q = 0 then 2 * (sbC j + 2) else far)
  else if t = 5 then (if 1 ≤ j ∧ j ≤ 45 ∧ q = 0 then 2 * (sbC ((j - 1) / 5 + 1) + 36 + (j - 1) % 5) else far)
  else if t = 6 then (if 1 ≤ j ∧ j ≤ 54 ∧ q < 2 then 2 * (sbC ((j - 1) / 6 + 1) + 41 + (j - 1) % 6) else far)
  else far
def ME (N : Nat) : Mm := (fun t j q => if cI t j q ≤ N then iI t j q else 0, fun t j q => if cR t j q ≤ N then iR t j q else 0)
/-- from one size to a later one: what is set in between -/
theorem ME_step {N' : Nat} (hN : N ≤ N') (hI : ∀ t j q, m'.1 t j q = if N < cI t j q ∧ cI t j q ≤ N' then iI t j q else (ME N).1 t j q) (hR : ∀ t j q, m'.2 t j q = if N < cR t j q ∧ cR t j q ≤ N' then iR t j q else (ME N).2 t j q) : m' = ME N' := by
  refine Prod.ext ?_ ?_
  · funext t j q
    rw [hI]
    show (if N < cI t j q ∧ cI t j q ≤ N' then iI t j q else if cI t j q ≤ N then iI t j q else 0) = if cI t j q ≤ N' then iI t j q else 0
    by_cases h : N < cI t j q ∧ cI t j q ≤ N'
    · rw [if_pos h, if_pos (by omega)]
    · rw [if_neg h]
      by_cases h2 : cI t j q ≤ N
      · rw [if_pos h2, if_pos (by omega)]
      · rw [if_neg h2, if_neg (by omega)]
  · funext t j q
    rw [hR]
    show (if N < cR t j q ∧ cR t j q ≤ N' then iR t j q else if cR t j q ≤ N then iR t j q else 0) = if cR t j q ≤ N' then iR t j q else 0
    by_cases h : N < cR t j q ∧ cR t j q ≤ N'
    · rw [if_pos h, if_pos (by omega)]
    · rw [if_neg h]
      by_cases h2 : cR t j q ≤ N
      · rw [if_pos h2, if_pos (by omega)]
      · rw [if_neg h2, if_neg (by omega)]
theorem sb_eq (h : 1 ≤ j) : (j = 1 ∧ sbC j = 1) ∨ (2 ≤ j ∧ sbC j = 51 + 46 * (j - 2)) := by
  unfold sbC
  by_cases z : j = 1
  · exact Or.inl ⟨z, if_pos z⟩
  · exact Or.inr ⟨by omega, if_neg z⟩
theorem cR_inv (t j q : Nat) : cR t j q = 1000000 ∨
  (t = 1 ∧ (1 ≤ j ∧ j ≤ 9 ∧ 5 ≤ q ∧ q ≤ 10) ∧ cR t j q = 2 * (sbC j + q - 3)) ∨
  (t = 7 ∧ (1 ≤ j ∧ j ≤ 9 ∧ q < 16) ∧ cR t j q = 2 * (sbC j + 8 + q)) ∨
  (t = 8 ∧ (1 ≤ j ∧ j ≤ 9 ∧ q < 12) ∧ cR t j q = 2 * (sbC j + 24 + q)) ∨
  (t = 9 ∧ (1 ≤ j ∧ j ≤ 9 ∧ q < 5) ∧ cR t j q = 2 * (sbC j + 36 + q)) ∨
  (t = 10 ∧ (1 ≤ j ∧ j ≤ 9 ∧ q < 6) ∧ cR t j q = 2 * (sbC j + 41 + q)) ∨
  (j = 1 ∧ ((t = 0 ∧ q = 0 ∧ cR t j q = 95) ∨ (t = 0 ∧ q = 1 ∧ cR t j q = 840) ∨ (t = 0 ∧ q = 2 ∧ cR t j q = 842) ∨ (t = 0 ∧ q = 3 ∧ cR t j q = 847) ∨
    (t = 12 ∧ q = 0 ∧ cR t j q = 98) ∨ (t = 12 ∧ q = 3 ∧ cR t j q = 100) ∨ (t = 12 ∧ q = 4 ∧ cR t j q = 102) ∨
    (t = 13 ∧ q < 6 ∧ cR t j q = 195 + 92 * q) ∨ (t = 14 ∧ q < 2 ∧ cR t j q = 747 + 92 * q) ∨ (t = 16 ∧ q < 2 ∧ cR t j q = 841) ∨
    (t = 17 ∧ q = 0 ∧ cR t j q = 844) ∨ (t = 17 ∧ q = 5 ∧ cR t j q = 846))) := by
  unfold cR far
  by_cases h1 : t = 1
  · subst h1
    by_cases c : 1 ≤ j ∧ j ≤ 9 ∧ 5 ≤ q ∧ q ≤ 10 <;> simp [c]
  by_cases h7 : t = 7
  · subst h7
    by_cases c : 1 ≤ j ∧ j ≤ 9 ∧ q < 16 <;> simp [c]
  by_cases h8 : t = 8
  · subst h8
    by_cases c : 1 ≤ j ∧ j ≤ 9 ∧ q < 12 <;> simp [c]
  by_cases h9 : t = 9
  · subst h9
    by_cases c : 1 ≤ j ∧ j ≤ 9 ∧ q < 5 <;> simp [c]
  by_cases h10 : t = 10
  · subst h10
    by_cases c : 1 ≤ j ∧ j ≤ 9 ∧ q < 6 <;> simp [c]
  by_cases hj : j = 1
  · subst hj
    by_cases h0 : t = 0
    · subst h0
      by_cases q0 : q = 0
      · simp [q0]
      · by_cases q1 : q = 1
        · simp [q1]
        · by_cases q2 : q = 2
          · simp [q2]
          · by_cases q3 : q = 3
            · simp [q3]
            · simp [q0, q1, q2, q3]
    · by_cases h12 : t = 12
      · subst h12
        by_cases q0 : q = 0
        · simp [q0]
        · by_cases q1 : q = 3
          · simp [q1]
          · by_cases q2 : q = 4
            · simp [q2]
            · simp [q0, q1, q2]
      · by_cases h13 : t = 13
        · subst h13
          by_cases q0 : q < 6 <;> simp [q0]
        · by_cases h14 : t = 14
          · subst h14
            by_cases q0 : q < 2 <;> simp [q0]
          · by_cases h16 : t = 16
            · subst h16
              by_cases q0 : q < 2 <;> simp [q0]
            · by_cases h17 : t = 17
              · subst h17
                by_cases q0 : q = 0
                · simp [q0]
                · by_cases q1 : q = 5
                  · simp [q1]
                  · simp [q0, q1]
              · simp [h1, h7, h8, h9, h10, h0, h12, h13, h14, h16, h17]
  · simp [h1, h7, h8, h9, h10, hj]
theorem cR_7 (hi : 1 ≤ i ∧ i ≤ 9) {e : Nat} (he : e < 16) (t j q : Nat) : (2 * (sbC i + 7 + e) < cR t j q ∧ cR t j q ≤ 2 * (sbC i + 8 + e)) ↔ (t = 7 ∧ j = i ∧ q = e) := by
  have hb := sb_eq hi.1
  constructor
  · intro h
    have hb2 : j = 0 ∨ (j = 1 ∧ sbC j = 1) ∨ (2 ≤ j ∧ sbC j = 51 + 46 * (j - 2)) := by
      by_cases hj : 1 ≤ j
      · exact Or.inr (sb_eq hj)
      · exact Or.inl (by omega)
    have hv := cR_inv t j q
    generalize cR t j q = v at *
    omega
  · rintro ⟨rfl, rfl, rfl⟩
    unfold cR
    rw [if_neg (by decide), if_pos rfl, if_pos ⟨hi.1, hi.2, he⟩]
    omega
end SEM38
