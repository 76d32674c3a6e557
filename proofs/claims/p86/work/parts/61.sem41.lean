section SEM41
variable {m m' : Mm} {N i t j q : Nat} {Q : Mm → Prop}
theorem ok_st {t : Nat} (hi : 1 ≤ i ∧ i ≤ 9) (h : cnt t = 9) : ok t i := by
  show 1 ≤ i ∧ i ≤ cnt t
  omega
theorem ME_m (hi : 1 ≤ i ∧ i ≤ 9) : sR (sI (ME (2 * (sbC i + 1))) 2 i 0 5000) 1 i 5 i = ME (2 * (sbC i + 2)) := by
  refine ME_step (N := 2 * (sbC i + 1)) (by omega) (fun t j q => ?_) (fun t j q => ?_)
  · show (if t = 2 ∧ j = i ∧ q = 0 then (5000 : Int32) else (ME (2 * (sbC i + 1))).1 t j q) = _
    by_cases z : t = 2 ∧ j = i ∧ q = 0
    · rw [if_pos z, if_pos ((wI_m hi t j q).mpr z)]
      unfold iI
      rw [if_pos z.1]
    · rw [if_neg z, if_neg (fun w => z ((wI_m hi t j q).mp w))]
  · show (if t = 1 ∧ j = i ∧ q = 5 then i else (ME (2 * (sbC i + 1))).2 t j q) = _
    by_cases z : t = 1 ∧ j = i ∧ q = 5
    · rw [if_pos z, if_pos ((wR_m hi t j q).mpr z)]
      unfold iR
      rw [if_neg (by omega), if_pos z.1, z.2.1]
    · rw [if_neg z, if_neg (fun w => z ((wR_m hi t j q).mp w))]
theorem ME_s (hi : 1 ≤ i ∧ i ≤ 9) {e : Nat} (he : 6 ≤ e ∧ e ≤ 10) : sR (ME (2 * (sbC i + e - 4))) 1 i e i = ME (2 * (sbC i + e - 3)) :=
  ME_cons (cell := (1, i, e)) (by omega) (wR_s hi he) (wI_s hi he) rfl
theorem ME_e (hi : 1 ≤ i ∧ i ≤ 9) {e : Nat} (he : e < 16) : sR (ME (2 * (sbC i + 7 + e))) 7 i e (16 * (i - 1) + e + 1) = ME (2 * (sbC i + 8 + e)) :=
  ME_cons (cell := (7, i, e)) (by omega) (wR_e hi he) (wI_e hi he) rfl
theorem ME_rr (hi : 1 ≤ i ∧ i ≤ 9) {e : Nat} (he : e < 12) : sR (ME (2 * (sbC i + 23 + e))) 8 i e (12 * (i - 1) + e + 1) = ME (2 * (sbC i + 24 + e)) :=
  ME_cons (cell := (8, i, e)) (by omega) (wR_r hi he) (wI_r hi he) rfl
theorem ME_c (hi : 1 ≤ i ∧ i ≤ 9) {e : Nat} (he : e < 5) : sR (sI (ME (2 * (sbC i + 35 + e))) 5 (5 * (i - 1) + e + 1) 0 (-1)) 9 i e (5 * (i - 1) + e + 1) = ME (2 * (sbC i + 36 + e)) := by
  refine ME_step (N := 2 * (sbC i + 35 + e)) (by omega) (fun t j q => ?_) (fun t j q => ?_)
  · show (if t = 5 ∧ j = 5 * (i - 1) + e + 1 ∧ q = 0 then (-1 : Int32) else (ME (2 * (sbC i + 35 + e))).1 t j q) = _
    by_cases z : t = 5 ∧ j = 5 * (i - 1) + e + 1 ∧ q = 0
    · rw [if_pos z, if_pos ((wI_c hi he t j q).mpr z)]
      unfold iI
      rw [if_neg (by omega), if_pos z.1]
    · rw [if_neg z, if_neg (fun w => z ((wI_c hi he t j q).mp w))]
  · show (if t = 9 ∧ j = i ∧ q = e then 5 * (i - 1) + e + 1 else (ME (2 * (sbC i + 35 + e))).2 t j q) = _
    by_cases z : t = 9 ∧ j = i ∧ q = e
    · rw [if_pos z, if_pos ((wR_c hi he t j q).mpr z), z.1, z.2.1, z.2.2]
      rfl
    · rw [if_neg z, if_neg (fun w => z ((wR_c hi he t j q).mp w))]
theorem ME_k (hi : 1 ≤ i ∧ i ≤ 9) {e : Nat} (he : e < 6) : sR (sI (sI (ME (2 * (sbC i + 40 + e))) 6 (6 * (i - 1) + e + 1) 0 (stv 1 e)) 6 (6 * (i - 1) + e + 1) 1 (stv 2 e)) 10 i e (6 * (i - 1) + e + 1) = ME (2 * (sbC i + 41 + e)) := by
  refine ME_step (N := 2 * (sbC i + 40 + e)) (by omega) (fun t j q => ?_) (fun t j q => ?_)
  · show (if t = 6 ∧ j = 6 * (i - 1) + e + 1 ∧ q = 1 then stv 2 e else if t = 6 ∧ j = 6 * (i - 1) + e + 1 ∧ q = 0 then stv 1 e else (ME (2 * (sbC i + 40 + e))).1 t j q) = _
    by_cases z : t = 6 ∧ j = 6 * (i - 1) + e + 1 ∧ q < 2
    · rw [if_pos ((wI_k hi he t j q).mpr z)]
      have e2 : (j - 1) % 6 = e := by omega
      unfold iI
      rw [if_neg (show ¬ t = 2 by omega), if_neg (show ¬ t = 5 by omega), e2]
      by_cases q0 : q = 0
      · rw [if_neg (show ¬ (t = 6 ∧ j = 6 * (i - 1) + e + 1 ∧ q = 1) by omega), if_pos (show t = 6 ∧ j = 6 * (i - 1) + e + 1 ∧ q = 0 from ⟨z.1, z.2.1, q0⟩), if_pos q0]
      · rw [if_pos (show t = 6 ∧ j = 6 * (i - 1) + e + 1 ∧ q = 1 from ⟨z.1, z.2.1, by omega⟩), if_neg q0]
    · rw [if_neg (fun w => z ((wI_k hi he t j q).mp w)), if_neg (fun w => z ⟨w.1, w.2.1, by omega⟩), if_neg (fun w => z ⟨w.1, w.2.1, by omega⟩)]
  · show (if t = 10 ∧ j = i ∧ q = e then 6 * (i - 1) + e + 1 else (ME (2 * (sbC i + 40 + e))).2 t j q) = _
    by_cases z : t = 10 ∧ j = i ∧ q = e
    · rw [if_pos z, if_pos ((wR_k hi he t j q).mpr z), z.1, z.2.1, z.2.2]
      rfl
    · rw [if_neg z, if_neg (fun w => z ((wR_k hi he t j q).mp w))]
end SEM41
