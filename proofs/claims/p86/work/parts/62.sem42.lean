section SEM42
variable {i : Nat} {Q : Mm → Prop}
theorem c_X8i (hi : 1 ≤ i ∧ i ≤ 9) (hq : Q (ME (2 * (sbC i + 46)))) : w_X8_init (sbC i + 1) i (ME (2 * (sbC i + 1))) Q := by
  have hb := sb_eq hi.1
  have g1 : ∀ {N : Nat}, sbC i < N → GN GC offC N 1 i := fun h => gnI (by decide) (ok_st hi rfl) h
  unfold w_X8_init
  refine ⟨i, ⟨⟨by decide, ok_st hi rfl⟩, rfl, ME_new (new_2 hi)⟩, by decide, by decide, ?_⟩
  unfold w_X6_init
  refine ⟨gnI (by decide) (ok_st hi rfl) (show sbC i + 1 < _ by omega), ?_⟩
  intro m2 e2
  refine ⟨g1 (by omega), ?_⟩
  intro m9 e9
  have k9 : m9 = ME (2 * (sbC i + 2)) := by rw [e9, e2]; exact ME_m hi
  rw [k9]
  refine ⟨i, ⟨⟨by decide, ok_st hi rfl⟩, show sbC i + 2 = _ by omega, ME_new (new_7 hi)⟩, by decide, g1 (by omega), ?_⟩
  intro m16 e16
  have k16 : m16 = ME (2 * (sbC i + 3)) := by rw [e16]; exact ME_s hi (e := 6) (by omega)
  rw [k16]
  refine ⟨i, ⟨⟨by decide, ok_st hi rfl⟩, show sbC i + 3 = _ by omega, ME_new (new_8 hi)⟩, by decide, g1 (by omega), ?_⟩
  intro m23 e23
  have k23 : m23 = ME (2 * (sbC i + 4)) := by rw [e23]; exact ME_s hi (e := 7) (by omega)
  rw [k23]
  refine ⟨i, ⟨⟨by decide, ok_st hi rfl⟩, show sbC i + 4 = _ by omega, ME_new (new_9 hi)⟩, by decide, g1 (by omega), ?_⟩
  intro m30 e30
  have k30 : m30 = ME (2 * (sbC i + 5)) := by rw [e30]; exact ME_s hi (e := 8) (by omega)
  rw [k30]
  refine ⟨i, ⟨⟨by decide, ok_st hi rfl⟩, show sbC i + 5 = _ by omega, ME_new (new_10 hi)⟩, by decide, g1 (by omega), ?_⟩
  intro m37 e37
  have k37 : m37 = ME (2 * (sbC i + 6)) := by rw [e37]; exact ME_s hi (e := 9) (by omega)
  rw [k37]
  refine ⟨i, ⟨⟨by decide, ok_st hi rfl⟩, show sbC i + 6 = _ by omega, ME_new (new_11 hi)⟩, by decide, g1 (by omega), ?_⟩
  intro m44 e44
  have k44 : m44 = ME (2 * (sbC i + 7)) := by rw [e44]; exact ME_s hi (e := 10) (by omega)
  rw [k44]
  refine itr_run _ (fun j (_ : Unit) => (nI j, ME (2 * (sbC i + 7 + j)), 6 + j)) 16 (fun _ u => u) () (fun K j hj hk => ?_) (fun K => ?_)
  · have ht : (nI j).toNatClampNeg = j := rs_tn (by omega)
    have hle : ¬ (16 : Int32) ≤ nI j := fun z => by have := (le_nI (a := 16) (b := j) (by decide) (by omega)).mp z; omega
    have r6 : (ME (2 * (sbC i + 7 + j))).2 1 i 6 = i := st_ref hi (by omega) (by omega)
    show w_X8_init_B60 _ i Q _ (nI j) (ME (2 * (sbC i + 7 + j))) (6 + j)
    unfold w_X8_init_B60 w_X2_init
    refine ⟨fun z => absurd z hle, fun _ => ⟨g1 (by omega), 16 * (i - 1) + j + 1, ⟨⟨by decide, show 1 ≤ _ ∧ _ ≤ 144 by omega⟩, by rw [off_3 hi hj]; omega, ME_new (new_3 hi hj)⟩, by omega, by omega, gnI (by decide) (show 1 ≤ _ ∧ _ ≤ 144 by omega) (by rw [off_3 hi hj]; omega), ?_, vp_in_nI hj (by decide), ?_⟩⟩
    · rw [r6]
      exact gnI (by decide) (ok_st hi rfl) (show sbC i + 2 < _ by omega)
    · intro m e x ex
      rw [e, ex, r6, ht, ME_e hi hj, nI_1]
      have a1 : 2 * (sbC i + 8 + j) = 2 * (sbC i + 7 + (j + 1)) := by omega
      have a2 : 6 + j + 1 = 6 + (j + 1) := by omega
      rw [a1, a2]
      exact hk
  · show w_X8_init_B60 _ i Q _ (nI 16) (ME (2 * (sbC i + 7 + 16))) (6 + 16)
    unfold w_X8_init_B60
    refine ⟨fun _ => ?_, fun z => absurd (by decide) z⟩
    refine itr_run _ (fun j (_ : Unit) => (nI j, ME (2 * (sbC i + 23 + j)), 22 + j)) 12 (fun _ u => u) () (fun K j hj hk => ?_) (fun K => ?_)
    · have ht : (nI j).toNatClampNeg = j := rs_tn (by omega)
      have hle : ¬ (12 : Int32) ≤ nI j := fun z => by have := (le_nI (a := 12) (b := j) (by decide) (by omega)).mp z; omega
      have r7 : (ME (2 * (sbC i + 23 + j))).2 1 i 7 = i := st_ref hi (by omega) (by omega)
      show w_X8_init_B87 _ i Q _ (nI j) (ME (2 * (sbC i + 23 + j))) (22 + j)
      unfold w_X8_init_B87 w_X7_init
      refine ⟨fun z => absurd z hle, fun _ => ⟨g1 (by omega), 12 * (i - 1) + j + 1, ⟨⟨by decide, show 1 ≤ _ ∧ _ ≤ 108 by omega⟩, by rw [off_4 hi hj]; omega, ME_new (new_4 hi hj)⟩, by omega, by omega, gnI (by decide) (show 1 ≤ _ ∧ _ ≤ 108 by omega) (by rw [off_4 hi hj]; omega), ?_, vp_in_nI hj (by decide), ?_⟩⟩
      · rw [r7]
        exact gnI (by decide) (ok_st hi rfl) (show sbC i + 3 < _ by omega)
      · intro m e x ex
        rw [e, ex, r7, ht, ME_rr hi hj, nI_1]
        have a1 : 2 * (sbC i + 24 + j) = 2 * (sbC i + 23 + (j + 1)) := by omega
        have a2 : 22 + j + 1 = 22 + (j + 1) := by omega
        rw [a1, a2]
        exact hk
    · show w_X8_init_B87 _ i Q _ (nI 12) (ME (2 * (sbC i + 23 + 12))) (22 + 12)
      unfold w_X8_init_B87
      refine ⟨fun _ => ?_, fun z => absurd (by decide) z⟩
      refine itr_run _ (fun j (_ : Unit) => (nI j, ME (2 * (sbC i + 35 + j)), 34 + j)) 5 (fun _ u => u) () (fun K j hj hk => ?_) (fun K => ?_)
      · have ht : (nI j).toNatClampNeg = j := rs_tn (by omega)
        have hle : ¬ (5 : Int32) ≤ nI j := fun z => by have := (le_nI (a := 5) (b := j) (by decide) (by omega)).mp z; omega
        have r8 : (ME (2 * (sbC i + 35 + j))).2 1 i 8 = i := st_ref hi (by omega) (by omega)
        show w_X8_init_B114 _ i Q _ (nI j) (ME (2 * (sbC i + 35 + j))) (34 + j)
        unfold w_X8_init_B114 w_X0_init
        refine ⟨fun z => absurd z hle, fun _ => ⟨g1 (by omega), 5 * (i - 1) + j + 1, ⟨⟨by decide, show 1 ≤ _ ∧ _ ≤ 45 by omega⟩, by rw [off_5 hi hj]; omega, ME_new (new_5 hi hj)⟩, by omega, by omega, gnI (by decide) (show 1 ≤ _ ∧ _ ≤ 45 by omega) (by rw [off_5 hi hj]; omega), ?_⟩⟩
        intro m2 e2
        refine ⟨gnI (by decide) (show 1 ≤ _ ∧ _ ≤ 45 by omega) (by rw [off_5 hi hj]; omega), ?_, vp_in_nI hj (by decide), ?_⟩
        · rw [r8]
          exact gnI (by decide) (ok_st hi rfl) (show sbC i + 4 < _ by omega)
        · intro m e x ex
          rw [e, ex, r8, ht, e2, ME_c hi hj, nI_1]
          have a1 : 2 * (sbC i + 36 + j) = 2 * (sbC i + 35 + (j + 1)) := by omega
          have a2 : 34 + j + 1 = 34 + (j + 1) := by omega
          rw [a1, a2]
          exact hk
      · show w_X8_init_B114 _ i Q _ (nI 5) (ME (2 * (sbC i + 35 + 5))) (34 + 5)
        unfold w_X8_init_B114
        refine ⟨fun _ => ?_, fun z => absurd (by decide) z⟩
        refine itr_run _ (fun j (_ : Unit) => (nI j, ME (2 * (sbC i + 40 + j)), 39 + j)) 6 (fun _ u => u) () (fun K j hj hk => ?_) (fun K => ?_)
        · have ht : (nI j).toNatClampNeg = j := rs_tn (by omega)
          have hle : ¬ (6 : Int32) ≤ nI j := fun z => by have := (le_nI (a := 6) (b := j) (by decide) (by omega)).mp z; omega
          have r9 : (ME (2 * (sbC i + 40 + j))).2 1 i 9 = i := st_ref hi (by omega) (by omega)
          show w_X8_init_B140 _ i Q _ (nI j) (ME (2 * (sbC i + 40 + j))) (39 + j)
          unfold w_X8_init_B140 w_X5_init
          have g6 : ∀ {N : Nat}, sbC i + 40 + j < N → GN GC offC N 6 (6 * (i - 1) + j + 1) := fun h => gnI (by decide) (show 1 ≤ _ ∧ _ ≤ 54 by omega) (by rw [off_6 hi hj]; exact h)
          refine ⟨fun z => absurd z hle, fun _ => ⟨g1 (by omega), 6 * (i - 1) + j + 1, ⟨⟨by decide, show 1 ≤ _ ∧ _ ≤ 54 by omega⟩, by rw [off_6 hi hj]; omega, ME_new (new_6 hi hj)⟩, by omega, vp_in_nI hj (by decide), vp_in_nI hj (by decide), by omega, g6 (by omega), ?_⟩⟩
          intro m2 e2
          refine ⟨g6 (by omega), ?_⟩
          intro m4 e4
          refine ⟨g6 (by omega), ?_, vp_in_nI hj (by decide), ?_⟩
          · rw [r9]
            exact gnI (by decide) (ok_st hi rfl) (show sbC i + 5 < _ by omega)
          · intro m e x ex
            rw [e, ex, r9, e4, e2, ht, ME_k hi hj, nI_1]
            have a1 : 2 * (sbC i + 41 + j) = 2 * (sbC i + 40 + (j + 1)) := by omega
            have a2 : 39 + j + 1 = 39 + (j + 1) := by omega
            rw [a1, a2]
            exact hk
        · show w_X8_init_B140 _ i Q _ (nI 6) (ME (2 * (sbC i + 40 + 6))) (39 + 6)
          unfold w_X8_init_B140
          refine ⟨fun _ => ⟨rfl, hq⟩, fun z => absurd (by decide) z⟩
end SEM42
