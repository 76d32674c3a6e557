section SEM44
variable {i : Nat} {Q : Mm → Prop}
theorem c_X3i (hq : Q (ME 839)) : w_X3_init 48 1 (ME 96) Q := by
  have g12 : ∀ {N : Nat}, 47 < N → GN GC offC N 12 1 := fun h => gnI (by decide) (ok1 (t := 12) (by decide)) h
  have z13 : ∀ f, 96 < cI 13 1 f ∧ 96 < cR 13 1 f := fun f => by
    have h1 := cI_inv 13 1 f
    have h2 := cR_inv 13 1 f
    generalize cI 13 1 f = v at *
    generalize cR 13 1 f = u at *
    omega
  have z14 : ∀ f, 98 < cI 14 1 f ∧ 98 < cR 14 1 f := fun f => by
    have h1 := cI_inv 14 1 f
    have h2 := cR_inv 14 1 f
    generalize cI 14 1 f = v at *
    generalize cR 14 1 f = u at *
    omega
  have z15 : ∀ f, 100 < cI 15 1 f ∧ 100 < cR 15 1 f := fun f => by
    have h1 := cI_inv 15 1 f
    have h2 := cR_inv 15 1 f
    generalize cI 15 1 f = v at *
    generalize cR 15 1 f = u at *
    omega
  have s7 : sR (ME 96) 12 1 0 1 = ME 98 := ME_cons (cell := (12, 1, 0)) (by decide) (fun t j q => by
    have h2 := cR_inv t j q
    have hb := sb_j j
    constructor
    · intro h
      generalize cR t j q = u at *
      show t = 12 ∧ j = 1 ∧ q = 0
      omega
    · rintro ⟨rfl, rfl, rfl⟩
      exact ⟨by decide, by decide⟩) (fun t j q => ⟨fun h => noI (fun k' hk' b hb => ⟨by omega, fun e he => by omega⟩) (by decide) t j q h, fun h => h.elim⟩) rfl
  have s14 : sR (ME 98) 12 1 3 1 = ME 100 := ME_cons (cell := (12, 1, 3)) (by decide) (fun t j q => by
    have h2 := cR_inv t j q
    have hb := sb_j j
    constructor
    · intro h
      generalize cR t j q = u at *
      show t = 12 ∧ j = 1 ∧ q = 3
      omega
    · rintro ⟨rfl, rfl, rfl⟩
      exact ⟨by decide, by decide⟩) (fun t j q => ⟨fun h => noI (fun k' hk' b hb => ⟨by omega, fun e he => by omega⟩) (by decide) t j q h, fun h => h.elim⟩) rfl
  have s21 : sR (ME 100) 12 1 4 1 = ME 103 := ME_cons (cell := (12, 1, 4)) (by decide) (fun t j q => by
    have h2 := cR_inv t j q
    have hb := sb_j j
    constructor
    · intro h
      generalize cR t j q = u at *
      show t = 12 ∧ j = 1 ∧ q = 4
      omega
    · rintro ⟨rfl, rfl, rfl⟩
      exact ⟨by decide, by decide⟩) (fun t j q => ⟨fun h => noI (fun k' hk' b hb => ⟨by omega, fun e he => by omega⟩) (by decide) t j q h, fun h => h.elim⟩) rfl
  unfold w_X3_init
  refine ⟨1, ⟨⟨by decide, ok1 (t := 13) (by decide)⟩, rfl, ME_new z13⟩, by decide, g12 (by decide), ?_⟩
  intro m7 e7
  rw [e7, s7]
  refine ⟨1, ⟨⟨by decide, ok1 (t := 14) (by decide)⟩, rfl, ME_new z14⟩, by decide, g12 (by decide), ?_⟩
  intro m14 e14
  rw [e14, s14]
  refine ⟨1, ⟨⟨by decide, ok1 (t := 15) (by decide)⟩, rfl, ME_new z15⟩, by decide, g12 (by decide), ?_⟩
  intro m21 e21
  rw [e21, s21]
  -- a state of a ring, from the size before it to the size after
  have zst : ∀ k, 2 ≤ k → k ≤ 9 → ∀ f, 2 * sbC k + 1 < cI 1 k f ∧ 2 * sbC k + 1 < cR 1 k f := fun k h1 h2 f => by
    have h3 := cI_inv 1 k f
    have h4 := cR_inv 1 k f
    have hb := sb_j k
    generalize cI 1 k f = v at *
    generalize cR 1 k f = u at *
    omega
  have hsame : ∀ k, 2 ≤ k → k ≤ 9 → ME (2 * sbC k + 1) = ME (2 * (sbC k + 1)) := fun k h1 h2 => by
    have hbk := sb_j k
    refine ME_same (by omega) (fun t j q h => ?_) (noI (fun k' hk' b hb => ⟨by omega, fun e he => by omega⟩) (by omega))
    have h4 := cR_inv t j q
    have hb := sb_j j
    generalize cR t j q = u at *
    omega
  have hset : ∀ (t0 : Nat) (k y : Nat), ((t0 = 13 ∧ y < 6 ∧ k = y + 2) ∨ (t0 = 14 ∧ y < 2 ∧ k = y + 8)) → sR (ME (2 * (sbC k + 46))) t0 1 y k = ME (2 * (sbC k + 46) + 1) := fun t0 k y hy => by
    have hbk := sb_j k
    refine ME_cons (cell := (t0, 1, y)) (by omega) (fun t j q => ?_) (fun t j q => ⟨fun h => noI (fun k' hk' b hb => ⟨by omega, fun e he => by omega⟩) (by omega) t j q h, fun h => h.elim⟩) ?_
    · constructor
      · intro h
        have h2 := cR_inv t j q
        have hb := sb_j j
        generalize cR t j q = u at *
        show t = t0 ∧ j = 1 ∧ q = y
        omega
      · rintro ⟨h1, h2, h3⟩
        have h1 : t = t0 := h1
        have h2 : j = 1 := h2
        have h3 : q = y := h3
        subst h2
        rcases hy with ⟨rfl, hy, rfl⟩ | ⟨rfl, hy, rfl⟩
        · subst h1
          subst h3
          have : cR 13 1 q = 195 + 92 * q := by
            unfold cR
            simp [hy]
          omega
        · subst h1
          subst h3
          have : cR 14 1 q = 747 + 92 * q := by
            unfold cR
            simp [hy]
          omega
    · rcases hy with ⟨rfl, hy, rfl⟩ | ⟨rfl, hy, rfl⟩ <;> rfl
  refine itr_run _ (fun j (_ : Unit) => (nI j, ME (103 + 92 * j), 3 + 46 * j)) 6 (fun _ u => u) () (fun K j hj hk => ?_) (fun K => ?_)
  · have ht : (nI j).toNatClampNeg = j := rs_tn (by omega)
    have hle : ¬ (6 : Int32) ≤ nI j := fun z => by have := (le_nI (a := 6) (b := j) (by decide) (by omega)).mp z; omega
    have hsb : sbC (j + 2) = 51 + 46 * j := by
      rcases sb_eq (j := j + 2) (by omega) with h | h
      · omega
      · rw [h.2]; omega
    have e1 : 103 + 92 * j = 2 * sbC (j + 2) + 1 := by rw [hsb]; omega
    have r0 : ∀ {τ : Nat}, 98 ≤ τ → (ME τ).2 12 1 0 = 1 := fun h => ME_r (by
      have : cR 12 1 0 = 98 := by decide
      omega)
    show w_X3_init_B30 48 1 Q _ (nI j) (ME (103 + 92 * j)) (3 + 46 * j)
    unfold w_X3_init_B30
    refine ⟨fun z => absurd z hle, fun _ => ⟨g12 (by omega), j + 2, ⟨⟨by decide, show 1 ≤ _ ∧ _ ≤ 9 by omega⟩, show sbC (j + 2) = _ by rw [hsb]; omega, by rw [e1]; exact ME_new (zst (j + 2) (by omega) (by omega))⟩, by omega, by omega, ?_⟩⟩
    rw [e1, hsame (j + 2) (by omega) (by omega), show 48 + (3 + 46 * j + 1) = sbC (j + 2) + 1 by rw [hsb]; omega]
    refine c_X8i ⟨by omega, by omega⟩ ⟨gnI (by decide) (show 1 ≤ _ ∧ _ ≤ 9 by omega) (show sbC (j + 2) < _ by rw [hsb]; omega), ?_, vp_in_nI hj (by decide), ?_⟩
    · rw [r0 (by rw [hsb]; omega)]
      exact gnI (by decide) (ok1 (t := 13) (by decide)) (show 48 < _ by omega)
    · intro m e x ex
      rw [e, ex, r0 (by rw [hsb]; omega), ht, hset 13 (j + 2) j (Or.inl ⟨rfl, hj, rfl⟩), nI_1, hsb]
      have a1 : 2 * (51 + 46 * j + 46) + 1 = 103 + 92 * (j + 1) := by omega
      have a2 : 3 + 46 * j + 1 + 45 = 3 + 46 * (j + 1) := by omega
      rw [a1, a2]
      exact hk
  · show w_X3_init_B30 48 1 Q _ (nI 6) (ME (103 + 92 * 6)) (3 + 46 * 6)
    unfold w_X3_init_B30
    refine ⟨fun _ => ?_, fun z => absurd (by decide) z⟩
    refine itr_run _ (fun j (_ : Unit) => (nI j, ME (655 + 92 * j), 279 + 46 * j)) 2 (fun _ u => u) () (fun K j hj hk => ?_) (fun K => ?_)
    · have ht : (nI j).toNatClampNeg = j := rs_tn (by omega)
      have hle : ¬ (2 : Int32) ≤ nI j := fun z => by have := (le_nI (a := 2) (b := j) (by decide) (by omega)).mp z; omega
      have hsb : sbC (j + 8) = 327 + 46 * j := by
        rcases sb_eq (j := j + 8) (by omega) with h | h
        · omega
        · rw [h.2]; omega
      have e1 : 655 + 92 * j = 2 * sbC (j + 8) + 1 := by rw [hsb]; omega
      have r3 : ∀ {τ : Nat}, 100 ≤ τ → (ME τ).2 12 1 3 = 1 := fun h => ME_r (by
        have : cR 12 1 3 = 100 := by decide
        omega)
      show w_X3_init_B57 48 1 Q _ (nI j) (ME (655 + 92 * j)) (279 + 46 * j)
      unfold w_X3_init_B57
      refine ⟨fun z => absurd z hle, fun _ => ⟨g12 (by omega), j + 8, ⟨⟨by decide, show 1 ≤ _ ∧ _ ≤ 9 by omega⟩, show sbC (j + 8) = _ by rw [hsb]; omega, by rw [e1]; exact ME_new (zst (j + 8) (by omega) (by omega))⟩, by omega, by omega, ?_⟩⟩
      rw [e1, hsame (j + 8) (by omega) (by omega), show 48 + (279 + 46 * j + 1) = sbC (j + 8) + 1 by rw [hsb]; omega]
      refine c_X8i ⟨by omega, by omega⟩ ⟨gnI (by decide) (show 1 ≤ _ ∧ _ ≤ 9 by omega) (show sbC (j + 8) < _ by rw [hsb]; omega), ?_, vp_in_nI hj (by decide), ?_⟩
      · rw [r3 (by rw [hsb]; omega)]
        exact gnI (by decide) (ok1 (t := 14) (by decide)) (show 49 < _ by omega)
      · intro m e x ex
        rw [e, ex, r3 (by rw [hsb]; omega), ht, hset 14 (j + 8) j (Or.inr ⟨rfl, hj, rfl⟩), nI_1, hsb]
        have a1 : 2 * (327 + 46 * j + 46) + 1 = 655 + 92 * (j + 1) := by omega
        have a2 : 279 + 46 * j + 1 + 45 = 279 + 46 * (j + 1) := by omega
        rw [a1, a2]
        exact hk
    · show w_X3_init_B57 48 1 Q _ (nI 2) (ME (655 + 92 * 2)) (279 + 46 * 2)
      unfold w_X3_init_B57
      exact ⟨fun _ => ⟨rfl, hq⟩, fun z => absurd (by decide) z⟩
end SEM44
