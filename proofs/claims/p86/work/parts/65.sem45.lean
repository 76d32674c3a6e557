section SEM45
variable {Q : Mm → Prop}
theorem c_X9i (hq : Q (ME 847)) : w_X9_init 1 1 (ME 0) Q := by
  have g0 : ∀ {N : Nat}, 0 < N → GN GC offC N 0 1 := fun h => gnI (by decide) (ok1 (t := 0) (by decide)) h
  have z1 : ∀ f, 0 < cI 1 1 f ∧ 0 < cR 1 1 f := fun f => by
    have h1 := cI_inv 1 1 f
    have h2 := cR_inv 1 1 f
    have hb := sb_j 1
    generalize cI 1 1 f = v at *
    generalize cR 1 1 f = u at *
    omega
  have z12 : ∀ f, 95 < cI 12 1 f ∧ 95 < cR 12 1 f := fun f => by
    have h1 := cI_inv 12 1 f
    have h2 := cR_inv 12 1 f
    have hb := sb_j 1
    generalize cI 12 1 f = v at *
    generalize cR 12 1 f = u at *
    omega
  have z16 : ∀ f, 840 < cI 16 1 f ∧ 840 < cR 16 1 f := fun f => by
    have h1 := cI_inv 16 1 f
    have h2 := cR_inv 16 1 f
    have hb := sb_j 1
    generalize cI 16 1 f = v at *
    generalize cR 16 1 f = u at *
    omega
  have z17 : ∀ f, 842 < cI 17 1 f ∧ 842 < cR 17 1 f := fun f => by
    have h1 := cI_inv 17 1 f
    have h2 := cR_inv 17 1 f
    have hb := sb_j 1
    generalize cI 17 1 f = v at *
    generalize cR 17 1 f = u at *
    omega
  have z18 : ∀ f, 842 < cI 18 1 f ∧ 842 < cR 18 1 f := fun f => by
    have h1 := cI_inv 18 1 f
    have h2 := cR_inv 18 1 f
    have hb := sb_j 1
    generalize cI 18 1 f = v at *
    generalize cR 18 1 f = u at *
    omega
  have z19 : ∀ f, 844 < cI 19 1 f ∧ 844 < cR 19 1 f := fun f => by
    have h1 := cI_inv 19 1 f
    have h2 := cR_inv 19 1 f
    have hb := sb_j 1
    generalize cI 19 1 f = v at *
    generalize cR 19 1 f = u at *
    omega
  have s9 : sR (ME 94) 0 1 0 1 = ME 95 := ME_cons (cell := (0, 1, 0)) (by decide) (fun t j q => by
    have h2 := cR_inv t j q
    have hb := sb_j j
    constructor
    · intro h
      generalize cR t j q = u at *
      show t = 0 ∧ j = 1 ∧ q = 0
      omega
    · rintro ⟨rfl, rfl, rfl⟩
      exact ⟨by decide, by decide⟩) (fun t j q => ⟨fun h => noI (fun k' hk' b hb => ⟨by omega, fun e he => by omega⟩) (by decide) t j q h, fun h => h.elim⟩) rfl
  have s18 : sR (ME 839) 0 1 1 1 = ME 840 := ME_cons (cell := (0, 1, 1)) (by decide) (fun t j q => by
    have h2 := cR_inv t j q
    have hb := sb_j j
    constructor
    · intro h
      generalize cR t j q = u at *
      show t = 0 ∧ j = 1 ∧ q = 1
      omega
    · rintro ⟨rfl, rfl, rfl⟩
      exact ⟨by decide, by decide⟩) (fun t j q => ⟨fun h => noI (fun k' hk' b hb => ⟨by omega, fun e he => by omega⟩) (by decide) t j q h, fun h => h.elim⟩) rfl
  have s31 : sR (ME 841) 0 1 2 1 = ME 842 := ME_cons (cell := (0, 1, 2)) (by decide) (fun t j q => by
    have h2 := cR_inv t j q
    have hb := sb_j j
    constructor
    · intro h
      generalize cR t j q = u at *
      show t = 0 ∧ j = 1 ∧ q = 2
      omega
    · rintro ⟨rfl, rfl, rfl⟩
      exact ⟨by decide, by decide⟩) (fun t j q => ⟨fun h => noI (fun k' hk' b hb => ⟨by omega, fun e he => by omega⟩) (by decide) t j q h, fun h => h.elim⟩) rfl
  have s7 : sR (ME 842) 17 1 0 1 = ME 844 := ME_cons (cell := (17, 1, 0)) (by decide) (fun t j q => by
    have h2 := cR_inv t j q
    have hb := sb_j j
    constructor
    · intro h
      generalize cR t j q = u at *
      show t = 17 ∧ j = 1 ∧ q = 0
      omega
    · rintro ⟨rfl, rfl, rfl⟩
      exact ⟨by decide, by decide⟩) (fun t j q => ⟨fun h => noI (fun k' hk' b hb => ⟨by omega, fun e he => by omega⟩) (by decide) t j q h, fun h => h.elim⟩) rfl
  have s14 : sR (ME 844) 17 1 5 1 = ME 846 := ME_cons (cell := (17, 1, 5)) (by decide) (fun t j q => by
    have h2 := cR_inv t j q
    have hb := sb_j j
    constructor
    · intro h
      generalize cR t j q = u at *
      show t = 17 ∧ j = 1 ∧ q = 5
      omega
    · rintro ⟨rfl, rfl, rfl⟩
      exact ⟨by decide, by decide⟩) (fun t j q => ⟨fun h => noI (fun k' hk' b hb => ⟨by omega, fun e he => by omega⟩) (by decide) t j q h, fun h => h.elim⟩) rfl
  have s40 : sR (ME 846) 0 1 3 1 = ME 847 := ME_cons (cell := (0, 1, 3)) (by decide) (fun t j q => by
    have h2 := cR_inv t j q
    have hb := sb_j j
    constructor
    · intro h
      generalize cR t j q = u at *
      show t = 0 ∧ j = 1 ∧ q = 3
      omega
    · rintro ⟨rfl, rfl, rfl⟩
      exact ⟨by decide, by decide⟩) (fun t j q => ⟨fun h => noI (fun k' hk' b hb => ⟨by omega, fun e he => by omega⟩) (by decide) t j q h, fun h => h.elim⟩) rfl
  have s16 : sR (sR (ME 840) 16 1 0 1) 16 1 1 1 = ME 841 := by
    refine ME_step (N := 840) (by decide) (fun t j q => ?_) (fun t j q => ?_)
    · rw [if_neg (noI (fun k' hk' b hb => ⟨by omega, fun e he => by omega⟩) (by decide) t j q)]
      rfl
    · show (if t = 16 ∧ j = 1 ∧ q = 1 then 1 else if t = 16 ∧ j = 1 ∧ q = 0 then 1 else (ME 840).2 t j q) = _
      by_cases z : t = 16 ∧ j = 1 ∧ q < 2
      · have hc : cR t j q = 841 := by
          rw [z.1, z.2.1]
          unfold cR
          simp [z.2.2]
        rw [hc, if_pos (show 840 < 841 ∧ 841 ≤ 841 by decide)]
        have e : iR t j q = 1 := by rw [z.1]; rfl
        rw [e]
        by_cases q0 : q = 0
        · rw [if_neg (fun w => by omega), if_pos ⟨z.1, z.2.1, q0⟩]
        · rw [if_pos ⟨z.1, z.2.1, by omega⟩]
      · have hn : ¬ (840 < cR t j q ∧ cR t j q ≤ 841) := fun h => by
          have h4 := cR_inv t j q
          have hb := sb_j j
          generalize cR t j q = u at *
          omega
        rw [if_neg hn, if_neg (fun w => z ⟨w.1, w.2.1, by omega⟩), if_neg (fun w => z ⟨w.1, w.2.1, by omega⟩)]
  unfold w_X9_init
  refine ⟨1, ⟨⟨by decide, show 1 ≤ 1 ∧ 1 ≤ 9 by decide⟩, rfl, ME_new z1⟩, by decide, by decide, ?_⟩
  rw [show ME 0 = ME (2 * (sbC 1 + 1)) from ME_same (lo := 0) (hi := 4) (by decide) (fun t j q h => by
    have h4 := cR_inv t j q
    have hb := sb_j j
    generalize cR t j q = u at *
    omega) (noI (fun k' hk' b hb => ⟨by omega, fun e he => by omega⟩) (by decide))]
  refine c_X8i (i := 1) (by decide) ⟨g0 (by decide), ?_⟩
  intro m9 e9
  rw [e9]
  show ∃ k_10 : Nat, _
  have s9' : sR (ME (2 * (sbC 1 + 46))) 0 1 0 1 = ME 95 := s9
  rw [s9']
  refine ⟨1, ⟨⟨by decide, ok1 (t := 12) (by decide)⟩, rfl, ME_new z12⟩, by decide, by decide, ?_⟩
  rw [show ME 95 = ME 96 from ME_same (lo := 95) (hi := 96) (by decide) (fun t j q h => by
    have h4 := cR_inv t j q
    have hb := sb_j j
    generalize cR t j q = u at *
    omega) (noI (fun k' hk' b hb => ⟨by omega, fun e he => by omega⟩) (by decide))]
  refine c_X3i ⟨g0 (by decide), ?_⟩
  intro m18 e18
  rw [e18, s18]
  have r1 : ∀ {τ : Nat}, 840 ≤ τ → (ME τ).2 0 1 1 = 1 := fun h => ME_r (by
    have : cR 0 1 1 = 840 := by decide
    omega)
  have r0 : ∀ {τ : Nat}, 840 ≤ τ → (ME τ).2 0 1 0 = 1 := fun h => ME_r (by
    have : cR 0 1 0 = 95 := by decide
    omega)
  refine ⟨1, ⟨⟨by decide, ok1 (t := 16) (by decide)⟩, rfl, ME_new z16⟩, by decide, g0 (by decide), g0 (by decide), ?_, ?_, by decide, ?_⟩
  · rw [r1 (by decide)]; exact gnI (by decide) (ok1 (t := 12) (by decide)) (by decide)
  · rw [r0 (by decide)]; exact gnI (by decide) (show 1 ≤ 1 ∧ 1 ≤ 9 by decide) (by decide)
  unfold w_X1_init
  rw [r0 (by decide), r1 (by decide)]
  refine ⟨gnI (by decide) (ok1 (t := 16) (by decide)) (by decide), ?_⟩
  intro m2 e2
  refine ⟨gnI (by decide) (ok1 (t := 16) (by decide)) (by decide), ?_⟩
  intro m4 e4
  rw [e4, e2, s16]
  refine ⟨g0 (by decide), ?_⟩
  intro m31 e31
  rw [e31, s31]
  refine ⟨1, ⟨⟨by decide, ok1 (t := 17) (by decide)⟩, rfl, ME_new z17⟩, by decide, by decide, ?_⟩
  unfold w_X4_init
  refine ⟨1, ⟨⟨by decide, ok1 (t := 18) (by decide)⟩, rfl, ME_new z18⟩, by decide, gnI (by decide) (ok1 (t := 17) (by decide)) (by decide), ?_⟩
  intro m7 e7
  rw [e7, s7]
  refine ⟨1, ⟨⟨by decide, ok1 (t := 19) (by decide)⟩, rfl, ME_new z19⟩, by decide, gnI (by decide) (ok1 (t := 17) (by decide)) (by decide), ?_⟩
  intro m14 e14
  rw [e14, s14]
  refine ⟨g0 (by decide), ?_⟩
  intro m40 e40
  rw [e40, s40]
  exact hq
end SEM45
