section SEM47
theorem rng0 {x : Int32} (h : x = 0) {b : Nat} (hb : b < 2147483648) : rng x b := by
  rw [h]
  exact rng_of (n := 0) (Nat.zero_le _) hb
theorem ME_RSp {i : Nat} (h1 : 1 ≤ i) (h9 : i ≤ 9) : RSp (ME 847) i := by
  have hb := sb_eq h1
  have e7 : ∀ j, j < 16 → (ME 847).2 7 i j = 16 * (i - 1) + j + 1 := fun j hj => by
    rw [ME_r]
    · rfl
    · have := cR_inv 7 i j
      have hc : cR 7 i j = 2 * (sbC i + 8 + j) := by
        unfold cR
        rw [if_neg (by decide), if_pos rfl, if_pos ⟨h1, h9, hj⟩]
      omega
  have e8 : ∀ j, j < 12 → (ME 847).2 8 i j = 12 * (i - 1) + j + 1 := fun j hj => by
    rw [ME_r]
    · rfl
    · have hc : cR 8 i j = 2 * (sbC i + 24 + j) := by
        unfold cR
        rw [if_neg (by decide), if_neg (by decide), if_pos rfl, if_pos ⟨h1, h9, hj⟩]
      omega
  refine ⟨fun j hj => ?_, fun j k hj hk h => ?_, fun j hj => ?_, fun j k hj hk h => ?_⟩
  · rw [e7 j hj]; omega
  · rw [e7 j hj, e7 k hk] at h; omega
  · rw [e8 j hj]; omega
  · rw [e8 j hj, e8 k hk] at h; omega
theorem fS_mo : mo fS = 0 := by unfold mo; decide
theorem fS_mr : mr fS = 0 := by unfold mr; decide
theorem fS_Inv : Inv 99999 0 fS := by
  refine ⟨rng0 (by decide) (by decide), rng0 (by decide) (by decide), rng0 (by decide) (by decide), rng0 (by decide) (by decide), rng0 (by decide) (by decide), ?_, rng0 (by decide) (by decide), rng0 (by decide) (by decide), fun c hc => ?_, fun k hk => ?_, fun e he => ?_, fun r hr => ?_, ?_, by decide⟩
  · have : fS 5 = nI 5000 := by decide
    rw [this]
    exact rng_of (by decide) (by decide)
  · have h : c = 0 ∨ c = 1 ∨ c = 2 ∨ c = 3 ∨ c = 4 := by omega
    have e2 : (fS 2).toNatClampNeg < 2147483648 := by decide
    rcases h with rfl | rfl | rfl | rfl | rfl <;> exact ⟨rng0 (by decide) e2, rng0 (by decide) (by decide), fun _ => by decide⟩
  · have h : k = 0 ∨ k = 1 ∨ k = 2 ∨ k = 3 ∨ k = 4 ∨ k = 5 := by omega
    rcases h with rfl | rfl | rfl | rfl | rfl | rfl <;> exact ⟨⟨by decide, by decide⟩, ⟨by decide, by decide⟩⟩
  · rw [fS_mo] at he; omega
  · rw [fS_mr] at hr; omega
  · rw [fS_mo]
    decide
theorem ME_RS : RS (ME 847) 1 fS := by
  refine ⟨fun q hq => ?_, fun q hq => ?_, fun c hc => ?_, fun k hk q hq => ?_, fun e he => ?_, fun r hr => ?_, ME_RSp (by decide) (by decide)⟩
  · have h : q = 0 ∨ q = 1 ∨ q = 2 ∨ q = 3 ∨ q = 4 := by omega
    rcases h with rfl | rfl | rfl | rfl | rfl <;> decide
  · have h : q = 0 ∨ q = 1 ∨ q = 2 ∨ q = 3 ∨ q = 4 ∨ q = 5 ∨ q = 6 := by omega
    rcases h with rfl | rfl | rfl | rfl | rfl | rfl | rfl <;> decide
  · have h : c = 0 ∨ c = 1 ∨ c = 2 ∨ c = 3 ∨ c = 4 := by omega
    rcases h with rfl | rfl | rfl | rfl | rfl <;> exact ⟨by decide, by decide⟩
  · have h : k = 0 ∨ k = 1 ∨ k = 2 ∨ k = 3 ∨ k = 4 ∨ k = 5 := by omega
    have h' : q = 0 ∨ q = 1 ∨ q = 2 ∨ q = 3 ∨ q = 4 ∨ q = 5 ∨ q = 6 ∨ q = 7 := by omega
    rcases h with rfl | rfl | rfl | rfl | rfl | rfl <;> rcases h' with rfl | rfl | rfl | rfl | rfl | rfl | rfl | rfl <;> decide
  · rw [fS_mo] at he; omega
  · rw [fS_mr] at hr; omega
/-- the first relation -/
theorem Rel_first : Rel 99999 0 (ME 847) (st MR fS) := by
  unfold Rel
  rw [st_now]
  refine ⟨ME_RS, fS_Inv, ⟨rng0 (by decide) (by decide), rng0 (by decide) (by decide), by decide, fun k hk => ?_, fun k hk => ?_, fun i h1 h2 => ME_RSp h1 h2⟩, by decide, by decide, rng0 (by decide) (by decide), fun j hj => ?_⟩
  · have e : ((ME 847).1 12 1 2).toNatClampNeg = 0 := by decide
    rw [e] at hk
    omega
  · have h : k = 0 ∨ k = 1 := by omega
    have e : (ME 847).1 15 1 k = 0 := by rcases h with rfl | rfl <;> decide
    refine ⟨by rw [e]; rcases h with rfl | rfl <;> decide, by rw [e]; exact isB0, fun z => absurd e z⟩
  · have e : ((ME 847).1 17 1 1).toNatClampNeg = 0 := by decide
    rw [e] at hj
    omega
end SEM47
