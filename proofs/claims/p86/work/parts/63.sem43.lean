section SEM43
variable {i : Nat} {Q : Mm → Prop}
theorem ME_same {lo hi : Nat} (h : lo ≤ hi) (hR : ∀ t j q, ¬ (lo < cR t j q ∧ cR t j q ≤ hi)) (hI : ∀ t j q, ¬ (lo < cI t j q ∧ cI t j q ≤ hi)) : ME lo = ME hi :=
  ME_step h (fun t j q => by rw [if_neg (hI t j q)]) (fun t j q => by rw [if_neg (hR t j q)])
theorem cI_lo (t j q : Nat) : cI t j q = 1000000 ∨ ∃ k, k < 9 ∧ (cI t j q = 2 * (sbC (k + 1) + 2) ∨ (∃ e, e < 5 ∧ cI t j q = 2 * (sbC (k + 1) + 36 + e)) ∨ (∃ e, e < 6 ∧ cI t j q = 2 * (sbC (k + 1) + 41 + e))) := by
  rcases cI_inv t j q with h | ⟨_, h1, h2⟩ | ⟨_, h1, h2⟩ | ⟨_, h1, h2⟩
  · exact Or.inl h
  · refine Or.inr ⟨j - 1, by omega, Or.inl ?_⟩
    rw [h2, show j - 1 + 1 = j by omega]
  · exact Or.inr ⟨(j - 1) / 5, by omega, Or.inr (Or.inl ⟨(j - 1) % 5, Nat.mod_lt _ (by decide), h2⟩)⟩
  · exact Or.inr ⟨(j - 1) / 6, by omega, Or.inr (Or.inr ⟨(j - 1) % 6, Nat.mod_lt _ (by decide), h2⟩)⟩
theorem noI {lo hi : Nat} (h : ∀ k, k < 9 → ∀ b, ((k = 0 ∧ b = 1) ∨ (1 ≤ k ∧ b = 51 + 46 * (k - 1))) → ¬ (lo < 2 * (b + 2) ∧ 2 * (b + 2) ≤ hi) ∧ (∀ e, e < 11 → ¬ (lo < 2 * (b + 36 + e) ∧ 2 * (b + 36 + e) ≤ hi))) (hh : hi < 1000000) (t j q : Nat) : ¬ (lo < cI t j q ∧ cI t j q ≤ hi) := by
  rcases cI_lo t j q with h0 | ⟨k, hk, h0 | ⟨e, he, h0⟩ | ⟨e, he, h0⟩⟩
  · rw [h0]; omega
  · rw [h0]; exact (h k hk _ (sb_d k)).1
  · rw [h0]; exact (h k hk _ (sb_d k)).2 e (by omega)
  · rw [h0]
    have := (h k hk _ (sb_d k)).2 (e + 5) (by omega)
    rw [show sbC (k + 1) + 36 + (e + 5) = sbC (k + 1) + 41 + e by omega] at this
    exact this
end SEM43
