section SEM40
variable {m m' : Mm} {N i t j q : Nat} {Q : Mm → Prop}
theorem ME_new {t k τ : Nat} (h : ∀ f, τ < cI t k f ∧ τ < cR t k f) : ∀ f, (ME τ).1 t k f = 0 ∧ (ME τ).2 t k f = 0 := fun f => ⟨if_neg (by have := (h f).1; omega), if_neg (by have := (h f).2; omega)⟩
theorem ME_r {t j q τ : Nat} (h : cR t j q ≤ τ) : (ME τ).2 t j q = iR t j q := if_pos h
theorem gnI {t k N : Nat} (h1 : t < 20) (h2 : ok t k) (h3 : offC t k < N) : GN GC offC N t k := ⟨⟨h1, h2⟩, h3⟩
theorem st_ref (hi : 1 ≤ i ∧ i ≤ 9) {q τ : Nat} (hq : 5 ≤ q ∧ q ≤ 10) (h : 2 * (sbC i + q - 3) ≤ τ) : (ME τ).2 1 i q = i := by
  rw [ME_r]
  · rfl
  · unfold cR
    rw [if_pos rfl, if_pos ⟨hi.1, hi.2, hq.1, hq.2⟩]
    exact h
theorem new_2 (hi : 1 ≤ i ∧ i ≤ 9) : ∀ f, 2 * (sbC i + 1) < cI 2 i f ∧ 2 * (sbC i + 1) < cR 2 i f := fun f => by
  have h1 := cI_inv 2 i f
  have h2 := cR_inv 2 i f
  have hb := sb_eq hi.1
  generalize cI 2 i f = v at *
  generalize cR 2 i f = u at *
  omega
theorem new_7 (hi : 1 ≤ i ∧ i ≤ 9) : ∀ f, 2 * (sbC i + 2) < cI 7 i f ∧ 2 * (sbC i + 2) < cR 7 i f := fun f => by
  have h1 := cI_inv 7 i f
  have h2 := cR_inv 7 i f
  have hb := sb_eq hi.1
  generalize cI 7 i f = v at *
  generalize cR 7 i f = u at *
  omega
theorem new_8 (hi : 1 ≤ i ∧ i ≤ 9) : ∀ f, 2 * (sbC i + 3) < cI 8 i f ∧ 2 * (sbC i + 3) < cR 8 i f := fun f => by
  have h1 := cI_inv 8 i f
  have h2 := cR_inv 8 i f
  have hb := sb_eq hi.1
  generalize cI 8 i f = v at *
  generalize cR 8 i f = u at *
  omega
theorem new_9 (hi : 1 ≤ i ∧ i ≤ 9) : ∀ f, 2 * (sbC i + 4) < cI 9 i f ∧ 2 * (sbC i + 4) < cR 9 i f := fun f => by
  have h1 := cI_inv 9 i f
  have h2 := cR_inv 9 i f
  have hb := sb_eq hi.1
  generalize cI 9 i f = v at *
  generalize cR 9 i f = u at *
  omega
theorem new_10 (hi : 1 ≤ i ∧ i ≤ 9) : ∀ f, 2 * (sbC i + 5) < cI 10 i f ∧ 2 * (sbC i + 5) < cR 10 i f := fun f => by
  have h1 := cI_inv 10 i f
  have h2 := cR_inv 10 i f
  have hb := sb_eq hi.1
  generalize cI 10 i f = v at *
  generalize cR 10 i f = u at *
  omega
theorem new_11 (hi : 1 ≤ i ∧ i ≤ 9) : ∀ f, 2 * (sbC i + 6) < cI 11 i f ∧ 2 * (sbC i + 6) < cR 11 i f := fun f => by
  have h1 := cI_inv 11 i f
  have h2 := cR_inv 11 i f
  have hb := sb_eq hi.1
  generalize cI 11 i f = v at *
  generalize cR 11 i f = u at *
  omega
theorem new_3 (hi : 1 ≤ i ∧ i ≤ 9) {e : Nat} (he : e < 16) : ∀ f, 2 * (sbC i + 7 + e) < cI 3 (16 * (i - 1) + e + 1) f ∧ 2 * (sbC i + 7 + e) < cR 3 (16 * (i - 1) + e + 1) f := fun f => by
  have h1 := cI_inv 3 (16 * (i - 1) + e + 1) f
  have h2 := cR_inv 3 (16 * (i - 1) + e + 1) f
  have hb := sb_eq hi.1
  have e5 : (5 * (i - 1) + e + 1 - 1) / 5 + 1 = i ∨ 5 ≤ e := by omega
  have e6 : (6 * (i - 1) + e + 1 - 1) / 6 + 1 = i ∨ 6 ≤ e := by omega
  generalize cI 3 (16 * (i - 1) + e + 1) f = v at *
  generalize cR 3 (16 * (i - 1) + e + 1) f = u at *
  omega
theorem off_3 (hi : 1 ≤ i ∧ i ≤ 9) {e : Nat} (he : e < 16) : offC 3 (16 * (i - 1) + e + 1) = sbC i + 7 + e := by
  show sbC ((16 * (i - 1) + e + 1 - 1) / 16 + 1) + 7 + (16 * (i - 1) + e + 1 - 1) % 16 = _
  have e1 : (16 * (i - 1) + e + 1 - 1) / 16 + 1 = i := by omega
  have e2 : (16 * (i - 1) + e + 1 - 1) % 16 = e := by omega
  rw [e1, e2]
theorem new_4 (hi : 1 ≤ i ∧ i ≤ 9) {e : Nat} (he : e < 12) : ∀ f, 2 * (sbC i + 23 + e) < cI 4 (12 * (i - 1) + e + 1) f ∧ 2 * (sbC i + 23 + e) < cR 4 (12 * (i - 1) + e + 1) f := fun f => by
  have h1 := cI_inv 4 (12 * (i - 1) + e + 1) f
  have h2 := cR_inv 4 (12 * (i - 1) + e + 1) f
  have hb := sb_eq hi.1
  have e5 : (5 * (i - 1) + e + 1 - 1) / 5 + 1 = i ∨ 5 ≤ e := by omega
  have e6 : (6 * (i - 1) + e + 1 - 1) / 6 + 1 = i ∨ 6 ≤ e := by omega
  generalize cI 4 (12 * (i - 1) + e + 1) f = v at *
  generalize cR 4 (12 * (i - 1) + e + 1) f = u at *
  omega
theorem off_4 (hi : 1 ≤ i ∧ i ≤ 9) {e : Nat} (he : e < 12) : offC 4 (12 * (i - 1) + e + 1) = sbC i + 23 + e := by
  show sbC ((12 * (i - 1) + e + 1 - 1) / 12 + 1) + 23 + (12 * (i - 1) + e + 1 - 1) % 12 = _
  have e1 : (12 * (i - 1) + e + 1 - 1) / 12 + 1 = i := by omega
  have e2 : (12 * (i - 1) + e + 1 - 1) % 12 = e := by omega
  rw [e1, e2]
theorem new_5 (hi : 1 ≤ i ∧ i ≤ 9) {e : Nat} (he : e < 5) : ∀ f, 2 * (sbC i + 35 + e) < cI 5 (5 * (i - 1) + e + 1) f ∧ 2 * (sbC i + 35 + e) < cR 5 (5 * (i - 1) + e + 1) f := fun f => by
  have h1 := cI_inv 5 (5 * (i - 1) + e + 1) f
  have h2 := cR_inv 5 (5 * (i - 1) + e + 1) f
  have hb := sb_eq hi.1
  have e5 : (5 * (i - 1) + e + 1 - 1) / 5 + 1 = i ∨ 5 ≤ e := by omega
  have e6 : (6 * (i - 1) + e + 1 - 1) / 6 + 1 = i ∨ 6 ≤ e := by omega
  generalize cI 5 (5 * (i - 1) + e + 1) f = v at *
  generalize cR 5 (5 * (i - 1) + e + 1) f = u at *
  rcases e5 with e5 | e5
  · rw [e5] at h1
    omega
  · omega
theorem off_5 (hi : 1 ≤ i ∧ i ≤ 9) {e : Nat} (he : e < 5) : offC 5 (5 * (i - 1) + e + 1) = sbC i + 35 + e := by
  show sbC ((5 * (i - 1) + e + 1 - 1) / 5 + 1) + 35 + (5 * (i - 1) + e + 1 - 1) % 5 = _
  have e1 : (5 * (i - 1) + e + 1 - 1) / 5 + 1 = i := by omega
  have e2 : (5 * (i - 1) + e + 1 - 1) % 5 = e := by omega
  rw [e1, e2]
theorem new_6 (hi : 1 ≤ i ∧ i ≤ 9) {e : Nat} (he : e < 6) : ∀ f, 2 * (sbC i + 40 + e) < cI 6 (6 * (i - 1) + e + 1) f ∧ 2 * (sbC i + 40 + e) < cR 6 (6 * (i - 1) + e + 1) f := fun f => by
  have h1 := cI_inv 6 (6 * (i - 1) + e + 1) f
  have h2 := cR_inv 6 (6 * (i - 1) + e + 1) f
  have hb := sb_eq hi.1
  have e5 : (5 * (i - 1) + e + 1 - 1) / 5 + 1 = i ∨ 5 ≤ e := by omega
  have e6 : (6 * (i - 1) + e + 1 - 1) / 6 + 1 = i ∨ 6 ≤ e := by omega
  generalize cI 6 (6 * (i - 1) + e + 1) f = v at *
  generalize cR 6 (6 * (i - 1) + e + 1) f = u at *
  rcases e6 with e6 | e6
  · rw [e6] at h1
    omega
  · omega
theorem off_6 (hi : 1 ≤ i ∧ i ≤ 9) {e : Nat} (he : e < 6) : offC 6 (6 * (i - 1) + e + 1) = sbC i + 40 + e := by
  show sbC ((6 * (i - 1) + e + 1 - 1) / 6 + 1) + 40 + (6 * (i - 1) + e + 1 - 1) % 6 = _
  have e1 : (6 * (i - 1) + e + 1 - 1) / 6 + 1 = i := by omega
  have e2 : (6 * (i - 1) + e + 1 - 1) % 6 = e := by omega
  rw [e1, e2]
end SEM40
