section SEM48
theorem fv_dy {ad : Nat → Nat → Nat} {m : Mm} {t i f : Nat} (h : ∀ x, kCf t i f = some x → m.2 t i f = x) : fv ad false m t i f = fv ad true m t i f := by
  unfold fv
  cases kT t f with
  | zero => rfl
  | succ k =>
    show rv (ad k) (rfi false m t i f) = rv (ad k) (rfi true m t i f)
    have e : rfi false m t i f = rfi true m t i f := by
      show (match kCf t i f with | some r => r | none => m.2 t i f) = m.2 t i f
      cases hk : kCf t i f with
      | none => rfl
      | some x => exact (h x hk).symm
    rw [e]
def sz (t : Nat) : Nat := match kO t with
  | some q => q.2
  | none => kL t
theorem Cel_dy {D : va_G} {cA : Nat → ClassId} {ad : Nat → Nat → Nat} {m : Mm} {H : Heap} {t i : Nat} (h : ∀ f x, f < sz t → kCf t i f = some x → m.2 t i f = x) (hc : Cel D cA ad true m H t i) : Cel D cA ad false m H t i := by
  unfold Cel at hc ⊢
  unfold sz at h
  cases hk : kO t with
  | some q =>
    rw [hk] at hc h
    exact hc.to (fun k hk' => (fv_dy (fun x hx => h k x hk' hx)).symm)
  | none =>
    rw [hk] at hc h
    show H[ad t i]? = some (arrV (cA t) (kL t) (fv ad false m t i))
    have e : arrV (cA t) (kL t) (fv ad false m t i) = arrV (cA t) (kL t) (fv ad true m t i) := by
      unfold arrV
      congr 2
      funext j
      exact fv_dy (fun x hx => h j.val x j.isLt hx)
    rw [e]
    exact hc
/-- what the constructor of the class leaves has the fixed references -/
theorem ME_dy {t i f x : Nat} (hG : GC t i) (hf : f < sz t) (h : kCf t i f = some x) : (ME 847).2 t i f = x := by
  have key : ∀ {t j q : Nat}, cR t j q ≤ 847 → (ME 847).2 t j q = iR t j q := fun h => ME_r h
  have hok : 1 ≤ i ∧ i ≤ cnt t := hG.2
  have hb := sb_j i
  unfold kCf at h
  split at h
  · have hi : i = 1 := by
      have : i ≤ 1 := hok.2
      omega
    subst hi
    dsimp only at h
    split at h <;> cases h <;> exact key (by decide)
  · have hi : i ≤ 9 := hok.2
    have h1 : ∀ q, 5 ≤ q → q ≤ 10 → (ME 847).2 1 i q = i := fun q a b => st_ref ⟨hok.1, hi⟩ ⟨a, b⟩ (by omega)
    dsimp only at h
    split at h <;> cases h <;> exact h1 _ (by decide) (by decide)
  · have hi : i = 1 := by
      have : i ≤ 1 := hok.2
      omega
    subst hi
    dsimp only at h
    split at h <;> cases h <;> exact key (by decide)
  · have hi : i = 1 := by
      have : i ≤ 1 := hok.2
      omega
    subst hi
    dsimp only at h
    split at h <;> cases h <;> exact key (by decide)
  · have hi : i = 1 := by
      have : i ≤ 1 := hok.2
      omega
    subst hi
    dsimp only at h
    split at h <;> cases h <;> exact key (by decide)
  · have hi : i ≤ 9 := hok.2
    have hf : f < 5 := hf
    cases h
    refine (key ?_).trans rfl
    unfold cR
    rw [if_neg (by decide), if_neg (by decide), if_neg (by decide), if_pos rfl, if_pos ⟨hok.1, hi, hf⟩]
    omega
  · have hi : i ≤ 9 := hok.2
    have hf : f < 6 := hf
    cases h
    refine (key ?_).trans rfl
    unfold cR
    rw [if_neg (by decide), if_neg (by decide), if_neg (by decide), if_neg (by decide), if_pos rfl, if_pos ⟨hok.1, hi, hf⟩]
    omega
  · have hi : i = 1 := by
      have : i ≤ 1 := hok.2
      omega
    subst hi
    have hf : f < 6 := hf
    cases h
    refine (key ?_).trans rfl
    unfold cR
    simp [hf]
    omega
  · have hi : i = 1 := by
      have : i ≤ 1 := hok.2
      omega
    subst hi
    have hf : f < 2 := hf
    cases h
    refine (key ?_).trans rfl
    unfold cR
    simp [hf]
    omega
  · cases h
end SEM48
