section SEM48
theorem fv_dy {ad : Nat → Nat → Nat} {m : Mm} {t i f : Nat} (h : ∀ x, kCf t i f = some x → m.2 t i f = x) : fv ad false m t i f = fv ad true m t i f := by
  unfold fv
  cases kT t f with
  | zero => rfl
  | succ k =>
    show rv (ad k) (rfi false m t i f) = rv (ad k) (rfi true m t i f)
    have e : rfi false m t i f = rfi true m t i f := by
      show (match kCf t i f with | some r => r | none => m.2 t i f) = m.2 t i f
      cases hk : kCf t i f with
      | none => rfl
      | some x => exact (h x hk).symm
    rw [e]
end SEM48
