theorem le_nI {a b : Nat} (ha : a < 100000) (hb : b < 100000) : (nI a ≤ nI b) ↔ a ≤ b := nI_leI (by omega) (by omega)
