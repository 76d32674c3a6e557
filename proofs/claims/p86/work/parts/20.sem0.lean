section SEM0
/-! the row of a state: f : Nat → Int32, in the reference's order of places -/
theorem rs_tn {n : Nat} (h : n < 2147483648) : (nI n).toNatClampNeg = n := nI_clamp h
def rng (x : Int32) (b : Nat) : Prop := x = nI x.toNatClampNeg ∧ x.toNatClampNeg ≤ b
theorem rng_of {n b : Nat} (h : n ≤ b) (hb : b < 2147483648) : rng (nI n) b := by
  unfold rng
  rw [rs_tn (by omega)]
  exact ⟨rfl, h⟩
theorem rng.ex {x : Int32} {b : Nat} (h : rng x b) : ∃ n, n ≤ b ∧ x = nI n := ⟨_, h.2, h.1⟩
theorem rng.mono {x : Int32} {b c : Nat} (h : rng x b) (hc : b ≤ c) : rng x c := ⟨h.1, Nat.le_trans h.2 hc⟩
theorem rng.nn {x : Int32} {b : Nat} (h : rng x b) (hb : b < 2147483648) : ¬ x < 0 := by
  rw [h.1]; exact nI_pos (Nat.lt_of_le_of_lt h.2 hb)
theorem rng.vp {x : Int32} {b n : Nat} (h : rng x b) (hn : b < n) (hN : n < 2147483648) : vp_in x n := by
  rw [h.1]; exact vp_in_nI (Nat.lt_of_le_of_lt h.2 hn) hN
theorem rng_iff {x : Int32} {b : Nat} (hb : b < 2147483648) : rng x b ↔ (0 ≤ x.toInt ∧ x.toInt ≤ b) := by
  constructor
  · rintro h
    rw [h.1, nI_toInt (Nat.lt_of_le_of_lt h.2 hb)]
    have := h.2
    omega
  · intro h
    have h0 : ¬ x < 0 := by rw [Int32.lt_iff_toInt_lt]; simp; omega
    obtain ⟨j, hj, rfl⟩ := nI_of h0
    rw [nI_toInt hj] at h
    exact rng_of (by omega) hb
/-- a bound of an int, both ways -/
theorem rng_io {x : Int32} {b : Nat} (hb : b < 2147483648) (h0 : 0 ≤ x) (h1 : x ≤ nI b) : rng x b := by
  rw [rng_iff hb]
  rw [Int32.le_iff_toInt_le] at h0 h1
  rw [nI_toInt hb] at h1
  simp at h0
  omega
def fo {σ : Type} (g : Nat → σ → σ) : Nat → σ → σ
  | 0, s => s
  | n + 1, s => g n (fo g n s)
theorem itr_for {α σ : Type} (B : (α → Prop) → α → Prop) (st : Nat → σ → α) (N : Nat) (g : Nat → σ → σ) (s0 : σ) (Q : Prop)
    (hstep : ∀ K j, j < N → (B K (st j (fo g j s0)) ↔ K (st (j + 1) (fo g (j + 1) s0))))
    (hend : ∀ K, B K (st N (fo g N s0)) ↔ Q) : (∃ n, itr B n (st 0 s0)) ↔ Q := by
  have key : ∀ d j, j + d = N → ((∃ n, itr B n (st j (fo g j s0))) ↔ Q) := by
    intro d
    induction d with
    | zero =>
      intro j hj
      obtain rfl : j = N := by omega
      constructor
      · rintro ⟨n, h⟩
        cases n with
        | zero => exact h.elim
        | succ n => exact (hend _).mp h
      · intro h; exact ⟨1, (hend _).mpr h⟩
    | succ d ih =>
      intro j hj
      have h1 := ih (j + 1) (by omega)
      constructor
      · rintro ⟨n, h⟩
        cases n with
        | zero => exact h.elim
        | succ n => exact h1.mp ⟨n, (hstep _ j (by omega)).mp h⟩
      · intro h
        obtain ⟨n, hn⟩ := h1.mpr h
        exact ⟨n + 1, (hstep _ j (by omega)).mpr hn⟩
  exact key N 0 (by omega)
def fnd (P : Nat → Bool) : Nat → Nat → Nat
  | 0, j => j
  | k + 1, j => if P j then j else fnd P k (j + 1)
theorem fnd_le (P : Nat → Bool) : ∀ k j, j ≤ fnd P k j ∧ fnd P k j ≤ j + k := by
  intro k
  induction k with
  | zero => intro j; exact ⟨Nat.le_refl _, Nat.le_refl _⟩
  | succ k ih =>
    intro j
    unfold fnd
    split
    · omega
    · have := ih (j + 1); omega
theorem fnd_P (P : Nat → Bool) : ∀ k j, fnd P k j < j + k → P (fnd P k j) = true := by
  intro k
  induction k with
  | zero => intro j h; exact absurd h (by unfold fnd; omega)
  | succ k ih =>
    intro j h
    unfold fnd at h ⊢
    split
    · assumption
    · rename_i h2
      rw [if_neg h2] at h
      exact ih (j + 1) (by omega)
theorem itr_find {α : Type} (B : (α → Prop) → α → Prop) (st : Nat → α) (N : Nat) (P : Nat → Bool) (Qf : Nat → Prop) (Qn : Prop)
    (hstep : ∀ K j, j < N → (B K (st j) ↔ if P j = true then Qf j else K (st (j + 1)))) (hend : ∀ K, B K (st N) ↔ Qn) :
    (∃ n, itr B n (st 0)) ↔ (if fnd P N 0 < N then Qf (fnd P N 0) else Qn) := by
  have key : ∀ d j, j + d = N → ((∃ n, itr B n (st j)) ↔ if fnd P d j < N then Qf (fnd P d j) else Qn) := by
    intro d
    induction d with
    | zero =>
      intro j hj
      obtain rfl : j = N := by omega
      rw [if_neg (by unfold fnd; omega)]
      constructor
      · rintro ⟨n, h⟩
        cases n with
        | zero => exact h.elim
        | succ n => exact (hend _).mp h
      · intro h; exact ⟨1, (hend _).mpr h⟩
    | succ d ih =>
      intro j hj
      have h1 := ih (j + 1) (by omega)
      have h2 : (∃ n, itr B n (st j)) ↔ if P j = true then Qf j else (∃ n, itr B n (st (j + 1))) := by
        constructor
        · rintro ⟨n, h⟩
          cases n with
          | zero => exact h.elim
          | succ n =>
            have h := (hstep _ j (by omega)).mp h
            by_cases hp : P j = true
            · rw [if_pos hp] at h ⊢; exact h
            · rw [if_neg hp] at h ⊢; exact ⟨n, h⟩
        · intro h
          by_cases hp : P j = true
          · rw [if_pos hp] at h
            exact ⟨1, (hstep _ j (by omega)).mpr (by rw [if_pos hp]; exact h)⟩
          · rw [if_neg hp] at h
            obtain ⟨n, hn⟩ := h
            exact ⟨n + 1, (hstep _ j (by omega)).mpr (by rw [if_neg hp]; exact hn)⟩
      rw [h2]
      unfold fnd
      by_cases hp : P j = true
      · rw [if_pos hp, if_pos hp, if_pos (by omega)]
      · rw [if_neg hp, if_neg hp]
        exact h1
  exact key N 0 (by omega)
/-! ranges by longs, as the reference has them -/
theorem wide_in (p a b : Int32) {A B C : Int64} (ha : a.toInt64 = A) (hb : b.toInt64 = B) (hc : p.toInt64 = C) {Q1 Q0 : Prop} : (((lg_cmp C A) < 0 → Q0) ∧ (¬ (lg_cmp C A) < 0 → ((0 < (lg_cmp C B) → Q0) ∧ (¬ 0 < (lg_cmp C B) → Q1)))) ↔ (if a ≤ p ∧ p ≤ b then Q1 else Q0) := by
  subst ha; subst hb; subst hc
  rw [lg_cmp_lt, lg_cmp_gt, Int64.lt_iff_toInt_lt, Int64.lt_iff_toInt_lt, Int32.toInt_toInt64, Int32.toInt_toInt64, Int32.toInt_toInt64]
  have e1 := @Int32.le_iff_toInt_le a p
  have e2 := @Int32.le_iff_toInt_le p b
  by_cases h1 : a ≤ p
  · have g1 := e1.mp h1
    by_cases h2 : p ≤ b
    · have g2 := e2.mp h2
      rw [if_pos ⟨h1, h2⟩]
      exact ⟨fun h => (h.2 (by omega)).2 (by omega), fun h => ⟨fun q => by omega, fun _ => ⟨fun q => by omega, fun _ => h⟩⟩⟩
    · have g2 := mt e2.mpr h2
      rw [if_neg (fun q => h2 q.2)]
      exact ⟨fun h => (h.2 (by omega)).1 (by omega), fun h => ⟨fun _ => h, fun _ => ⟨fun _ => h, fun q => by omega⟩⟩⟩
  · have g1 := mt e1.mpr h1
    rw [if_neg (fun q => h1 q.1)]
    exact ⟨fun h => h.1 (by omega), fun h => ⟨fun _ => h, fun q => by omega⟩⟩
theorem w_in (p a b : Int32) {A B : Int64} (ha : a.toInt64 = A) (hb : b.toInt64 = B) (mm : Mm) (Q : Int32 → Prop) : w_X10_in p.toInt64 A B mm Q ↔ (if a ≤ p ∧ p ≤ b then Q 1 else Q 0) := by
  unfold w_X10_in
  exact wide_in p a b ha hb rfl
theorem isWithin_iff (p a b : Int32) (mm : Mm) (Q : Int32 → Prop) : w_X9_isWithin p a b mm Q ↔ (if a ≤ p ∧ p ≤ b then Q 1 else Q 0) := by
  unfold w_X9_isWithin
  rw [Int32.lt_iff_toInt_lt, Int32.lt_iff_toInt_lt]
  have e1 := @Int32.le_iff_toInt_le a p
  have e2 := @Int32.le_iff_toInt_le p b
  by_cases h1 : a ≤ p
  · have g1 := e1.mp h1
    by_cases h2 : p ≤ b
    · have g2 := e2.mp h2
      rw [if_pos ⟨h1, h2⟩]
      exact ⟨fun h => (h.2 (by omega)).2 (by omega), fun h => ⟨fun q => by omega, fun _ => ⟨fun q => by omega, fun _ => h⟩⟩⟩
    · have g2 := mt e2.mpr h2
      rw [if_neg (fun q => h2 q.2)]
      exact ⟨fun h => (h.2 (by omega)).1 (by omega), fun h => ⟨fun _ => h, fun _ => ⟨fun _ => h, fun q => by omega⟩⟩⟩
  · have g1 := mt e1.mpr h1
    rw [if_neg (fun q => h1 q.1)]
    exact ⟨fun h => h.1 (by omega), fun h => ⟨fun _ => h, fun q => by omega⟩⟩
/-! branches -/
theorem brc {c A B : Prop} : ((c → A) ∧ (¬ c → B)) ↔ (¬ c ∧ B ∨ c ∧ A) := by
  by_cases h : c <;> simp [h]
theorem bri {c A B : Prop} (d : Decidable c) : ((c → A) ∧ (¬ c → B)) ↔ (if c then A else B) := by
  by_cases h : c <;> simp [h]
theorem bri' {c A B : Prop} (d : Decidable c) : ((¬ c → B) ∧ (c → A)) ↔ (if c then A else B) := by
  by_cases h : c <;> simp [h]
theorem isB0 : isB 0 := Or.inl rfl
theorem isB1 : isB 1 := Or.inr rfl
theorem z10 : ¬ (1 : Int32) = 0 := by decide
theorem zm1 : ¬ ((0 : Int32) = -1) := by decide
theorem z21 : ¬ (2 : Int32) = 0 := by decide
theorem nI_nm1 {n : Nat} (h : n < 2147483648) : ¬ nI n = (-1) := fun e => by
  have := nI_pos h
  rw [e] at this
  exact this (by decide)
end SEM0

