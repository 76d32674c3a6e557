section LREF0
variable {a s : Nat} {f : Fn} {u : PS}
theorem fnd_to (P : Nat → Bool) : ∀ k j e, j ≤ e → e < j + k → P e = true → fnd P k j ≤ e := by
  intro k
  induction k with
  | zero => intro j e h1 h2; omega
  | succ k ih =>
    intro j e h1 h2 h3
    unfold fnd
    by_cases z : P j = true
    · rw [if_pos z]; exact h1
    · rw [if_neg z]
      have : ¬ j = e := fun y => z (by rw [y]; exact h3)
      exact ih (j + 1) e (by omega) (by omega) h3
/-- an entry is found by its number -/
theorem fi_at (hJ : JN f) {e : Nat} (he : e < mo f) : fiE f (en f e 0) = e := by
  have h1 : fiE f (en f e 0) ≤ e := fnd_to _ _ _ _ (Nat.zero_le _) (by omega) (by simp)
  have h2 : fiE f (en f e 0) < mo f := by omega
  have h3 := fiE_num h2
  by_cases z : fiE f (en f e 0) = e
  · exact z
  · have h4 := hJ.2 (fiE f (en f e 0)) e (by omega) he
    unfold nN at h4
    rw [h3] at h4
    omega
theorem no_find (hJ : JN f) {p : Int32} (h : ∀ n, n < (f 1).toNatClampNeg → ¬ p = nI n) : ¬ fiE f p < mo f := fun hF => by
  have h1 := fiE_num hF
  have h2 := hJ.1 _ hF
  rw [h1] at h2
  exact h _ h2.2 h2.1
theorem nI_lt0 {n : Nat} (h : n < 1000) : ¬ 0 ≤ (-1 : Int32) - nI n ∧ ∀ m, m < 2147483648 → ¬ (-1 : Int32) - nI n = nI m := by
  have e1 : ((-1 : Int32) - nI n).toInt = -1 - (n : Int) := by
    have h1 : (nI n).toInt = n := nI_toInt (by omega)
    rw [Int32.toInt_sub, h1, show (-1 : Int32).toInt = -1 from by decide]
    rw [Int.bmod_eq_of_le] <;> omega
  refine ⟨fun z => ?_, fun m hm z => ?_⟩
  · rw [Int32.le_iff_toInt_le, e1] at z
    have : (0 : Int32).toInt = 0 := rfl
    omega
  · rw [z, nI_toInt hm] at e1
    omega
theorem nI_le0 {n : Nat} (h : n < 1000) : ¬ 1 ≤ (0 : Int32) - nI n := by
  have e1 : ((0 : Int32) - nI n).toInt = 0 - (n : Int) := by
    have h1 : (nI n).toInt = n := nI_toInt (by omega)
    rw [Int32.toInt_sub, h1, show (0 : Int32).toInt = 0 from by decide]
    rw [Int.bmod_eq_of_le] <;> omega
  intro z
  rw [Int32.le_iff_toInt_le, e1] at z
  have : (1 : Int32).toInt = 1 := rfl
  omega
theorem rm_n {n m : Nat} (hn : n < 2147483648) (hm : 0 < m) (hm2 : m < 2147483648) : nI n - nI n / nI m * nI m = nI (n % m) := by
  have h1 := Nat.div_mul_le_self n m
  have h2 := Nat.mod_add_div n m
  rw [pk_div (by omega) (by omega) (by omega), pk_mul, pk_sub h1]
  congr 1
  rw [Nat.mul_comm] at h1 ⊢
  omega
theorem nn_of {x : Int32} (h : 0 ≤ x) : ∃ n, n < 2147483648 ∧ x = nI n := by
  obtain ⟨j, hj, e⟩ := nI_of (x := x) (fun q => by
    rw [Int32.le_iff_toInt_le] at h
    rw [Int32.lt_iff_toInt_lt] at q
    omega)
  exact ⟨j, hj, e⟩
theorem stake_n (hI : Inv a s f) : ∀ n, n ≤ mo f → rng (fo (fun e s => s + dutyAF f e) n 0) (440000 * n) := by
  intro n
  induction n with
  | zero => exact fun _ => rng_of (n := 0) (Nat.le_refl _) (by decide)
  | succ n ih =>
    intro h
    have h16 := hI.mo16
    have h1 := ih (by omega)
    have h2 := dutyA_rng hI (e := n) (by omega)
    have := (add_r h1 h2 (by omega)).1
    exact this.mono (by omega)
theorem stake_rng (hI : Inv a s f) : rng (stakeF f) 10000000 := (stake_n hI (mo f) (Nat.le_refl _)).mono (by have := hI.mo16; omega)
/-- what a refused call leaves -/
theorem R_z {t : Nat} {k : Nat} {v : Int32} {nx : PS} (h : t = k) (hk : ¬ k = 0) : (if t = 0 then (v, nx, 1) else (xcd t, u, 0)) = ((xcd k, u, 0) : Int32 × PS × Nat) := by
  subst h
  rw [if_neg hk]
theorem R_y {t : Nat} {k : Nat} {v : Int32} (h : t = k) (hk : ¬ k = 0) : (if t = 0 then v else xcd t) = xcd k := by
  subst h
  rw [if_neg hk]
/-- what is refused by its arguments alone -/
def RF (u : PS) (y1 y2 y3 y4 y5 x6 : Int32) : Prop := ¬ fiE u.1 y1 < mo u.1 ∧ ¬ (0 ≤ y2 ∧ y2 ≤ 5) ∧ ¬ (0 ≤ y3 ∧ y3 ≤ 4) ∧ ¬ (1 ≤ y4 ∧ y4 ≤ 999) ∧ ¬ (0 ≤ y5 ∧ y5 ≤ u.1 68 - 1) ∧ (0 ≤ x6 ∧ x6 ≤ 4)
end LREF0
