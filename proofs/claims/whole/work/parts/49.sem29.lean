section SEM29
variable {mm : Mm} {T : Nat → Int32} {p n : Nat} {c : Nat → Int32}
def fm (x : Int32) : Nat := if x = 98 then 10 else if x = 100 then 11 else if x = 101 then 6 else if x = 103 then 8 else if x = 108 then 10 else if x = 109 then 9 else if x = 111 then 10 else if x = 116 then 12 else if x = 119 then 7 else if x = 120 then 7 else 0
def fL (F : Nat) : List Nat := if F = 6 then [0, 3, 5, 1] else if F = 7 then [2, 3] else if F = 8 then [2, 4] else if F = 9 then [2, 1] else if F = 10 then [1] else if F = 11 then [6] else if F = 12 then [7] else []
def lts (x : Int32) : List Nat := fL (fm x)
theorem lt_cases (x : Int32) : x = 98 ∨ x = 100 ∨ x = 101 ∨ x = 103 ∨ x = 108 ∨ x = 109 ∨ x = 111 ∨ x = 116 ∨ x = 119 ∨ x = 120 ∨ (fm x = 0 ∧ ¬ x = 98 ∧ ¬ x = 100 ∧ ¬ x = 101 ∧ ¬ x = 103 ∧ ¬ x = 108 ∧ ¬ x = 109 ∧ ¬ x = 111 ∧ ¬ x = 116 ∧ ¬ x = 119 ∧ ¬ x = 120) := by
  by_cases h1 : x = 98
  · exact Or.inl h1
  by_cases h2 : x = 100
  · exact Or.inr (Or.inl h2)
  by_cases h3 : x = 101
  · exact Or.inr (Or.inr (Or.inl h3))
  by_cases h4 : x = 103
  · exact Or.inr (Or.inr (Or.inr (Or.inl h4)))
  by_cases h5 : x = 108
  · exact Or.inr (Or.inr (Or.inr (Or.inr (Or.inl h5))))
  by_cases h6 : x = 109
  · exact Or.inr (Or.inr (Or.inr (Or.inr (Or.inr (Or.inl h6)))))
  by_cases h7 : x = 111
  · exact Or.inr (Or.inr (Or.inr (Or.inr (Or.inr (Or.inr (Or.inl h7))))))
  by_cases h8 : x = 116
  · exact Or.inr (Or.inr (Or.inr (Or.inr (Or.inr (Or.inr (Or.inr (Or.inl h8)))))))
  by_cases h9 : x = 119
  · exact Or.inr (Or.inr (Or.inr (Or.inr (Or.inr (Or.inr (Or.inr (Or.inr (Or.inl h9))))))))
  by_cases h10 : x = 120
  · exact Or.inr (Or.inr (Or.inr (Or.inr (Or.inr (Or.inr (Or.inr (Or.inr (Or.inr (Or.inl h10)))))))))
  refine Or.inr (Or.inr (Or.inr (Or.inr (Or.inr (Or.inr (Or.inr (Or.inr (Or.inr (Or.inr ⟨?_, h1, h2, h3, h4, h5, h6, h7, h8, h9, h10⟩)))))))))
  unfold fm
  rw [if_neg h1, if_neg h2, if_neg h3, if_neg h4, if_neg h5, if_neg h6, if_neg h7, if_neg h8, if_neg h9, if_neg h10]
theorem m_isSign (x : Int32) (mm : Mm) (Q : Int32 → Prop) : w_X10_isSign x mm Q ↔ if fm x = 0 then Q 0 else Q 1 := by
  rcases lt_cases x with h | h | h | h | h | h | h | h | h | h | ⟨h, g1, g2, g3, g4, g5, g6, g7, g8, g9, g10⟩
  all_goals first
    | (subst h; unfold w_X10_isSign; rw [if_neg (by decide)]; simp)
    | (unfold w_X10_isSign; rw [if_pos h]; simp [g1, g2, g3, g4, g5, g6, g7, g8, g9, g10])
theorem boB (b : Bool) : isB (bo b) := by cases b <;> first | exact isB0 | exact isB1
theorem m_line (hT : TM mm T n) (h9 : c 9 = nI p) (hp : p ≤ n) (x : Int32) (hx : ¬ fm x = 0) (Q : Int32 → Mm → Prop) (hq : ∀ c', after c c' (fl T n (lts x) p) → Q (bo (fl T n (lts x) p).2.2) (jv mm c')) : w_X10_line x (jv mm c) Q := by
  rcases lt_cases x with h | h | h | h | h | h | h | h | h | h | h
  · subst h
    unfold w_X10_line
    simp (decide := true) only [not_true_eq_false, not_false_eq_true, false_implies, true_implies, true_and, and_true, forall_eq, if_true, if_false, reduceIte]
    exact m_f1 (s := 1) hT h9 hp (fun r m => isB r ∧ Q r m) (fun c' ha => ⟨boB _, hq c' ha⟩)
  · subst h
    unfold w_X10_line
    simp (decide := true) only [not_true_eq_false, not_false_eq_true, false_implies, true_implies, true_and, and_true, forall_eq, if_true, if_false, reduceIte]
    exact m_f1 (s := 6) hT h9 hp (fun r m => isB r ∧ Q r m) (fun c' ha => ⟨boB _, hq c' ha⟩)
  · subst h
    unfold w_X10_line
    simp (decide := true) only [not_true_eq_false, not_false_eq_true, false_implies, true_implies, true_and, and_true, forall_eq, if_true, if_false, reduceIte]
    exact m_f4 hT h9 hp (fun r m => isB r ∧ Q r m) (fun c' ha => ⟨boB _, hq c' ha⟩)
  · subst h
    unfold w_X10_line
    simp (decide := true) only [not_true_eq_false, not_false_eq_true, false_implies, true_implies, true_and, and_true, forall_eq, if_true, if_false, reduceIte]
    exact m_f2 (s := 2) (s' := 4) rfl hT h9 hp (fun r m => isB r ∧ Q r m) (fun c' ha => ⟨boB _, hq c' ha⟩)
  · subst h
    unfold w_X10_line
    simp (decide := true) only [not_true_eq_false, not_false_eq_true, false_implies, true_implies, true_and, and_true, forall_eq, if_true, if_false, reduceIte]
    exact m_f1 (s := 1) hT h9 hp (fun r m => isB r ∧ Q r m) (fun c' ha => ⟨boB _, hq c' ha⟩)
  · subst h
    unfold w_X10_line
    simp (decide := true) only [not_true_eq_false, not_false_eq_true, false_implies, true_implies, true_and, and_true, forall_eq, if_true, if_false, reduceIte]
    exact m_f2 (s := 2) (s' := 1) rfl hT h9 hp (fun r m => isB r ∧ Q r m) (fun c' ha => ⟨boB _, hq c' ha⟩)
  · subst h
    unfold w_X10_line
    simp (decide := true) only [not_true_eq_false, not_false_eq_true, false_implies, true_implies, true_and, and_true, forall_eq, if_true, if_false, reduceIte]
    exact m_f1 (s := 1) hT h9 hp (fun r m => isB r ∧ Q r m) (fun c' ha => ⟨boB _, hq c' ha⟩)
  · subst h
    unfold w_X10_line
    simp (decide := true) only [not_true_eq_false, not_false_eq_true, false_implies, true_implies, true_and, and_true, forall_eq, if_true, if_false, reduceIte]
    exact m_f1 (s := 7) hT h9 hp (fun r m => isB r ∧ Q r m) (fun c' ha => ⟨boB _, hq c' ha⟩)
  · subst h
    unfold w_X10_line
    simp (decide := true) only [not_true_eq_false, not_false_eq_true, false_implies, true_implies, true_and, and_true, forall_eq, if_true, if_false, reduceIte]
    exact m_f2 (s := 2) (s' := 3) rfl hT h9 hp (fun r m => isB r ∧ Q r m) (fun c' ha => ⟨boB _, hq c' ha⟩)
  · subst h
    unfold w_X10_line
    simp (decide := true) only [not_true_eq_false, not_false_eq_true, false_implies, true_implies, true_and, and_true, forall_eq, if_true, if_false, reduceIte]
    exact m_f2 (s := 2) (s' := 3) rfl hT h9 hp (fun r m => isB r ∧ Q r m) (fun c' ha => ⟨boB _, hq c' ha⟩)
  · exact absurd h.1 hx
theorem m_tail (hT : TM mm T n) (h9 : c 9 = nI p) (hp : p ≤ n) {y : Int32} (hy : y = 0 ∨ y = 1) (Q : Int32 → Mm → Prop) (K : Int32 → Int32 → Mm → Prop) : w_X10_reads_J107 Q K y (jv mm c) ↔ if p < n then (if T p = 59 then K y 1 (jv mm (up (up c 15 (c 15 + y)) 9 (nI (p + 1)))) else Q (nI p) (jv mm (up c 15 (c 15 + y)))) else K y 0 (jv mm (up c 15 (c 15 + y))) := by
  have key : w_X10_reads_J122 Q y (jv mm c) K y ↔ if p < n then (if T p = 59 then K y 1 (jv mm (up (up c 15 (c 15 + y)) 9 (nI (p + 1)))) else Q (nI p) (jv mm (up c 15 (c 15 + y)))) else K y 0 (jv mm (up c 15 (c 15 + y))) := by
    have h9' : up c 15 (c 15 + y) 9 = nI p := by rw [up_ne _ _ (by decide)]; exact h9
    obtain ⟨t1, t2, t3⟩ := hT.jv (up c 15 (c 15 + y))
    unfold w_X10_reads_J122
    simp only [forall_eq, jv_in mm c (show 9 ≤ 15 ∧ 15 ≤ 15 by decide), jv_sI mm c (show 9 ≤ 15 ∧ 15 ≤ 15 by decide)]
    rw [t1, jv_in _ _ (by decide), h9']
    by_cases hlt : p < n
    · have hle : ¬ nI n ≤ nI p := fun z => by have := (le_nI (by omega) (by omega)).mp z; omega
      simp only [hle, hlt, not_true_eq_false, not_false_eq_true, false_implies, true_implies, true_and, and_true, forall_eq, if_true, if_false, reduceIte]
      unfold w_X10_reads_J142
      simp only [z10, m_goesOn hT h9' hp, not_true_eq_false, not_false_eq_true, false_implies, true_implies, true_and, and_true, forall_eq, if_true, if_false, reduceIte]
      by_cases h59 : T p = 59
      · simp only [h59, hlt, and_self, z10, not_true_eq_false, not_false_eq_true, false_implies, true_implies, true_and, and_true, forall_eq, if_true, if_false, reduceIte]
      · have e9 : (jv mm (up c 15 (c 15 + y))).1 30 1 9 = nI p := by rw [jv_in _ _ (by decide), h9']
        simp only [h59, and_false, e9, not_true_eq_false, not_false_eq_true, false_implies, true_implies, true_and, and_true, forall_eq, if_true, if_false, reduceIte]
    · have hle : nI n ≤ nI p := (le_nI (by omega) (by omega)).mpr (by omega)
      simp only [hle, hlt, not_true_eq_false, not_false_eq_true, false_implies, true_implies, true_and, and_true, forall_eq, if_true, if_false, reduceIte]
      unfold w_X10_reads_J142
      simp only [not_true_eq_false, not_false_eq_true, false_implies, true_implies, true_and, and_true, forall_eq, if_true, if_false, reduceIte]
  unfold w_X10_reads_J107
  rcases hy with rfl | rfl
  · simp only [not_true_eq_false, not_false_eq_true, false_implies, true_implies, true_and, and_true, forall_eq, if_true, if_false, reduceIte]
    exact key
  · simp only [z10, not_true_eq_false, not_false_eq_true, false_implies, true_implies, true_and, and_true, forall_eq, if_true, if_false, reduceIte]
    exact key
/-- a text from p: where it stops being one, and whether it is whole -/
def txp (T : Nat → Int32) (n : Nat) : Nat → Nat → Nat × Bool
  | 0, p => (p, false)
  | k + 1, p => if p < n ∧ ¬ fm (T p) = 0 then
      (if (fl T n (lts (T p)) (p + 1)).2.2 = true then
        (if (fl T n (lts (T p)) (p + 1)).1 < n then
          (if T (fl T n (lts (T p)) (p + 1)).1 = 59 then txp T n k ((fl T n (lts (T p)) (p + 1)).1 + 1) else ((fl T n (lts (T p)) (p + 1)).1, false))
        else ((fl T n (lts (T p)) (p + 1)).1, true))
      else ((fl T n (lts (T p)) (p + 1)).1, false))
    else (p, false)
theorem txp_le : ∀ k p, p ≤ n → (txp T n k p).1 ≤ n ∧ ((txp T n k p).2 = true → (txp T n k p).1 = n) := by
  intro k
  induction k with
  | zero => intro p hp; exact ⟨hp, fun z => by cases z⟩
  | succ k ih =>
    intro p hp
    unfold txp
    by_cases h1 : p < n ∧ ¬ fm (T p) = 0
    · have hr := fl_rng (T := T) (n := n) (lts (T p)) (p + 1) (by omega)
      rw [if_pos h1]
      by_cases h2 : (fl T n (lts (T p)) (p + 1)).2.2 = true
      · rw [if_pos h2]
        by_cases h3 : (fl T n (lts (T p)) (p + 1)).1 < n
        · rw [if_pos h3]
          by_cases h4 : T (fl T n (lts (T p)) (p + 1)).1 = 59
          · rw [if_pos h4]
            exact ih _ (by omega)
          · rw [if_neg h4]
            exact ⟨hr.2, fun z => by cases z⟩
        · rw [if_neg h3]
          exact ⟨hr.2, fun _ => by show (fl T n (lts (T p)) (p + 1)).1 = n; omega⟩
      · rw [if_neg h2]
        exact ⟨hr.2, fun z => by cases z⟩
    · rw [if_neg h1]
      exact ⟨hp, fun z => by cases z⟩
theorem m_r0 (hT : TM mm T n) (Q : Int32 → Mm → Prop) : ∀ k p c, p ≤ n → n < p + k → c 9 = nI p → c 14 = 0 → (∀ c', c' 9 = nI (txp T n k p).1 → c' 14 = bo (txp T n k p).2 → c' 15 = c 15 → Q (nI (txp T n k p).1) (jv mm c')) → itr (α := Int32 × Int32 × Mm) (fun K a => w_X10_reads_B19 Q (fun z0 z1 z2 => K (z0, z1, z2)) a.1 a.2.1 a.2.2) (k + 1) (0, 1, jv mm c) := by
  intro k
  induction k with
  | zero => intro p c hp hk; omega
  | succ k ih =>
    intro p c hp hk h9 h14 hq
    have hend : ∀ c', c' 9 = nI n → (∀ c'', c'' 9 = nI n → c'' 14 = 1 → c'' 15 = c' 15 → Q (nI n) (jv mm c'')) → itr (α := Int32 × Int32 × Mm) (fun K a => w_X10_reads_B19 Q (fun z0 z1 z2 => K (z0, z1, z2)) a.1 a.2.1 a.2.2) (k + 1) (0, 0, jv mm c') := fun c' h9' hq' => by
      show w_X10_reads_B19 Q _ 0 0 (jv mm c')
      unfold w_X10_reads_B19
      obtain ⟨u1, u2, u3⟩ := hT.jv (up c' 14 1)
      simp only [jv_sI mm _ (show 9 ≤ 14 ∧ 14 ≤ 15 by decide), u1, not_true_eq_false, not_false_eq_true, false_implies, true_implies, true_and, and_true, forall_eq, if_true, if_false, reduceIte]
      exact hq' _ (by rw [up_ne _ _ (by decide)]; exact h9') (up_eq _ _ _) (up_ne _ _ (by decide))
    show w_X10_reads_B19 Q (fun z0 z1 z2 => itr (α := Int32 × Int32 × Mm) (fun K a => w_X10_reads_B19 Q (fun z0 z1 z2 => K (z0, z1, z2)) a.1 a.2.1 a.2.2) (k + 1) (z0, z1, z2)) 0 1 (jv mm c)
    have hcont : ∀ p c, p ≤ n → n < p + k → c 9 = nI p → c 14 = 0 → (∀ c', c' 9 = nI (txp T n k p).1 → c' 14 = bo (txp T n k p).2 → c' 15 = c 15 → Q (nI (txp T n k p).1) (jv mm c')) → (fun z0 z1 z2 => itr (α := Int32 × Int32 × Mm) (fun K a => w_X10_reads_B19 Q (fun z0 z1 z2 => K (z0, z1, z2)) a.1 a.2.1 a.2.2) (k + 1) (z0, z1, z2)) 0 1 (jv mm c) := ih
    have hend : ∀ c', c' 9 = nI n → (∀ c'', c'' 9 = nI n → c'' 14 = 1 → c'' 15 = c' 15 → Q (nI n) (jv mm c'')) → (fun z0 z1 z2 => itr (α := Int32 × Int32 × Mm) (fun K a => w_X10_reads_B19 Q (fun z0 z1 z2 => K (z0, z1, z2)) a.1 a.2.1 a.2.2) (k + 1) (z0, z1, z2)) 0 0 (jv mm c') := hend
    generalize (fun (z0 z1 : Int32) (z2 : Mm) => itr (α := Int32 × Int32 × Mm) (fun K a => w_X10_reads_B19 Q (fun z0 z1 z2 => K (z0, z1, z2)) a.1 a.2.1 a.2.2) (k + 1) (z0, z1, z2)) = KK at hcont hend ⊢
    unfold txp at hq
    obtain ⟨t1, t2, t3⟩ := hT.jv c
    have e9 : (jv mm c).1 30 1 9 = nI p := by rw [jv_in _ _ (by decide), h9]
    by_cases hlt : p < n
    · have hne : ¬ nI p = nI n := fun z => by have := (nI_eq (by omega) (by omega)).mp z; omega
      have hv : vp_in (nI p) 60 := vp_in_nI (by omega) (by decide)
      have ht : (nI p).toNatClampNeg = p := rs_tn (by omega)
      by_cases hs : fm (T p) = 0
      · rw [if_neg (fun z => z.2 hs)] at hq
        unfold w_X10_reads_B19
        simp only [z10, e9, t1, hne, hv, ht, t3 p hlt, m_isSign, hs, not_true_eq_false, not_false_eq_true, false_implies, true_implies, true_and, and_true, forall_eq, if_true, if_false, reduceIte]
        exact hq c h9 h14 rfl
      · rw [if_pos ⟨hlt, hs⟩] at hq
        have hr := fl_rng (T := T) (n := n) (lts (T p)) (p + 1) (by omega)
        unfold w_X10_reads_B19 w_X10_reads_J106
        simp only [z10, e9, t1, hne, hv, ht, t3 p hlt, m_isSign, hs, nI_1, jv_sI mm c (show 9 ≤ 9 ∧ 9 ≤ 15 by decide), not_true_eq_false, not_false_eq_true, false_implies, true_implies, true_and, and_true, forall_eq, if_true, if_false, reduceIte]
        refine m_line hT (up_eq _ _ _) (by omega) _ hs _ (fun c' ha => ?_)
        generalize hX : fl T n (lts (T p)) (p + 1) = X at *
        have h15' : c' 15 = c 15 := by rw [ha.2.1 15 (by decide), up_ne _ _ (by decide)]
        have h14' : c' 14 = 0 := by rw [ha.2.1 14 (by decide), up_ne _ _ (by decide), h14]
        by_cases hok : X.2.2 = true
        · rw [if_pos hok] at hq
          have hbo : ¬ bo X.2.2 = 0 := by rw [hok]; decide
          refine ⟨fun _ => (m_tail hT ha.1 hr.2 (Or.inl rfl) Q _).mpr ?_, fun z => absurd z hbo⟩
          by_cases h3 : X.1 < n
          · rw [if_pos h3] at hq ⊢
            by_cases h4 : T X.1 = 59
            · rw [if_pos h4] at hq ⊢
              exact hcont (X.1 + 1) _ (by omega) (by omega) (up_eq _ _ _) (by rw [up_ne _ _ (by decide), up_ne _ _ (by decide)]; exact h14') (fun c'' q1 q2 q3 => hq c'' q1 q2 (by rw [q3, up_ne _ _ (by decide), up_eq, Int32.add_zero, h15']))
            · rw [if_neg h4] at hq ⊢
              exact hq _ (by rw [up_ne _ _ (by decide)]; exact ha.1) (by rw [up_ne _ _ (by decide)]; exact h14') (by rw [up_eq, Int32.add_zero, h15'])
          · rw [if_neg h3] at hq ⊢
            have hXn : X.1 = n := by omega
            refine hend _ (by rw [up_ne _ _ (by decide), ha.1, hXn]) (fun c'' q1 q2 q3 => ?_)
            rw [hXn] at hq
            exact hq c'' q1 q2 (by rw [q3, up_eq, Int32.add_zero, h15'])
        · rw [if_neg hok] at hq
          have hbo : bo X.2.2 = 0 := if_neg hok
          refine ⟨fun z => absurd hbo z, fun _ => ?_⟩
          rw [jv_in _ _ (by decide), ha.1]
          exact hq c' ha.1 h14' h15'
    · rw [if_neg (fun z => hlt z.1)] at hq
      have : p = n := by omega
      subst this
      unfold w_X10_reads_B19
      simp only [z10, e9, t1, not_true_eq_false, not_false_eq_true, false_implies, true_implies, true_and, and_true, forall_eq, if_true, if_false, reduceIte]
      exact hq c h9 h14 rfl
theorem jv_self (mm : Mm) : jv mm (mm.1 30 1) = mm := by
  refine Mm_ext (fun t i j => ?_) rfl
  show (if t = 30 ∧ i = 1 ∧ 9 ≤ j ∧ j ≤ 15 then mm.1 30 1 j else mm.1 t i j) = _
  by_cases h : t = 30 ∧ i = 1 ∧ 9 ≤ j ∧ j ≤ 15
  · rw [if_pos h, h.1, h.2.1]
  · rw [if_neg h]
/-- the reference reads, and does nothing -/
theorem m_reads0 (hT : TM mm T n) (Q : Int32 → Mm → Prop) (hq : ∀ c', c' 14 = bo (txp T n (n + 1) 0).2 → Q (nI (txp T n (n + 1) 0).1) (jv mm c')) : w_X10_reads 0 mm Q := by
  unfold w_X10_reads
  simp only [forall_eq]
  have e0 : sI (sI (sI mm 30 1 9 0) 30 1 15 0) 30 1 14 0 = jv mm (up (up (up (mm.1 30 1) 9 0) 15 0) 14 0) := by
    conv => lhs; rw [← jv_self mm]
    rw [jv_sI _ _ (by decide), jv_sI _ _ (by decide), jv_sI _ _ (by decide)]
  rw [e0]
  exact ⟨_, m_r0 hT Q (n + 1) 0 _ (Nat.zero_le _) (by omega) (by rw [up_ne _ _ (by decide), up_ne _ _ (by decide), up_eq]; rfl) (up_eq _ _ _) (fun c' _ h _ => hq c' h)⟩
end SEM29
