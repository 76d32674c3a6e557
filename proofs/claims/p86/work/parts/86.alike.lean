section LALIKE
/-- a loop over 0, 1 .. N - 1 -/
theorem loop_for {α : Type} (B : (α → Prop) → α → Prop) (N : Nat) (st : Nat → α) (hstep : ∀ j (K : α → Prop), j < N → K (st (j + 1)) → B K (st j)) (hend : ∀ K : α → Prop, B K (st N)) : ∀ F, N < F → itr B F (st 0) := by
  have key : ∀ F j, j ≤ N → N - j < F → itr B F (st j) := by
    intro F
    induction F with
    | zero => intro j _ h; omega
    | succ F ih =>
      intro j hj h
      show B (itr B F) (st j)
      by_cases z : j = N
      · subst z; exact hend _
      · exact hstep j _ (by omega) (ih (j + 1) (by omega) (by omega))
  intro F h
  exact key F 0 (Nat.zero_le _) (by omega)
/-- what is so of the two ghosts -/
def LG (g : Gh) : Prop := GI g ∧ ∀ b, JP (g.1 b)
theorem LG.mc {g : Gh} (h : LG g) (b : Bool) : ∃ mc, RelN g.2 mc (g.1 b) := h.1 b
theorem GI.inv {g : Gh} (h : GI g) (b : Bool) : Inv (99999 + 400000 * g.2) (64 * g.2) (g.1 b).1 := by
  obtain ⟨mc, hR⟩ := h b
  exact hR.inv
theorem mo_leI {f : Fn} (h : rng (f 117) 16) {j : Nat} (hj : j < mo f) : ¬ f 117 ≤ nI j := by
  rw [mo_lt h hj]
  exact id
theorem L_alike {o q : Bool} {g : Gh} {Q9 : Int32 → Gh → Prop} (hg : GI g) (hk : g.2 ≤ 2400) (hs : g.1 q = g.1 o) (h : Q9 1 g) : w_L_alike o q g Q9 := by
  have hI := hg.inv o
  have h16 := hI.mo16
  have hJ : w_L_alike_J325 o q g Q9 1 := by
    unfold w_L_alike_J325
    refine loop_for _ 5 (fun j => ((1 : Int32), nI j)) (fun j K hj hK => ?_) (fun K => ?_) 6 (by decide)
    · have hlt : ¬ (5 : Int32) ≤ nI j := by
        rw [show (5 : Int32) = nI 5 from rfl, nI_leI (by decide) (by omega)]
        omega
      show w_L_alike_B328 o q g Q9 (fun z0 z1 => K (z0, z1)) 1 (nI j)
      simp only [w_L_alike_B328, hs, hk, hlt, nI_1, z10, implies_true, ne_eq, eq_self, and_self, not_true_eq_false, not_false_eq_true, false_implies, true_implies, true_and, and_true, forall_eq, if_true, if_false, reduceIte]
      exact hK
    · have hle : (5 : Int32) ≤ nI 5 := by decide
      show w_L_alike_B328 o q g Q9 (fun z0 z1 => K (z0, z1)) 1 (nI 5)
      simp only [w_L_alike_B328, hle, isB1, implies_true, not_true_eq_false, not_false_eq_true, false_implies, true_implies, true_and, and_true]
      exact h
  have hJ1 : w_L_alike_J137 o q g Q9 1 := by
    unfold w_L_alike_J137
    refine ⟨hk, fun r hr => ?_⟩
    subst hr
    refine loop_for _ (mo (g.1 o).1) (fun j => ((1 : Int32), nI j)) (fun j K hj hK => ?_) (fun K => ?_) 17 (by omega)
    · have hlt : ¬ v_entries (g.1 o) ≤ nI j := mo_leI hI.opn hj
      show w_L_alike_B146 o q g Q9 _ (fun z0 z1 => K (z0, z1)) 1 (nI j)
      simp only [w_L_alike_B146, hs, hk, hlt, nI_1, z10, implies_true, ne_eq, eq_self, and_self, not_true_eq_false, not_false_eq_true, false_implies, true_implies, true_and, and_true, forall_eq, if_true, if_false, reduceIte]
      exact hK
    · have hle : v_entries (g.1 o) ≤ nI (mo (g.1 o).1) := by
        unfold v_entries
        rw [mo_le hI.opn]
        trivial
      show w_L_alike_B146 o q g Q9 _ (fun z0 z1 => K (z0, z1)) 1 (nI (mo (g.1 o).1))
      simp only [w_L_alike_B146, hle, implies_true, not_true_eq_false, not_false_eq_true, false_implies, true_implies, true_and, and_true]
      exact hJ
  unfold w_L_alike
  simp only [hs, hk, implies_true, ne_eq, eq_self, and_self, not_true_eq_false, not_false_eq_true, false_implies, true_implies, true_and, and_true, forall_eq, if_true, if_false, reduceIte]
  exact hJ1
end LALIKE
