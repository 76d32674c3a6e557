section LACT
variable {u : PS} {k : Nat} {mc : Mm}
/-- what one step of the script does to a warehouse that is u: the same in each -/
def Act1 (u : PS) (W : Bool → Gh → (Int32 → Gh → Prop) → Prop) : Prop := ∃ z : Int32 × PS × Nat, JP z.2.1 ∧ z.2.2 ≤ 1 ∧ ∀ (o : Bool) (g : Gh) (Q9 : Int32 → Gh → Prop), GI g → g.2 + 1 ≤ 2400 → g.1 o = u → (∀ g', g' = gz g o z.2 → GI g' → Q9 z.1 g') → W o g Q9
theorem z_enter_d (p0 : Int32) (p1 : Int32) (p2 : Int32) (p3 : Int32) (u : PS) : (z_enter p0 p1 p2 p3 u).2.2 ≤ 1 := by unfold z_enter; split; exact Nat.le_refl _; exact Nat.zero_le _
theorem z_tryBack_d (p0 : Int32) (u : PS) : (z_tryBack p0 u).2.2 ≤ 1 := by unfold z_tryBack; split; exact Nat.le_refl _; exact Nat.zero_le _
theorem z_tryBreak_d (p0 : Int32) (u : PS) : (z_tryBreak p0 u).2.2 ≤ 1 := by unfold z_tryBreak; split; exact Nat.le_refl _; exact Nat.zero_le _
theorem z_tryDraw_d (p0 : Int32) (p1 : Int32) (u : PS) : (z_tryDraw p0 p1 u).2.2 ≤ 1 := by unfold z_tryDraw; split; exact Nat.le_refl _; exact Nat.zero_le _
theorem z_tryKeep_d (p0 : Int32) (u : PS) : (z_tryKeep p0 u).2.2 ≤ 1 := by unfold z_tryKeep; split; exact Nat.le_refl _; exact Nat.zero_le _
theorem z_tryLock_d (p0 : Int32) (u : PS) : (z_tryLock p0 u).2.2 ≤ 1 := by unfold z_tryLock; split; exact Nat.le_refl _; exact Nat.zero_le _
theorem z_tryMerge_d (p0 : Int32) (p1 : Int32) (u : PS) : (z_tryMerge p0 p1 u).2.2 ≤ 1 := by unfold z_tryMerge; split; exact Nat.le_refl _; exact Nat.zero_le _
theorem z_tryMove_d (p0 : Int32) (p1 : Int32) (u : PS) : (z_tryMove p0 p1 u).2.2 ≤ 1 := by unfold z_tryMove; split; exact Nat.le_refl _; exact Nat.zero_le _
theorem z_tryOpen_d (p0 : Int32) (u : PS) : (z_tryOpen p0 u).2.2 ≤ 1 := by unfold z_tryOpen; split; exact Nat.le_refl _; exact Nat.zero_le _
theorem z_tryPass_d (p0 : Int32) (u : PS) : (z_tryPass p0 u).2.2 ≤ 1 := by unfold z_tryPass; split; exact Nat.le_refl _; exact Nat.zero_le _
theorem z_tryPay_d (p0 : Int32) (u : PS) : (z_tryPay p0 u).2.2 ≤ 1 := by unfold z_tryPay; split; exact Nat.le_refl _; exact Nat.zero_le _
theorem z_trySend_d (p0 : Int32) (p1 : Int32) (u : PS) : (z_trySend p0 p1 u).2.2 ≤ 1 := by unfold z_trySend; split; exact Nat.le_refl _; exact Nat.zero_le _
theorem z_trySetBond_d (p0 : Int32) (u : PS) : (z_trySetBond p0 u).2.2 ≤ 1 := by unfold z_trySetBond; split; exact Nat.le_refl _; exact Nat.zero_le _
theorem z_trySetValue_d (p0 : Int32) (p1 : Int32) (u : PS) : (z_trySetValue p0 p1 u).2.2 ≤ 1 := by unfold z_trySetValue; split; exact Nat.le_refl _; exact Nat.zero_le _
theorem z_trySetWeight_d (p0 : Int32) (p1 : Int32) (u : PS) : (z_trySetWeight p0 p1 u).2.2 ≤ 1 := by unfold z_trySetWeight; split; exact Nat.le_refl _; exact Nat.zero_le _
theorem z_trySplit_d (p0 : Int32) (p1 : Int32) (u : PS) : (z_trySplit p0 p1 u).2.2 ≤ 1 := by unfold z_trySplit; split; exact Nat.le_refl _; exact Nat.zero_le _
theorem z_tryUndo_d (u : PS) : (z_tryUndo u).2.2 ≤ 1 := by unfold z_tryUndo; split; exact Nat.le_refl _; exact Nat.zero_le _
theorem z_tryWeigh_d (p0 : Int32) (p1 : Int32) (u : PS) : (z_tryWeigh p0 p1 u).2.2 ≤ 1 := by unfold z_tryWeigh; split; exact Nat.le_refl _; exact Nat.zero_le _
theorem z_tryWithdraw_d (p0 : Int32) (p1 : Int32) (u : PS) : (z_tryWithdraw p0 p1 u).2.2 ≤ 1 := by unfold z_tryWithdraw; split; exact Nat.le_refl _; exact Nat.zero_le _
theorem L_act50 (hR : RelN k mc u) (hJ : JP u) (p1 x_1 y_4 y_5 : Int32) (h5 : ¬ y_5 = 0) : Act1 u (fun o g Q9 => w_L_act_J50 o p1 g Q9 x_1 y_4 y_5) := by
  unfold Act1
  by_cases c : (p1 - p1 / 20 * 20) = 0
  · refine ⟨z_enter (x_1 - x_1 / 6 * 6) (1 + ((x_1 / 60) - (x_1 / 60) / y_5 * y_5)) (1 + ((x_1 / 2400) - (x_1 / 2400) / 9999 * 9999)) ((x_1 / 7) - (x_1 / 7) / 5 * 5) u, P_enter hR hJ (x_1 - x_1 / 6 * 6) (1 + ((x_1 / 60) - (x_1 / 60) / y_5 * y_5)) (1 + ((x_1 / 2400) - (x_1 / 2400) / 9999 * 9999)) ((x_1 / 7) - (x_1 / 7) / 5 * 5), z_enter_d (x_1 - x_1 / 6 * 6) (1 + ((x_1 / 60) - (x_1 / 60) / y_5 * y_5)) (1 + ((x_1 / 2400) - (x_1 / 2400) / 9999 * 9999)) ((x_1 / 7) - (x_1 / 7) / 5 * 5) u, fun o g Q9 hg hk hu h => ?_⟩
    unfold w_L_act_J50
    refine ⟨h5, ?_⟩
    intro x_7 e7 x_8 e8 x_9 e9
    subst e7 e8 e9
    exact ⟨fun _ => ⟨hk, (fun r hr g9 hg9 hi => by subst hr; rw [hu] at hg9 ⊢; exact h g9 hg9 hi)⟩, fun cj => absurd (c.symm.trans cj) (by decide), fun cj => absurd (c.symm.trans cj) (by decide), fun cj => absurd (c.symm.trans cj) (by decide), fun cj => absurd (c.symm.trans cj) (by decide), fun cj => absurd (c.symm.trans cj) (by decide), fun cj => absurd (c.symm.trans cj) (by decide), fun cj => absurd (c.symm.trans cj) (by decide), fun cj => absurd (c.symm.trans cj) (by decide), fun cj => absurd (c.symm.trans cj) (by decide), fun cj => absurd (c.symm.trans cj) (by decide), fun cj => absurd (c.symm.trans cj) (by decide), fun cj => absurd (c.symm.trans cj) (by decide), fun cj => absurd (c.symm.trans cj) (by decide), fun cj => absurd (c.symm.trans cj) (by decide), fun cj => absurd (c.symm.trans cj) (by decide), fun cj => absurd (c.symm.trans cj) (by decide), fun cj => absurd (c.symm.trans cj) (by decide), fun cj => absurd (c.symm.trans cj) (by decide), fun n0 n1 n2 n3 n4 n5 n6 n7 n8 n9 n10 n11 n12 n13 n14 n15 n16 n17 n18 => absurd c n0⟩
  have c0 := c
  clear c
  by_cases c : (p1 - p1 / 20 * 20) = 1
  · refine ⟨z_enter (x_1 - x_1 / 6 * 6) (1 + ((x_1 / 60) - (x_1 / 60) / y_5 * y_5)) (1 + ((x_1 / 2400) - (x_1 / 2400) / 9999 * 9999)) ((x_1 / 7) - (x_1 / 7) / 5 * 5) u, P_enter hR hJ (x_1 - x_1 / 6 * 6) (1 + ((x_1 / 60) - (x_1 / 60) / y_5 * y_5)) (1 + ((x_1 / 2400) - (x_1 / 2400) / 9999 * 9999)) ((x_1 / 7) - (x_1 / 7) / 5 * 5), z_enter_d (x_1 - x_1 / 6 * 6) (1 + ((x_1 / 60) - (x_1 / 60) / y_5 * y_5)) (1 + ((x_1 / 2400) - (x_1 / 2400) / 9999 * 9999)) ((x_1 / 7) - (x_1 / 7) / 5 * 5) u, fun o g Q9 hg hk hu h => ?_⟩
    unfold w_L_act_J50
    refine ⟨h5, ?_⟩
    intro x_7 e7 x_8 e8 x_9 e9
    subst e7 e8 e9
    exact ⟨fun cj => absurd (c.symm.trans cj) (by decide), fun _ => ⟨hk, (fun r hr g9 hg9 hi => by subst hr; rw [hu] at hg9 ⊢; exact h g9 hg9 hi)⟩, fun cj => absurd (c.symm.trans cj) (by decide), fun cj => absurd (c.symm.trans cj) (by decide), fun cj => absurd (c.symm.trans cj) (by decide), fun cj => absurd (c.symm.trans cj) (by decide), fun cj => absurd (c.symm.trans cj) (by decide), fun cj => absurd (c.symm.trans cj) (by decide), fun cj => absurd (c.symm.trans cj) (by decide), fun cj => absurd (c.symm.trans cj) (by decide), fun cj => absurd (c.symm.trans cj) (by decide), fun cj => absurd (c.symm.trans cj) (by decide), fun cj => absurd (c.symm.trans cj) (by decide), fun cj => absurd (c.symm.trans cj) (by decide), fun cj => absurd (c.symm.trans cj) (by decide), fun cj => absurd (c.symm.trans cj) (by decide), fun cj => absurd (c.symm.trans cj) (by decide), fun cj => absurd (c.symm.trans cj) (by decide), fun cj => absurd (c.symm.trans cj) (by decide), fun n0 n1 n2 n3 n4 n5 n6 n7 n8 n9 n10 n11 n12 n13 n14 n15 n16 n17 n18 => absurd c n1⟩
  have c1 := c
  clear c
  by_cases c : (p1 - p1 / 20 * 20) = 2
  · refine ⟨z_enter (x_1 - x_1 / 6 * 6) (1 + ((x_1 / 60) - (x_1 / 60) / y_5 * y_5)) (1 + ((x_1 / 2400) - (x_1 / 2400) / 9999 * 9999)) ((x_1 / 7) - (x_1 / 7) / 5 * 5) u, P_enter hR hJ (x_1 - x_1 / 6 * 6) (1 + ((x_1 / 60) - (x_1 / 60) / y_5 * y_5)) (1 + ((x_1 / 2400) - (x_1 / 2400) / 9999 * 9999)) ((x_1 / 7) - (x_1 / 7) / 5 * 5), z_enter_d (x_1 - x_1 / 6 * 6) (1 + ((x_1 / 60) - (x_1 / 60) / y_5 * y_5)) (1 + ((x_1 / 2400) - (x_1 / 2400) / 9999 * 9999)) ((x_1 / 7) - (x_1 / 7) / 5 * 5) u, fun o g Q9 hg hk hu h => ?_⟩
    unfold w_L_act_J50
    refine ⟨h5, ?_⟩
    intro x_7 e7 x_8 e8 x_9 e9
    subst e7 e8 e9
    exact ⟨fun cj => absurd (c.symm.trans cj) (by decide), fun cj => absurd (c.symm.trans cj) (by decide), fun _ => ⟨hk, (fun r hr g9 hg9 hi => by subst hr; rw [hu] at hg9 ⊢; exact h g9 hg9 hi)⟩, fun cj => absurd (c.symm.trans cj) (by decide), fun cj => absurd (c.symm.trans cj) (by decide), fun cj => absurd (c.symm.trans cj) (by decide), fun cj => absurd (c.symm.trans cj) (by decide), fun cj => absurd (c.symm.trans cj) (by decide), fun cj => absurd (c.symm.trans cj) (by decide), fun cj => absurd (c.symm.trans cj) (by decide), fun cj => absurd (c.symm.trans cj) (by decide), fun cj => absurd (c.symm.trans cj) (by decide), fun cj => absurd (c.symm.trans cj) (by decide), fun cj => absurd (c.symm.trans cj) (by decide), fun cj => absurd (c.symm.trans cj) (by decide), fun cj => absurd (c.symm.trans cj) (by decide), fun cj => absurd (c.symm.trans cj) (by decide), fun cj => absurd (c.symm.trans cj) (by decide), fun cj => absurd (c.symm.trans cj) (by decide), fun n0 n1 n2 n3 n4 n5 n6 n7 n8 n9 n10 n11 n12 n13 n14 n15 n16 n17 n18 => absurd c n2⟩
  have c2 := c
  clear c
  by_cases c : (p1 - p1 / 20 * 20) = 3
  · refine ⟨z_enter (x_1 - x_1 / 6 * 6) (1 + ((x_1 / 60) - (x_1 / 60) / y_5 * y_5)) (1 + ((x_1 / 2400) - (x_1 / 2400) / 9999 * 9999)) ((x_1 / 7) - (x_1 / 7) / 5 * 5) u, P_enter hR hJ (x_1 - x_1 / 6 * 6) (1 + ((x_1 / 60) - (x_1 / 60) / y_5 * y_5)) (1 + ((x_1 / 2400) - (x_1 / 2400) / 9999 * 9999)) ((x_1 / 7) - (x_1 / 7) / 5 * 5), z_enter_d (x_1 - x_1 / 6 * 6) (1 + ((x_1 / 60) - (x_1 / 60) / y_5 * y_5)) (1 + ((x_1 / 2400) - (x_1 / 2400) / 9999 * 9999)) ((x_1 / 7) - (x_1 / 7) / 5 * 5) u, fun o g Q9 hg hk hu h => ?_⟩
    unfold w_L_act_J50
    refine ⟨h5, ?_⟩
    intro x_7 e7 x_8 e8 x_9 e9
    subst e7 e8 e9
    exact ⟨fun cj => absurd (c.symm.trans cj) (by decide), fun cj => absurd (c.symm.trans cj) (by decide), fun cj => absurd (c.symm.trans cj) (by decide), fun _ => ⟨hk, (fun r hr g9 hg9 hi => by subst hr; rw [hu] at hg9 ⊢; exact h g9 hg9 hi)⟩, fun cj => absurd (c.symm.trans cj) (by decide), fun cj => absurd (c.symm.trans cj) (by decide), fun cj => absurd (c.symm.trans cj) (by decide), fun cj => absurd (c.symm.trans cj) (by decide), fun cj => absurd (c.symm.trans cj) (by decide), fun cj => absurd (c.symm.trans cj) (by decide), fun cj => absurd (c.symm.trans cj) (by decide), fun cj => absurd (c.symm.trans cj) (by decide), fun cj => absurd (c.symm.trans cj) (by decide), fun cj => absurd (c.symm.trans cj) (by decide), fun cj => absurd (c.symm.trans cj) (by decide), fun cj => absurd (c.symm.trans cj) (by decide), fun cj => absurd (c.symm.trans cj) (by decide), fun cj => absurd (c.symm.trans cj) (by decide), fun cj => absurd (c.symm.trans cj) (by decide), fun n0 n1 n2 n3 n4 n5 n6 n7 n8 n9 n10 n11 n12 n13 n14 n15 n16 n17 n18 => absurd c n3⟩
  have c3 := c
  clear c
  by_cases c : (p1 - p1 / 20 * 20) = 4
  · refine ⟨z_tryWithdraw y_4 (1 + ((x_1 / 60) - (x_1 / 60) / y_5 * y_5)) u, P_tryWithdraw hR hJ y_4 (1 + ((x_1 / 60) - (x_1 / 60) / y_5 * y_5)), z_tryWithdraw_d y_4 (1 + ((x_1 / 60) - (x_1 / 60) / y_5 * y_5)) u, fun o g Q9 hg hk hu h => ?_⟩
    unfold w_L_act_J50
    refine ⟨h5, ?_⟩
    intro x_7 e7 x_8 e8 x_9 e9
    subst e7 e8 e9
    exact ⟨fun cj => absurd (c.symm.trans cj) (by decide), fun cj => absurd (c.symm.trans cj) (by decide), fun cj => absurd (c.symm.trans cj) (by decide), fun cj => absurd (c.symm.trans cj) (by decide), fun _ => ⟨hk, (fun r hr g9 hg9 hi => by subst hr; rw [hu] at hg9 ⊢; exact h g9 hg9 hi)⟩, fun cj => absurd (c.symm.trans cj) (by decide), fun cj => absurd (c.symm.trans cj) (by decide), fun cj => absurd (c.symm.trans cj) (by decide), fun cj => absurd (c.symm.trans cj) (by decide), fun cj => absurd (c.symm.trans cj) (by decide), fun cj => absurd (c.symm.trans cj) (by decide), fun cj => absurd (c.symm.trans cj) (by decide), fun cj => absurd (c.symm.trans cj) (by decide), fun cj => absurd (c.symm.trans cj) (by decide), fun cj => absurd (c.symm.trans cj) (by decide), fun cj => absurd (c.symm.trans cj) (by decide), fun cj => absurd (c.symm.trans cj) (by decide), fun cj => absurd (c.symm.trans cj) (by decide), fun cj => absurd (c.symm.trans cj) (by decide), fun n0 n1 n2 n3 n4 n5 n6 n7 n8 n9 n10 n11 n12 n13 n14 n15 n16 n17 n18 => absurd c n4⟩
  have c4 := c
  clear c
  by_cases c : (p1 - p1 / 20 * 20) = 5
  · refine ⟨z_tryWithdraw y_4 (1 + ((x_1 / 60) - (x_1 / 60) / y_5 * y_5)) u, P_tryWithdraw hR hJ y_4 (1 + ((x_1 / 60) - (x_1 / 60) / y_5 * y_5)), z_tryWithdraw_d y_4 (1 + ((x_1 / 60) - (x_1 / 60) / y_5 * y_5)) u, fun o g Q9 hg hk hu h => ?_⟩
    unfold w_L_act_J50
    refine ⟨h5, ?_⟩
    intro x_7 e7 x_8 e8 x_9 e9
    subst e7 e8 e9
    exact ⟨fun cj => absurd (c.symm.trans cj) (by decide), fun cj => absurd (c.symm.trans cj) (by decide), fun cj => absurd (c.symm.trans cj) (by decide), fun cj => absurd (c.symm.trans cj) (by decide), fun cj => absurd (c.symm.trans cj) (by decide), fun _ => ⟨hk, (fun r hr g9 hg9 hi => by subst hr; rw [hu] at hg9 ⊢; exact h g9 hg9 hi)⟩, fun cj => absurd (c.symm.trans cj) (by decide), fun cj => absurd (c.symm.trans cj) (by decide), fun cj => absurd (c.symm.trans cj) (by decide), fun cj => absurd (c.symm.trans cj) (by decide), fun cj => absurd (c.symm.trans cj) (by decide), fun cj => absurd (c.symm.trans cj) (by decide), fun cj => absurd (c.symm.trans cj) (by decide), fun cj => absurd (c.symm.trans cj) (by decide), fun cj => absurd (c.symm.trans cj) (by decide), fun cj => absurd (c.symm.trans cj) (by decide), fun cj => absurd (c.symm.trans cj) (by decide), fun cj => absurd (c.symm.trans cj) (by decide), fun cj => absurd (c.symm.trans cj) (by decide), fun n0 n1 n2 n3 n4 n5 n6 n7 n8 n9 n10 n11 n12 n13 n14 n15 n16 n17 n18 => absurd c n5⟩
  have c5 := c
  clear c
  by_cases c : (p1 - p1 / 20 * 20) = 6
  · refine ⟨z_trySend y_4 (1 + ((x_1 / 60) - (x_1 / 60) / y_5 * y_5)) u, P_trySend hR hJ y_4 (1 + ((x_1 / 60) - (x_1 / 60) / y_5 * y_5)), z_trySend_d y_4 (1 + ((x_1 / 60) - (x_1 / 60) / y_5 * y_5)) u, fun o g Q9 hg hk hu h => ?_⟩
    unfold w_L_act_J50
    refine ⟨h5, ?_⟩
    intro x_7 e7 x_8 e8 x_9 e9
    subst e7 e8 e9
    exact ⟨fun cj => absurd (c.symm.trans cj) (by decide), fun cj => absurd (c.symm.trans cj) (by decide), fun cj => absurd (c.symm.trans cj) (by decide), fun cj => absurd (c.symm.trans cj) (by decide), fun cj => absurd (c.symm.trans cj) (by decide), fun cj => absurd (c.symm.trans cj) (by decide), fun _ => ⟨hk, (fun r hr g9 hg9 hi => by subst hr; rw [hu] at hg9 ⊢; exact h g9 hg9 hi)⟩, fun cj => absurd (c.symm.trans cj) (by decide), fun cj => absurd (c.symm.trans cj) (by decide), fun cj => absurd (c.symm.trans cj) (by decide), fun cj => absurd (c.symm.trans cj) (by decide), fun cj => absurd (c.symm.trans cj) (by decide), fun cj => absurd (c.symm.trans cj) (by decide), fun cj => absurd (c.symm.trans cj) (by decide), fun cj => absurd (c.symm.trans cj) (by decide), fun cj => absurd (c.symm.trans cj) (by decide), fun cj => absurd (c.symm.trans cj) (by decide), fun cj => absurd (c.symm.trans cj) (by decide), fun cj => absurd (c.symm.trans cj) (by decide), fun n0 n1 n2 n3 n4 n5 n6 n7 n8 n9 n10 n11 n12 n13 n14 n15 n16 n17 n18 => absurd c n6⟩
  have c6 := c
  clear c
  by_cases c : (p1 - p1 / 20 * 20) = 7
  · refine ⟨z_tryDraw (x_1 - x_1 / 3 * 3) (1 + ((x_1 / 60) - (x_1 / 60) / y_5 * y_5)) u, P_tryDraw hR hJ (x_1 - x_1 / 3 * 3) (1 + ((x_1 / 60) - (x_1 / 60) / y_5 * y_5)), z_tryDraw_d (x_1 - x_1 / 3 * 3) (1 + ((x_1 / 60) - (x_1 / 60) / y_5 * y_5)) u, fun o g Q9 hg hk hu h => ?_⟩
    unfold w_L_act_J50
    refine ⟨h5, ?_⟩
    intro x_7 e7 x_8 e8 x_9 e9
    subst e7 e8 e9
    exact ⟨fun cj => absurd (c.symm.trans cj) (by decide), fun cj => absurd (c.symm.trans cj) (by decide), fun cj => absurd (c.symm.trans cj) (by decide), fun cj => absurd (c.symm.trans cj) (by decide), fun cj => absurd (c.symm.trans cj) (by decide), fun cj => absurd (c.symm.trans cj) (by decide), fun cj => absurd (c.symm.trans cj) (by decide), fun _ => ⟨hk, (fun r hr g9 hg9 hi => by subst hr; rw [hu] at hg9 ⊢; exact h g9 hg9 hi)⟩, fun cj => absurd (c.symm.trans cj) (by decide), fun cj => absurd (c.symm.trans cj) (by decide), fun cj => absurd (c.symm.trans cj) (by decide), fun cj => absurd (c.symm.trans cj) (by decide), fun cj => absurd (c.symm.trans cj) (by decide), fun cj => absurd (c.symm.trans cj) (by decide), fun cj => absurd (c.symm.trans cj) (by decide), fun cj => absurd (c.symm.trans cj) (by decide), fun cj => absurd (c.symm.trans cj) (by decide), fun cj => absurd (c.symm.trans cj) (by decide), fun cj => absurd (c.symm.trans cj) (by decide), fun n0 n1 n2 n3 n4 n5 n6 n7 n8 n9 n10 n11 n12 n13 n14 n15 n16 n17 n18 => absurd c n7⟩
  have c7 := c
  clear c
  by_cases c : (p1 - p1 / 20 * 20) = 8
  · refine ⟨z_tryMove y_4 ((x_1 / 7) - (x_1 / 7) / 5 * 5) u, P_tryMove hR hJ y_4 ((x_1 / 7) - (x_1 / 7) / 5 * 5), z_tryMove_d y_4 ((x_1 / 7) - (x_1 / 7) / 5 * 5) u, fun o g Q9 hg hk hu h => ?_⟩
    unfold w_L_act_J50
    refine ⟨h5, ?_⟩
    intro x_7 e7 x_8 e8 x_9 e9
    subst e7 e8 e9
    exact ⟨fun cj => absurd (c.symm.trans cj) (by decide), fun cj => absurd (c.symm.trans cj) (by decide), fun cj => absurd (c.symm.trans cj) (by decide), fun cj => absurd (c.symm.trans cj) (by decide), fun cj => absurd (c.symm.trans cj) (by decide), fun cj => absurd (c.symm.trans cj) (by decide), fun cj => absurd (c.symm.trans cj) (by decide), fun cj => absurd (c.symm.trans cj) (by decide), fun _ => ⟨hk, (fun r hr g9 hg9 hi => by subst hr; rw [hu] at hg9 ⊢; exact h g9 hg9 hi)⟩, fun cj => absurd (c.symm.trans cj) (by decide), fun cj => absurd (c.symm.trans cj) (by decide), fun cj => absurd (c.symm.trans cj) (by decide), fun cj => absurd (c.symm.trans cj) (by decide), fun cj => absurd (c.symm.trans cj) (by decide), fun cj => absurd (c.symm.trans cj) (by decide), fun cj => absurd (c.symm.trans cj) (by decide), fun cj => absurd (c.symm.trans cj) (by decide), fun cj => absurd (c.symm.trans cj) (by decide), fun cj => absurd (c.symm.trans cj) (by decide), fun n0 n1 n2 n3 n4 n5 n6 n7 n8 n9 n10 n11 n12 n13 n14 n15 n16 n17 n18 => absurd c n8⟩
  have c8 := c
  clear c
  by_cases c : (p1 - p1 / 20 * 20) = 9
  · refine ⟨z_trySplit y_4 (1 + ((x_1 / 60) - (x_1 / 60) / y_5 * y_5)) u, P_trySplit hR hJ y_4 (1 + ((x_1 / 60) - (x_1 / 60) / y_5 * y_5)), z_trySplit_d y_4 (1 + ((x_1 / 60) - (x_1 / 60) / y_5 * y_5)) u, fun o g Q9 hg hk hu h => ?_⟩
    unfold w_L_act_J50
    refine ⟨h5, ?_⟩
    intro x_7 e7 x_8 e8 x_9 e9
    subst e7 e8 e9
    exact ⟨fun cj => absurd (c.symm.trans cj) (by decide), fun cj => absurd (c.symm.trans cj) (by decide), fun cj => absurd (c.symm.trans cj) (by decide), fun cj => absurd (c.symm.trans cj) (by decide), fun cj => absurd (c.symm.trans cj) (by decide), fun cj => absurd (c.symm.trans cj) (by decide), fun cj => absurd (c.symm.trans cj) (by decide), fun cj => absurd (c.symm.trans cj) (by decide), fun cj => absurd (c.symm.trans cj) (by decide), fun _ => ⟨hk, (fun r hr g9 hg9 hi => by subst hr; rw [hu] at hg9 ⊢; exact h g9 hg9 hi)⟩, fun cj => absurd (c.symm.trans cj) (by decide), fun cj => absurd (c.symm.trans cj) (by decide), fun cj => absurd (c.symm.trans cj) (by decide), fun cj => absurd (c.symm.trans cj) (by decide), fun cj => absurd (c.symm.trans cj) (by decide), fun cj => absurd (c.symm.trans cj) (by decide), fun cj => absurd (c.symm.trans cj) (by decide), fun cj => absurd (c.symm.trans cj) (by decide), fun cj => absurd (c.symm.trans cj) (by decide), fun n0 n1 n2 n3 n4 n5 n6 n7 n8 n9 n10 n11 n12 n13 n14 n15 n16 n17 n18 => absurd c n9⟩
  have c9 := c
  clear c
  by_cases c : (p1 - p1 / 20 * 20) = 10
  · by_cases hv : v_entries u = 0
    · refine ⟨(-1, u, 0), hJ, Nat.zero_le _, fun o g Q9 hg hk hu h => ?_⟩
      unfold w_L_act_J50
      refine ⟨h5, ?_⟩
      intro x_7 e7 x_8 e8 x_9 e9
      subst e7 e8 e9
      have hid : g = gz g o (u, 0) := by rw [← hu, gz_id]
      exact ⟨fun cj => absurd (c.symm.trans cj) (by decide), fun cj => absurd (c.symm.trans cj) (by decide), fun cj => absurd (c.symm.trans cj) (by decide), fun cj => absurd (c.symm.trans cj) (by decide), fun cj => absurd (c.symm.trans cj) (by decide), fun cj => absurd (c.symm.trans cj) (by decide), fun cj => absurd (c.symm.trans cj) (by decide), fun cj => absurd (c.symm.trans cj) (by decide), fun cj => absurd (c.symm.trans cj) (by decide), fun cj => absurd (c.symm.trans cj) (by decide), fun _ => ⟨Nat.le_of_succ_le hk, fun r hr => ⟨fun hn => absurd (by rw [hr, hu]; exact hv) hn, fun _ => h g hid hg⟩⟩, fun cj => absurd (c.symm.trans cj) (by decide), fun cj => absurd (c.symm.trans cj) (by decide), fun cj => absurd (c.symm.trans cj) (by decide), fun cj => absurd (c.symm.trans cj) (by decide), fun cj => absurd (c.symm.trans cj) (by decide), fun cj => absurd (c.symm.trans cj) (by decide), fun cj => absurd (c.symm.trans cj) (by decide), fun cj => absurd (c.symm.trans cj) (by decide), fun n0 n1 n2 n3 n4 n5 n6 n7 n8 n9 n10 n11 n12 n13 n14 n15 n16 n17 n18 => absurd c n10⟩
    · refine ⟨z_tryMerge y_4 (y_tryAt ((x_1 / 64) - (x_1 / 64) / v_entries u * v_entries u) u) u, P_tryMerge hR hJ y_4 (y_tryAt ((x_1 / 64) - (x_1 / 64) / v_entries u * v_entries u) u), z_tryMerge_d y_4 (y_tryAt ((x_1 / 64) - (x_1 / 64) / v_entries u * v_entries u) u) u, fun o g Q9 hg hk hu h => ?_⟩
      unfold w_L_act_J50
      refine ⟨h5, ?_⟩
      intro x_7 e7 x_8 e8 x_9 e9
      subst e7 e8 e9
      exact ⟨fun cj => absurd (c.symm.trans cj) (by decide), fun cj => absurd (c.symm.trans cj) (by decide), fun cj => absurd (c.symm.trans cj) (by decide), fun cj => absurd (c.symm.trans cj) (by decide), fun cj => absurd (c.symm.trans cj) (by decide), fun cj => absurd (c.symm.trans cj) (by decide), fun cj => absurd (c.symm.trans cj) (by decide), fun cj => absurd (c.symm.trans cj) (by decide), fun cj => absurd (c.symm.trans cj) (by decide), fun cj => absurd (c.symm.trans cj) (by decide), fun _ => ⟨Nat.le_of_succ_le hk, fun r hr => ⟨fun _ => ⟨Nat.le_of_succ_le hk, fun r2 hr2 => ⟨by rw [hr2, hu]; exact hv, Nat.le_of_succ_le hk, fun r3 hr3 => ⟨hk, fun r4 hr4 g9 hg9 hi => by subst hr4; subst hr3; subst hr2; rw [hu] at hg9 ⊢; exact h g9 hg9 hi⟩⟩⟩, fun he => absurd (by rw [← hu, ← hr]; exact he) hv⟩⟩, fun cj => absurd (c.symm.trans cj) (by decide), fun cj => absurd (c.symm.trans cj) (by decide), fun cj => absurd (c.symm.trans cj) (by decide), fun cj => absurd (c.symm.trans cj) (by decide), fun cj => absurd (c.symm.trans cj) (by decide), fun cj => absurd (c.symm.trans cj) (by decide), fun cj => absurd (c.symm.trans cj) (by decide), fun cj => absurd (c.symm.trans cj) (by decide), fun n0 n1 n2 n3 n4 n5 n6 n7 n8 n9 n10 n11 n12 n13 n14 n15 n16 n17 n18 => absurd c n10⟩
  have c10 := c
  clear c
  by_cases c : (p1 - p1 / 20 * 20) = 11
  · refine ⟨z_tryWeigh y_4 (1 + ((x_1 / 60) - (x_1 / 60) / y_5 * y_5)) u, P_tryWeigh hR hJ y_4 (1 + ((x_1 / 60) - (x_1 / 60) / y_5 * y_5)), z_tryWeigh_d y_4 (1 + ((x_1 / 60) - (x_1 / 60) / y_5 * y_5)) u, fun o g Q9 hg hk hu h => ?_⟩
    unfold w_L_act_J50
    refine ⟨h5, ?_⟩
    intro x_7 e7 x_8 e8 x_9 e9
    subst e7 e8 e9
    exact ⟨fun cj => absurd (c.symm.trans cj) (by decide), fun cj => absurd (c.symm.trans cj) (by decide), fun cj => absurd (c.symm.trans cj) (by decide), fun cj => absurd (c.symm.trans cj) (by decide), fun cj => absurd (c.symm.trans cj) (by decide), fun cj => absurd (c.symm.trans cj) (by decide), fun cj => absurd (c.symm.trans cj) (by decide), fun cj => absurd (c.symm.trans cj) (by decide), fun cj => absurd (c.symm.trans cj) (by decide), fun cj => absurd (c.symm.trans cj) (by decide), fun cj => absurd (c.symm.trans cj) (by decide), fun _ => ⟨hk, (fun r hr g9 hg9 hi => by subst hr; rw [hu] at hg9 ⊢; exact h g9 hg9 hi)⟩, fun cj => absurd (c.symm.trans cj) (by decide), fun cj => absurd (c.symm.trans cj) (by decide), fun cj => absurd (c.symm.trans cj) (by decide), fun cj => absurd (c.symm.trans cj) (by decide), fun cj => absurd (c.symm.trans cj) (by decide), fun cj => absurd (c.symm.trans cj) (by decide), fun cj => absurd (c.symm.trans cj) (by decide), fun n0 n1 n2 n3 n4 n5 n6 n7 n8 n9 n10 n11 n12 n13 n14 n15 n16 n17 n18 => absurd c n11⟩
  have c11 := c
  clear c
  by_cases c : (p1 - p1 / 20 * 20) = 12
  · by_cases d : (x_1 - x_1 / 2 * 2) = 0
    · refine ⟨z_tryLock ((x_1 / 7) - (x_1 / 7) / 5 * 5) u, P_tryLock hR hJ ((x_1 / 7) - (x_1 / 7) / 5 * 5), z_tryLock_d ((x_1 / 7) - (x_1 / 7) / 5 * 5) u, fun o g Q9 hg hk hu h => ?_⟩
      unfold w_L_act_J50
      refine ⟨h5, ?_⟩
      intro x_7 e7 x_8 e8 x_9 e9
      subst e7 e8 e9
      exact ⟨fun cj => absurd (c.symm.trans cj) (by decide), fun cj => absurd (c.symm.trans cj) (by decide), fun cj => absurd (c.symm.trans cj) (by decide), fun cj => absurd (c.symm.trans cj) (by decide), fun cj => absurd (c.symm.trans cj) (by decide), fun cj => absurd (c.symm.trans cj) (by decide), fun cj => absurd (c.symm.trans cj) (by decide), fun cj => absurd (c.symm.trans cj) (by decide), fun cj => absurd (c.symm.trans cj) (by decide), fun cj => absurd (c.symm.trans cj) (by decide), fun cj => absurd (c.symm.trans cj) (by decide), fun cj => absurd (c.symm.trans cj) (by decide), fun _ => ⟨fun nd => absurd d nd, fun _ => ⟨hk, (fun r hr g9 hg9 hi => by subst hr; rw [hu] at hg9 ⊢; exact h g9 hg9 hi)⟩⟩, fun cj => absurd (c.symm.trans cj) (by decide), fun cj => absurd (c.symm.trans cj) (by decide), fun cj => absurd (c.symm.trans cj) (by decide), fun cj => absurd (c.symm.trans cj) (by decide), fun cj => absurd (c.symm.trans cj) (by decide), fun cj => absurd (c.symm.trans cj) (by decide), fun n0 n1 n2 n3 n4 n5 n6 n7 n8 n9 n10 n11 n12 n13 n14 n15 n16 n17 n18 => absurd c n12⟩
    · refine ⟨z_tryBreak ((x_1 / 7) - (x_1 / 7) / 5 * 5) u, P_tryBreak hR hJ ((x_1 / 7) - (x_1 / 7) / 5 * 5), z_tryBreak_d ((x_1 / 7) - (x_1 / 7) / 5 * 5) u, fun o g Q9 hg hk hu h => ?_⟩
      unfold w_L_act_J50
      refine ⟨h5, ?_⟩
      intro x_7 e7 x_8 e8 x_9 e9
      subst e7 e8 e9
      exact ⟨fun cj => absurd (c.symm.trans cj) (by decide), fun cj => absurd (c.symm.trans cj) (by decide), fun cj => absurd (c.symm.trans cj) (by decide), fun cj => absurd (c.symm.trans cj) (by decide), fun cj => absurd (c.symm.trans cj) (by decide), fun cj => absurd (c.symm.trans cj) (by decide), fun cj => absurd (c.symm.trans cj) (by decide), fun cj => absurd (c.symm.trans cj) (by decide), fun cj => absurd (c.symm.trans cj) (by decide), fun cj => absurd (c.symm.trans cj) (by decide), fun cj => absurd (c.symm.trans cj) (by decide), fun cj => absurd (c.symm.trans cj) (by decide), fun _ => ⟨fun _ => ⟨hk, (fun r hr g9 hg9 hi => by subst hr; rw [hu] at hg9 ⊢; exact h g9 hg9 hi)⟩, fun dd => absurd dd d⟩, fun cj => absurd (c.symm.trans cj) (by decide), fun cj => absurd (c.symm.trans cj) (by decide), fun cj => absurd (c.symm.trans cj) (by decide), fun cj => absurd (c.symm.trans cj) (by decide), fun cj => absurd (c.symm.trans cj) (by decide), fun cj => absurd (c.symm.trans cj) (by decide), fun n0 n1 n2 n3 n4 n5 n6 n7 n8 n9 n10 n11 n12 n13 n14 n15 n16 n17 n18 => absurd c n12⟩
  have c12 := c
  clear c
  by_cases c : (p1 - p1 / 20 * 20) = 13
  · refine ⟨z_tryOpen ((x_1 / 7) - (x_1 / 7) / 5 * 5) u, P_tryOpen hR hJ ((x_1 / 7) - (x_1 / 7) / 5 * 5), z_tryOpen_d ((x_1 / 7) - (x_1 / 7) / 5 * 5) u, fun o g Q9 hg hk hu h => ?_⟩
    unfold w_L_act_J50
    refine ⟨h5, ?_⟩
    intro x_7 e7 x_8 e8 x_9 e9
    subst e7 e8 e9
    exact ⟨fun cj => absurd (c.symm.trans cj) (by decide), fun cj => absurd (c.symm.trans cj) (by decide), fun cj => absurd (c.symm.trans cj) (by decide), fun cj => absurd (c.symm.trans cj) (by decide), fun cj => absurd (c.symm.trans cj) (by decide), fun cj => absurd (c.symm.trans cj) (by decide), fun cj => absurd (c.symm.trans cj) (by decide), fun cj => absurd (c.symm.trans cj) (by decide), fun cj => absurd (c.symm.trans cj) (by decide), fun cj => absurd (c.symm.trans cj) (by decide), fun cj => absurd (c.symm.trans cj) (by decide), fun cj => absurd (c.symm.trans cj) (by decide), fun cj => absurd (c.symm.trans cj) (by decide), fun _ => ⟨hk, (fun r hr g9 hg9 hi => by subst hr; rw [hu] at hg9 ⊢; exact h g9 hg9 hi)⟩, fun cj => absurd (c.symm.trans cj) (by decide), fun cj => absurd (c.symm.trans cj) (by decide), fun cj => absurd (c.symm.trans cj) (by decide), fun cj => absurd (c.symm.trans cj) (by decide), fun cj => absurd (c.symm.trans cj) (by decide), fun n0 n1 n2 n3 n4 n5 n6 n7 n8 n9 n10 n11 n12 n13 n14 n15 n16 n17 n18 => absurd c n13⟩
  have c13 := c
  clear c
  by_cases c : (p1 - p1 / 20 * 20) = 14
  · refine ⟨z_tryPay (1 + (x_1 - x_1 / 9999 * 9999)) u, P_tryPay hR hJ (1 + (x_1 - x_1 / 9999 * 9999)), z_tryPay_d (1 + (x_1 - x_1 / 9999 * 9999)) u, fun o g Q9 hg hk hu h => ?_⟩
    unfold w_L_act_J50
    refine ⟨h5, ?_⟩
    intro x_7 e7 x_8 e8 x_9 e9
    subst e7 e8 e9
    exact ⟨fun cj => absurd (c.symm.trans cj) (by decide), fun cj => absurd (c.symm.trans cj) (by decide), fun cj => absurd (c.symm.trans cj) (by decide), fun cj => absurd (c.symm.trans cj) (by decide), fun cj => absurd (c.symm.trans cj) (by decide), fun cj => absurd (c.symm.trans cj) (by decide), fun cj => absurd (c.symm.trans cj) (by decide), fun cj => absurd (c.symm.trans cj) (by decide), fun cj => absurd (c.symm.trans cj) (by decide), fun cj => absurd (c.symm.trans cj) (by decide), fun cj => absurd (c.symm.trans cj) (by decide), fun cj => absurd (c.symm.trans cj) (by decide), fun cj => absurd (c.symm.trans cj) (by decide), fun cj => absurd (c.symm.trans cj) (by decide), fun _ => ⟨hk, (fun r hr g9 hg9 hi => by subst hr; rw [hu] at hg9 ⊢; exact h g9 hg9 hi)⟩, fun cj => absurd (c.symm.trans cj) (by decide), fun cj => absurd (c.symm.trans cj) (by decide), fun cj => absurd (c.symm.trans cj) (by decide), fun cj => absurd (c.symm.trans cj) (by decide), fun n0 n1 n2 n3 n4 n5 n6 n7 n8 n9 n10 n11 n12 n13 n14 n15 n16 n17 n18 => absurd c n14⟩
  have c14 := c
  clear c
  by_cases c : (p1 - p1 / 20 * 20) = 15
  · refine ⟨z_trySetBond (x_1 - x_1 / 50001 * 50001) u, P_trySetBond hR hJ (x_1 - x_1 / 50001 * 50001), z_trySetBond_d (x_1 - x_1 / 50001 * 50001) u, fun o g Q9 hg hk hu h => ?_⟩
    unfold w_L_act_J50
    refine ⟨h5, ?_⟩
    intro x_7 e7 x_8 e8 x_9 e9
    subst e7 e8 e9
    exact ⟨fun cj => absurd (c.symm.trans cj) (by decide), fun cj => absurd (c.symm.trans cj) (by decide), fun cj => absurd (c.symm.trans cj) (by decide), fun cj => absurd (c.symm.trans cj) (by decide), fun cj => absurd (c.symm.trans cj) (by decide), fun cj => absurd (c.symm.trans cj) (by decide), fun cj => absurd (c.symm.trans cj) (by decide), fun cj => absurd (c.symm.trans cj) (by decide), fun cj => absurd (c.symm.trans cj) (by decide), fun cj => absurd (c.symm.trans cj) (by decide), fun cj => absurd (c.symm.trans cj) (by decide), fun cj => absurd (c.symm.trans cj) (by decide), fun cj => absurd (c.symm.trans cj) (by decide), fun cj => absurd (c.symm.trans cj) (by decide), fun cj => absurd (c.symm.trans cj) (by decide), fun _ => ⟨hk, (fun r hr g9 hg9 hi => by subst hr; rw [hu] at hg9 ⊢; exact h g9 hg9 hi)⟩, fun cj => absurd (c.symm.trans cj) (by decide), fun cj => absurd (c.symm.trans cj) (by decide), fun cj => absurd (c.symm.trans cj) (by decide), fun n0 n1 n2 n3 n4 n5 n6 n7 n8 n9 n10 n11 n12 n13 n14 n15 n16 n17 n18 => absurd c n15⟩
  have c15 := c
  clear c
  by_cases c : (p1 - p1 / 20 * 20) = 16
  · by_cases d : (x_1 - x_1 / 2 * 2) = 0
    · refine ⟨z_trySetValue (x_1 - x_1 / 6 * 6) ((x_1 / 12) - (x_1 / 12) / 61 * 61) u, P_trySetValue hR hJ (x_1 - x_1 / 6 * 6) ((x_1 / 12) - (x_1 / 12) / 61 * 61), z_trySetValue_d (x_1 - x_1 / 6 * 6) ((x_1 / 12) - (x_1 / 12) / 61 * 61) u, fun o g Q9 hg hk hu h => ?_⟩
      unfold w_L_act_J50
      refine ⟨h5, ?_⟩
      intro x_7 e7 x_8 e8 x_9 e9
      subst e7 e8 e9
      exact ⟨fun cj => absurd (c.symm.trans cj) (by decide), fun cj => absurd (c.symm.trans cj) (by decide), fun cj => absurd (c.symm.trans cj) (by decide), fun cj => absurd (c.symm.trans cj) (by decide), fun cj => absurd (c.symm.trans cj) (by decide), fun cj => absurd (c.symm.trans cj) (by decide), fun cj => absurd (c.symm.trans cj) (by decide), fun cj => absurd (c.symm.trans cj) (by decide), fun cj => absurd (c.symm.trans cj) (by decide), fun cj => absurd (c.symm.trans cj) (by decide), fun cj => absurd (c.symm.trans cj) (by decide), fun cj => absurd (c.symm.trans cj) (by decide), fun cj => absurd (c.symm.trans cj) (by decide), fun cj => absurd (c.symm.trans cj) (by decide), fun cj => absurd (c.symm.trans cj) (by decide), fun cj => absurd (c.symm.trans cj) (by decide), fun _ => ⟨fun nd => absurd d nd, fun _ => ⟨hk, (fun r hr g9 hg9 hi => by subst hr; rw [hu] at hg9 ⊢; exact h g9 hg9 hi)⟩⟩, fun cj => absurd (c.symm.trans cj) (by decide), fun cj => absurd (c.symm.trans cj) (by decide), fun n0 n1 n2 n3 n4 n5 n6 n7 n8 n9 n10 n11 n12 n13 n14 n15 n16 n17 n18 => absurd c n16⟩
    · refine ⟨z_trySetWeight (x_1 - x_1 / 6 * 6) ((x_1 / 12) - (x_1 / 12) / 81 * 81) u, P_trySetWeight hR hJ (x_1 - x_1 / 6 * 6) ((x_1 / 12) - (x_1 / 12) / 81 * 81), z_trySetWeight_d (x_1 - x_1 / 6 * 6) ((x_1 / 12) - (x_1 / 12) / 81 * 81) u, fun o g Q9 hg hk hu h => ?_⟩
      unfold w_L_act_J50
      refine ⟨h5, ?_⟩
      intro x_7 e7 x_8 e8 x_9 e9
      subst e7 e8 e9
      exact ⟨fun cj => absurd (c.symm.trans cj) (by decide), fun cj => absurd (c.symm.trans cj) (by decide), fun cj => absurd (c.symm.trans cj) (by decide), fun cj => absurd (c.symm.trans cj) (by decide), fun cj => absurd (c.symm.trans cj) (by decide), fun cj => absurd (c.symm.trans cj) (by decide), fun cj => absurd (c.symm.trans cj) (by decide), fun cj => absurd (c.symm.trans cj) (by decide), fun cj => absurd (c.symm.trans cj) (by decide), fun cj => absurd (c.symm.trans cj) (by decide), fun cj => absurd (c.symm.trans cj) (by decide), fun cj => absurd (c.symm.trans cj) (by decide), fun cj => absurd (c.symm.trans cj) (by decide), fun cj => absurd (c.symm.trans cj) (by decide), fun cj => absurd (c.symm.trans cj) (by decide), fun cj => absurd (c.symm.trans cj) (by decide), fun _ => ⟨fun _ => ⟨hk, (fun r hr g9 hg9 hi => by subst hr; rw [hu] at hg9 ⊢; exact h g9 hg9 hi)⟩, fun dd => absurd dd d⟩, fun cj => absurd (c.symm.trans cj) (by decide), fun cj => absurd (c.symm.trans cj) (by decide), fun n0 n1 n2 n3 n4 n5 n6 n7 n8 n9 n10 n11 n12 n13 n14 n15 n16 n17 n18 => absurd c n16⟩
  have c16 := c
  clear c
  by_cases c : (p1 - p1 / 20 * 20) = 17
  · refine ⟨z_tryUndo u, P_tryUndo hR hJ , z_tryUndo_d  u, fun o g Q9 hg hk hu h => ?_⟩
    unfold w_L_act_J50
    refine ⟨h5, ?_⟩
    intro x_7 e7 x_8 e8 x_9 e9
    subst e7 e8 e9
    exact ⟨fun cj => absurd (c.symm.trans cj) (by decide), fun cj => absurd (c.symm.trans cj) (by decide), fun cj => absurd (c.symm.trans cj) (by decide), fun cj => absurd (c.symm.trans cj) (by decide), fun cj => absurd (c.symm.trans cj) (by decide), fun cj => absurd (c.symm.trans cj) (by decide), fun cj => absurd (c.symm.trans cj) (by decide), fun cj => absurd (c.symm.trans cj) (by decide), fun cj => absurd (c.symm.trans cj) (by decide), fun cj => absurd (c.symm.trans cj) (by decide), fun cj => absurd (c.symm.trans cj) (by decide), fun cj => absurd (c.symm.trans cj) (by decide), fun cj => absurd (c.symm.trans cj) (by decide), fun cj => absurd (c.symm.trans cj) (by decide), fun cj => absurd (c.symm.trans cj) (by decide), fun cj => absurd (c.symm.trans cj) (by decide), fun cj => absurd (c.symm.trans cj) (by decide), fun _ => ⟨hk, (fun r hr g9 hg9 hi => by subst hr; rw [hu] at hg9 ⊢; exact h g9 hg9 hi)⟩, fun cj => absurd (c.symm.trans cj) (by decide), fun n0 n1 n2 n3 n4 n5 n6 n7 n8 n9 n10 n11 n12 n13 n14 n15 n16 n17 n18 => absurd c n17⟩
  have c17 := c
  clear c
  by_cases c : (p1 - p1 / 20 * 20) = 18
  · by_cases d : (x_1 - x_1 / 2 * 2) = 0
    · refine ⟨z_tryKeep ((x_1 / 2) - (x_1 / 2) / 2 * 2) u, P_tryKeep hR hJ ((x_1 / 2) - (x_1 / 2) / 2 * 2), z_tryKeep_d ((x_1 / 2) - (x_1 / 2) / 2 * 2) u, fun o g Q9 hg hk hu h => ?_⟩
      unfold w_L_act_J50
      refine ⟨h5, ?_⟩
      intro x_7 e7 x_8 e8 x_9 e9
      subst e7 e8 e9
      exact ⟨fun cj => absurd (c.symm.trans cj) (by decide), fun cj => absurd (c.symm.trans cj) (by decide), fun cj => absurd (c.symm.trans cj) (by decide), fun cj => absurd (c.symm.trans cj) (by decide), fun cj => absurd (c.symm.trans cj) (by decide), fun cj => absurd (c.symm.trans cj) (by decide), fun cj => absurd (c.symm.trans cj) (by decide), fun cj => absurd (c.symm.trans cj) (by decide), fun cj => absurd (c.symm.trans cj) (by decide), fun cj => absurd (c.symm.trans cj) (by decide), fun cj => absurd (c.symm.trans cj) (by decide), fun cj => absurd (c.symm.trans cj) (by decide), fun cj => absurd (c.symm.trans cj) (by decide), fun cj => absurd (c.symm.trans cj) (by decide), fun cj => absurd (c.symm.trans cj) (by decide), fun cj => absurd (c.symm.trans cj) (by decide), fun cj => absurd (c.symm.trans cj) (by decide), fun cj => absurd (c.symm.trans cj) (by decide), fun _ => ⟨fun nd => absurd d nd, fun _ => ⟨hk, (fun r hr g9 hg9 hi => by subst hr; rw [hu] at hg9 ⊢; exact h g9 hg9 hi)⟩⟩, fun n0 n1 n2 n3 n4 n5 n6 n7 n8 n9 n10 n11 n12 n13 n14 n15 n16 n17 n18 => absurd c n18⟩
    · refine ⟨z_tryBack ((x_1 / 2) - (x_1 / 2) / 2 * 2) u, P_tryBack hR hJ ((x_1 / 2) - (x_1 / 2) / 2 * 2), z_tryBack_d ((x_1 / 2) - (x_1 / 2) / 2 * 2) u, fun o g Q9 hg hk hu h => ?_⟩
      unfold w_L_act_J50
      refine ⟨h5, ?_⟩
      intro x_7 e7 x_8 e8 x_9 e9
      subst e7 e8 e9
      exact ⟨fun cj => absurd (c.symm.trans cj) (by decide), fun cj => absurd (c.symm.trans cj) (by decide), fun cj => absurd (c.symm.trans cj) (by decide), fun cj => absurd (c.symm.trans cj) (by decide), fun cj => absurd (c.symm.trans cj) (by decide), fun cj => absurd (c.symm.trans cj) (by decide), fun cj => absurd (c.symm.trans cj) (by decide), fun cj => absurd (c.symm.trans cj) (by decide), fun cj => absurd (c.symm.trans cj) (by decide), fun cj => absurd (c.symm.trans cj) (by decide), fun cj => absurd (c.symm.trans cj) (by decide), fun cj => absurd (c.symm.trans cj) (by decide), fun cj => absurd (c.symm.trans cj) (by decide), fun cj => absurd (c.symm.trans cj) (by decide), fun cj => absurd (c.symm.trans cj) (by decide), fun cj => absurd (c.symm.trans cj) (by decide), fun cj => absurd (c.symm.trans cj) (by decide), fun cj => absurd (c.symm.trans cj) (by decide), fun _ => ⟨fun _ => ⟨hk, (fun r hr g9 hg9 hi => by subst hr; rw [hu] at hg9 ⊢; exact h g9 hg9 hi)⟩, fun dd => absurd dd d⟩, fun n0 n1 n2 n3 n4 n5 n6 n7 n8 n9 n10 n11 n12 n13 n14 n15 n16 n17 n18 => absurd c n18⟩
  have c18 := c
  clear c
  refine ⟨z_tryPass (1 + (x_1 - x_1 / 100 * 100)) u, P_tryPass hR hJ (1 + (x_1 - x_1 / 100 * 100)), z_tryPass_d (1 + (x_1 - x_1 / 100 * 100)) u, fun o g Q9 hg hk hu h => ?_⟩
  unfold w_L_act_J50
  refine ⟨h5, ?_⟩
  intro x_7 e7 x_8 e8 x_9 e9
  subst e7 e8 e9
  exact ⟨fun cj => absurd cj c0, fun cj => absurd cj c1, fun cj => absurd cj c2, fun cj => absurd cj c3, fun cj => absurd cj c4, fun cj => absurd cj c5, fun cj => absurd cj c6, fun cj => absurd cj c7, fun cj => absurd cj c8, fun cj => absurd cj c9, fun cj => absurd cj c10, fun cj => absurd cj c11, fun cj => absurd cj c12, fun cj => absurd cj c13, fun cj => absurd cj c14, fun cj => absurd cj c15, fun cj => absurd cj c16, fun cj => absurd cj c17, fun cj => absurd cj c18, fun _ _ _ _ _ _ _ _ _ _ _ _ _ _ _ _ _ _ _ => ⟨hk, (fun r hr g9 hg9 hi => by subst hr; rw [hu] at hg9 ⊢; exact h g9 hg9 hi)⟩⟩
theorem L_act30 (hR : RelN k mc u) (hJ : JP u) (p1 x_1 y_4 : Int32) : Act1 u (fun o g Q9 => w_L_act_J30 o p1 g Q9 x_1 y_4) := by
  by_cases d : (x_1 - x_1 / 3 * 3) = 0
  · obtain ⟨z, h1, h2, h3⟩ := L_act50 hR hJ p1 x_1 y_4 400 (by decide)
    exact ⟨z, h1, h2, fun o g Q9 hg hk hu h => ⟨fun n => absurd d n, fun _ => h3 o g Q9 hg hk hu h⟩⟩
  · obtain ⟨z, h1, h2, h3⟩ := L_act50 hR hJ p1 x_1 y_4 40 (by decide)
    exact ⟨z, h1, h2, fun o g Q9 hg hk hu h => ⟨fun _ => h3 o g Q9 hg hk hu h, fun n => absurd n d⟩⟩
theorem L_act (hR : RelN k mc u) (hJ : JP u) (p1 : Int32) : Act1 u (fun o g Q9 => w_L_act o p1 g Q9) := by
  by_cases hv : v_entries u = 0
  · obtain ⟨z, h1, h2, h3⟩ := L_act30 hR hJ p1 (p1 / 20) 0
    refine ⟨z, h1, h2, fun o g Q9 hg hk hu h => ?_⟩
    intro x_1 e1
    subst e1
    exact ⟨Nat.le_of_succ_le hk, fun r hr => ⟨fun hn => absurd (by rw [hr, hu]; exact hv) hn, fun _ => h3 o g Q9 hg hk hu h⟩⟩
  · obtain ⟨z, h1, h2, h3⟩ := L_act30 hR hJ p1 (p1 / 20) (y_tryAt ((p1 / 20) - (p1 / 20) / v_entries u * v_entries u) u)
    refine ⟨z, h1, h2, fun o g Q9 hg hk hu h => ?_⟩
    intro x_1 e1
    subst e1
    refine ⟨Nat.le_of_succ_le hk, fun r hr => ⟨fun _ => ⟨Nat.le_of_succ_le hk, fun r2 hr2 => ⟨by rw [hr2, hu]; exact hv, Nat.le_of_succ_le hk, fun r3 hr3 => ?_⟩⟩, fun he => absurd (by rw [← hu, ← hr]; exact he) hv⟩⟩
    subst hr3
    subst hr2
    rw [hu]
    exact h3 o g Q9 hg hk hu h
end LACT
