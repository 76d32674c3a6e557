section SEM4
def sv (mm : Mm) (k j : Nat) : Int32 := mm.1 33 1 (246 * k + j)
def kp (mm : Mm) (k j : Nat) : Int32 := mm.1 34 1 (246 * k + j)
/-- the saved states and the snapshots -/
def HR (a s : Nat) (mc mm : Mm) : Prop :=
  rng (mc.1 12 1 1) 5 ∧ rng (mc.1 12 1 2) 6 ∧ mm.1 30 1 5 = mc.1 12 1 2 ∧
  (∀ k, k < (mc.1 12 1 2).toNatClampNeg → RS mc (((mc.1 12 1 1).toNatClampNeg + k) % 6 + 2) (sv mm k) ∧ Inv a s (sv mm k)) ∧
  (∀ k, k < 2 → mm.1 35 1 k = mc.1 15 1 k ∧ isB (mc.1 15 1 k) ∧ (¬ mc.1 15 1 k = 0 → RS mc (k + 8) (kp mm k) ∧ Inv a s (kp mm k))) ∧
  (∀ i, 1 ≤ i → i ≤ 9 → RSp mc i)
/-- the buffer -/
def JR (mc mm : Mm) : Prop := mm.1 30 1 2 = mc.1 17 1 1 ∧ rng (mc.1 17 1 1) 60 ∧ ∀ j, j < (mc.1 17 1 1).toNatClampNeg → mm.1 31 1 j = mc.1 18 1 j
def Rel (a s : Nat) (mc mm : Mm) : Prop := RS mc 1 (mm.1 32 1) ∧ Inv a s (mm.1 32 1) ∧ HR a s mc mm ∧ mc.1 12 1 5 = 0 ∧ JR mc mm
theorem Rel.rs {a s : Nat} {mc mm : Mm} (h : Rel a s mc mm) : RS mc 1 (mm.1 32 1) := h.1
theorem Rel.inv {a s : Nat} {mc mm : Mm} (h : Rel a s mc mm) : Inv a s (mm.1 32 1) := h.2.1
theorem Inv.mono {a s a' s' : Nat} {f : Nat → Int32} (h : Inv a s f) (ha : a ≤ a') (hs : s ≤ s') (hb : a' < 1000000000 ∧ s' < 1000000) : Inv a' s' f := by
  obtain ⟨h1, h2, h3, h4, h5, h6, h7, h8, h9, h10, h11, h12, h13, h14⟩ := h
  exact ⟨h1, h2, h3.mono hs, h4.mono ha, h5, h6, h7, h8, h9, h10, h11, h12, h13, hb⟩
theorem Rel.mono {a s a' s' : Nat} {mc mm : Mm} (h : Rel a s mc mm) (ha : a ≤ a') (hs : s ≤ s') (hb : a' < 1000000000 ∧ s' < 1000000) : Rel a' s' mc mm := by
  obtain ⟨h1, h2, ⟨g1, g2, g3, g4, g5, g6⟩, h4, h5⟩ := h
  exact ⟨h1, h2.mono ha hs hb, ⟨g1, g2, g3, fun k hk => ⟨(g4 k hk).1, (g4 k hk).2.mono ha hs hb⟩, fun k hk => ⟨(g5 k hk).1, (g5 k hk).2.1, fun q => ⟨((g5 k hk).2.2 q).1, ((g5 k hk).2.2 q).2.mono ha hs hb⟩⟩, g6⟩, h4, h5⟩
/-- what of the reference's memory matters -/
theorem Rel.mm {a s : Nat} {mc mm mm' : Mm} (h : Rel a s mc mm) (e32 : mm'.1 32 1 = mm.1 32 1) (e33 : mm'.1 33 1 = mm.1 33 1) (e34 : mm'.1 34 1 = mm.1 34 1) (e35 : mm'.1 35 1 = mm.1 35 1) (e31 : mm'.1 31 1 = mm.1 31 1) (e5 : mm'.1 30 1 5 = mm.1 30 1 5) (e2 : mm'.1 30 1 2 = mm.1 30 1 2) : Rel a s mc mm' := by
  have s1 : ∀ k, sv mm' k = sv mm k := fun k => by unfold sv; rw [e33]
  have s2 : ∀ k, kp mm' k = kp mm k := fun k => by unfold kp; rw [e34]
  unfold Rel HR JR at h ⊢
  simp only [e32, e35, e31, e5, e2, s1, s2]
  exact h
theorem now_ref {mm : Mm} {q : Nat} {v : Int32} : (sI mm 30 1 q v).1 32 1 = mm.1 32 1 := rfl
theorem ref_ref {mm : Mm} {q : Nat} {v : Int32} : (sI mm 30 1 q v).1 30 1 q = v := by
  show (if 30 = 30 ∧ 1 = 1 ∧ q = q then v else _) = v
  rw [if_pos ⟨rfl, rfl, rfl⟩]
theorem ref_ne {mm : Mm} {q q' : Nat} {v : Int32} (h : ¬ q' = q) : (sI mm 30 1 q v).1 30 1 q' = mm.1 30 1 q' := by
  show (if 30 = 30 ∧ 1 = 1 ∧ q' = q then v else _) = _
  rw [if_neg (fun e => h e.2.2)]
theorem Rel.ref {a s : Nat} {mc mm : Mm} (h : Rel a s mc mm) (v : Int32) : Rel a s mc (sI mm 30 1 0 v) :=
  h.mm rfl rfl rfl rfl rfl (ref_ne (by decide)) (ref_ne (by decide))
theorem m_ref0 (mm : Mm) (Q : Int32 → Mm → Prop) : w_X10_refused 0 mm Q ↔ Q 0 (sI mm 30 1 0 0) := by
  unfold w_X10_refused
  simp only [forall_eq, show (0 : Int32) ≤ 0 by decide, not_true_eq_false, not_false_eq_true, false_implies, true_implies, true_and, and_true, forall_eq, if_true, if_false, reduceIte]
theorem m_ref1 (mm : Mm) (Q : Int32 → Mm → Prop) : w_X10_refused 1 mm Q ↔ Q 1 (sI mm 30 1 0 1) := by
  unfold w_X10_refused
  simp only [forall_eq, show ¬ (1 : Int32) ≤ 0 by decide, not_true_eq_false, not_false_eq_true, false_implies, true_implies, true_and, and_true, forall_eq, if_true, if_false, reduceIte]
theorem m_ref2 (mm : Mm) (Q : Int32 → Mm → Prop) : w_X10_refused 2 mm Q ↔ Q 1 (sI mm 30 1 0 2) := by
  unfold w_X10_refused
  simp only [forall_eq, show ¬ (2 : Int32) ≤ 0 by decide, not_true_eq_false, not_false_eq_true, false_implies, true_implies, true_and, and_true, forall_eq, if_true, if_false, reduceIte]
theorem m_ref3 (mm : Mm) (Q : Int32 → Mm → Prop) : w_X10_refused 3 mm Q ↔ Q 1 (sI mm 30 1 0 3) := by
  unfold w_X10_refused
  simp only [forall_eq, show ¬ (3 : Int32) ≤ 0 by decide, not_true_eq_false, not_false_eq_true, false_implies, true_implies, true_and, and_true, forall_eq, if_true, if_false, reduceIte]
theorem m_told (x : Int32) (mm : Mm) (Q : Int32 → Mm → Prop) : w_X10_told x mm Q ↔ Q x (sI mm 30 1 0 0) := by
  unfold w_X10_told
  simp only [forall_eq]
/-- the reference, asked: the answer r, no refusal -/
def jq (W : (Int32 → Mm → Prop) → Prop) (K : Mm → Prop) (r : Int32) : Prop := W (fun b m' => m'.1 30 1 0 = 0 ∧ b = r ∧ K m')
def jn (W : (Int32 → Mm → Prop) → Prop) (K : Mm → Prop) (r : Int32) : Prop := W (fun b m' => b = r ∧ K m')
/-- the reference refuses by number x -/
def jx (W : (Int32 → Mm → Prop) → Prop) (K : Mm → Prop) (x : Int32) : Prop := W (fun _ m' => m'.1 30 1 0 = x ∧ K m')
/-- the number of an exception, by the list of those that a method throws -/
def xA (k : Nat) : Int32 := nI k
def xB (k : Nat) : Int32 := nI (k - 1)
def xC (k : Nat) : Int32 := if k = 3 then 2 else 1
theorem xA1 : xA 1 = 1 := rfl
theorem xA2 : xA 2 = 2 := rfl
theorem xA3 : xA 3 = 3 := rfl
theorem xB2 : xB 2 = 1 := rfl
theorem xB3 : xB 3 = 2 := rfl
theorem xC1 : xC 1 = 1 := rfl
theorem xC3 : xC 3 = 2 := rfl
/-- which exceptions a call may throw, by number -/
def oK (l : List Nat) (k : Nat) : Prop := k ∈ l
theorem oK_1_1 : oK [1] 1 = True := eq_true (by unfold oK; decide)
theorem oK_12_1 : oK [1, 2] 1 = True := eq_true (by unfold oK; decide)
theorem oK_12_2 : oK [1, 2] 2 = True := eq_true (by unfold oK; decide)
theorem oK_123_1 : oK [1, 2, 3] 1 = True := eq_true (by unfold oK; decide)
theorem oK_123_2 : oK [1, 2, 3] 2 = True := eq_true (by unfold oK; decide)
theorem oK_123_3 : oK [1, 2, 3] 3 = True := eq_true (by unfold oK; decide)
theorem oK_13_1 : oK [1, 3] 1 = True := eq_true (by unfold oK; decide)
theorem oK_13_3 : oK [1, 3] 3 = True := eq_true (by unfold oK; decide)
theorem oK_2_2 : oK [2] 2 = True := eq_true (by unfold oK; decide)
theorem oK_23_2 : oK [2, 3] 2 = True := eq_true (by unfold oK; decide)
theorem oK_23_3 : oK [2, 3] 3 = True := eq_true (by unfold oK; decide)
theorem oK_3_3 : oK [3] 3 = True := eq_true (by unfold oK; decide)
variable {a s : Nat} {mc mm : Mm} {K : Mm → Mm → Prop}
theorem z31 : ¬ (3 : Int32) = 0 := by decide
theorem J_day (h : Rel a s mc mm) (hK : ∀ v, K mc (sI mm 30 1 0 v)) : w_X9_day mc (fun r => jn (w_X10_day mm) (K mc) r) := by
  have hR := h.rs
  simp only [w_X9_day, jn, w_X10_day, m_told, hR.day, hR.opn, hR.made, hR.recs, hR.bond, hR.acct, hR.debt, hR.deps, hR.duts, hR.chgs, hR.drws, hK, implies_true, z10, z21, z31, m_ref0, m_ref1, m_ref2, m_ref3, now_ref, ref_ref, hK, xA1, xA2, xB2, xC1, oK_1_1, oK_12_1, oK_12_2, oK_123_1, oK_123_2, oK_123_3, oK_13_1, oK_13_3, oK_2_2, oK_23_2, oK_23_3, oK_3_3, isB0, isB1, and_self, ne_eq, eq_self, not_true_eq_false, not_false_eq_true, false_implies, true_implies, true_and, and_true, forall_eq, if_true, if_false, reduceIte]
theorem J_entries (h : Rel a s mc mm) (hK : ∀ v, K mc (sI mm 30 1 0 v)) : w_X9_entries mc (fun r => jn (w_X10_entries mm) (K mc) r) := by
  have hR := h.rs
  simp only [w_X9_entries, jn, w_X10_entries, m_told, hR.day, hR.opn, hR.made, hR.recs, hR.bond, hR.acct, hR.debt, hR.deps, hR.duts, hR.chgs, hR.drws, hK, implies_true, z10, z21, z31, m_ref0, m_ref1, m_ref2, m_ref3, now_ref, ref_ref, hK, xA1, xA2, xB2, xC1, oK_1_1, oK_12_1, oK_12_2, oK_123_1, oK_123_2, oK_123_3, oK_13_1, oK_13_3, oK_2_2, oK_23_2, oK_23_3, oK_3_3, isB0, isB1, and_self, ne_eq, eq_self, not_true_eq_false, not_false_eq_true, false_implies, true_implies, true_and, and_true, forall_eq, if_true, if_false, reduceIte]
theorem J_entriesMade (h : Rel a s mc mm) (hK : ∀ v, K mc (sI mm 30 1 0 v)) : w_X9_entriesMade mc (fun r => jn (w_X10_entriesMade mm) (K mc) r) := by
  have hR := h.rs
  simp only [w_X9_entriesMade, jn, w_X10_entriesMade, m_told, hR.day, hR.opn, hR.made, hR.recs, hR.bond, hR.acct, hR.debt, hR.deps, hR.duts, hR.chgs, hR.drws, hK, implies_true, z10, z21, z31, m_ref0, m_ref1, m_ref2, m_ref3, now_ref, ref_ref, hK, xA1, xA2, xB2, xC1, oK_1_1, oK_12_1, oK_12_2, oK_123_1, oK_123_2, oK_123_3, oK_13_1, oK_13_3, oK_2_2, oK_23_2, oK_23_3, oK_3_3, isB0, isB1, and_self, ne_eq, eq_self, not_true_eq_false, not_false_eq_true, false_implies, true_implies, true_and, and_true, forall_eq, if_true, if_false, reduceIte]
theorem J_receipts (h : Rel a s mc mm) (hK : ∀ v, K mc (sI mm 30 1 0 v)) : w_X9_receipts mc (fun r => jn (w_X10_receipts mm) (K mc) r) := by
  have hR := h.rs
  simp only [w_X9_receipts, jn, w_X10_receipts, m_told, hR.day, hR.opn, hR.made, hR.recs, hR.bond, hR.acct, hR.debt, hR.deps, hR.duts, hR.chgs, hR.drws, hK, implies_true, z10, z21, z31, m_ref0, m_ref1, m_ref2, m_ref3, now_ref, ref_ref, hK, xA1, xA2, xB2, xC1, oK_1_1, oK_12_1, oK_12_2, oK_123_1, oK_123_2, oK_123_3, oK_13_1, oK_13_3, oK_2_2, oK_23_2, oK_23_3, oK_3_3, isB0, isB1, and_self, ne_eq, eq_self, not_true_eq_false, not_false_eq_true, false_implies, true_implies, true_and, and_true, forall_eq, if_true, if_false, reduceIte]
theorem J_bond (h : Rel a s mc mm) (hK : ∀ v, K mc (sI mm 30 1 0 v)) : w_X9_bond mc (fun r => jn (w_X10_bond mm) (K mc) r) := by
  have hR := h.rs
  simp only [w_X9_bond, jn, w_X10_bond, m_told, hR.day, hR.opn, hR.made, hR.recs, hR.bond, hR.acct, hR.debt, hR.deps, hR.duts, hR.chgs, hR.drws, hK, implies_true, z10, z21, z31, m_ref0, m_ref1, m_ref2, m_ref3, now_ref, ref_ref, hK, xA1, xA2, xB2, xC1, oK_1_1, oK_12_1, oK_12_2, oK_123_1, oK_123_2, oK_123_3, oK_13_1, oK_13_3, oK_2_2, oK_23_2, oK_23_3, oK_3_3, isB0, isB1, and_self, ne_eq, eq_self, not_true_eq_false, not_false_eq_true, false_implies, true_implies, true_and, and_true, forall_eq, if_true, if_false, reduceIte]
theorem J_account (h : Rel a s mc mm) (hK : ∀ v, K mc (sI mm 30 1 0 v)) : w_X9_account mc (fun r => jn (w_X10_account mm) (K mc) r) := by
  have hR := h.rs
  simp only [w_X9_account, jn, w_X10_account, m_told, hR.day, hR.opn, hR.made, hR.recs, hR.bond, hR.acct, hR.debt, hR.deps, hR.duts, hR.chgs, hR.drws, hK, implies_true, z10, z21, z31, m_ref0, m_ref1, m_ref2, m_ref3, now_ref, ref_ref, hK, xA1, xA2, xB2, xC1, oK_1_1, oK_12_1, oK_12_2, oK_123_1, oK_123_2, oK_123_3, oK_13_1, oK_13_3, oK_2_2, oK_23_2, oK_23_3, oK_3_3, isB0, isB1, and_self, ne_eq, eq_self, not_true_eq_false, not_false_eq_true, false_implies, true_implies, true_and, and_true, forall_eq, if_true, if_false, reduceIte]
theorem J_debt (h : Rel a s mc mm) (hK : ∀ v, K mc (sI mm 30 1 0 v)) : w_X9_debt mc (fun r => jn (w_X10_debt mm) (K mc) r) := by
  have hR := h.rs
  simp only [w_X9_debt, jn, w_X10_debt, m_told, hR.day, hR.opn, hR.made, hR.recs, hR.bond, hR.acct, hR.debt, hR.deps, hR.duts, hR.chgs, hR.drws, hK, implies_true, z10, z21, z31, m_ref0, m_ref1, m_ref2, m_ref3, now_ref, ref_ref, hK, xA1, xA2, xB2, xC1, oK_1_1, oK_12_1, oK_12_2, oK_123_1, oK_123_2, oK_123_3, oK_13_1, oK_13_3, oK_2_2, oK_23_2, oK_23_3, oK_3_3, isB0, isB1, and_self, ne_eq, eq_self, not_true_eq_false, not_false_eq_true, false_implies, true_implies, true_and, and_true, forall_eq, if_true, if_false, reduceIte]
theorem J_balance (h : Rel a s mc mm) (hK : ∀ v, K mc (sI mm 30 1 0 v)) : w_X9_balance mc (fun r => jn (w_X10_balance mm) (K mc) r) := by
  have hR := h.rs
  simp only [w_X9_balance, jn, w_X10_balance, m_told, hR.day, hR.opn, hR.made, hR.recs, hR.bond, hR.acct, hR.debt, hR.deps, hR.duts, hR.chgs, hR.drws, hK, implies_true, z10, z21, z31, m_ref0, m_ref1, m_ref2, m_ref3, now_ref, ref_ref, hK, xA1, xA2, xB2, xC1, oK_1_1, oK_12_1, oK_12_2, oK_123_1, oK_123_2, oK_123_3, oK_13_1, oK_13_3, oK_2_2, oK_23_2, oK_23_3, oK_3_3, isB0, isB1, and_self, ne_eq, eq_self, not_true_eq_false, not_false_eq_true, false_implies, true_implies, true_and, and_true, forall_eq, if_true, if_false, reduceIte]
theorem J_balanceByTotals (h : Rel a s mc mm) (hK : ∀ v, K mc (sI mm 30 1 0 v)) : w_X9_balanceByTotals mc (fun r => jn (w_X10_balanceByTotals mm) (K mc) r) := by
  have hR := h.rs
  simp only [w_X9_balanceByTotals, jn, w_X10_balanceByTotals, m_told, hR.day, hR.opn, hR.made, hR.recs, hR.bond, hR.acct, hR.debt, hR.deps, hR.duts, hR.chgs, hR.drws, hK, implies_true, z10, z21, z31, m_ref0, m_ref1, m_ref2, m_ref3, now_ref, ref_ref, hK, xA1, xA2, xB2, xC1, oK_1_1, oK_12_1, oK_12_2, oK_123_1, oK_123_2, oK_123_3, oK_13_1, oK_13_3, oK_2_2, oK_23_2, oK_23_3, oK_3_3, isB0, isB1, and_self, ne_eq, eq_self, not_true_eq_false, not_false_eq_true, false_implies, true_implies, true_and, and_true, forall_eq, if_true, if_false, reduceIte]
theorem J_deposits (h : Rel a s mc mm) (hK : ∀ v, K mc (sI mm 30 1 0 v)) : w_X9_deposits mc (fun r => jn (w_X10_deposits mm) (K mc) r) := by
  have hR := h.rs
  simp only [w_X9_deposits, jn, w_X10_deposits, m_told, hR.day, hR.opn, hR.made, hR.recs, hR.bond, hR.acct, hR.debt, hR.deps, hR.duts, hR.chgs, hR.drws, hK, implies_true, z10, z21, z31, m_ref0, m_ref1, m_ref2, m_ref3, now_ref, ref_ref, hK, xA1, xA2, xB2, xC1, oK_1_1, oK_12_1, oK_12_2, oK_123_1, oK_123_2, oK_123_3, oK_13_1, oK_13_3, oK_2_2, oK_23_2, oK_23_3, oK_3_3, isB0, isB1, and_self, ne_eq, eq_self, not_true_eq_false, not_false_eq_true, false_implies, true_implies, true_and, and_true, forall_eq, if_true, if_false, reduceIte]
theorem J_dutiesPaid (h : Rel a s mc mm) (hK : ∀ v, K mc (sI mm 30 1 0 v)) : w_X9_dutiesPaid mc (fun r => jn (w_X10_dutiesPaid mm) (K mc) r) := by
  have hR := h.rs
  simp only [w_X9_dutiesPaid, jn, w_X10_dutiesPaid, m_told, hR.day, hR.opn, hR.made, hR.recs, hR.bond, hR.acct, hR.debt, hR.deps, hR.duts, hR.chgs, hR.drws, hK, implies_true, z10, z21, z31, m_ref0, m_ref1, m_ref2, m_ref3, now_ref, ref_ref, hK, xA1, xA2, xB2, xC1, oK_1_1, oK_12_1, oK_12_2, oK_123_1, oK_123_2, oK_123_3, oK_13_1, oK_13_3, oK_2_2, oK_23_2, oK_23_3, oK_3_3, isB0, isB1, and_self, ne_eq, eq_self, not_true_eq_false, not_false_eq_true, false_implies, true_implies, true_and, and_true, forall_eq, if_true, if_false, reduceIte]
theorem J_charges (h : Rel a s mc mm) (hK : ∀ v, K mc (sI mm 30 1 0 v)) : w_X9_charges mc (fun r => jn (w_X10_charges mm) (K mc) r) := by
  have hR := h.rs
  simp only [w_X9_charges, jn, w_X10_charges, m_told, hR.day, hR.opn, hR.made, hR.recs, hR.bond, hR.acct, hR.debt, hR.deps, hR.duts, hR.chgs, hR.drws, hK, implies_true, z10, z21, z31, m_ref0, m_ref1, m_ref2, m_ref3, now_ref, ref_ref, hK, xA1, xA2, xB2, xC1, oK_1_1, oK_12_1, oK_12_2, oK_123_1, oK_123_2, oK_123_3, oK_13_1, oK_13_3, oK_2_2, oK_23_2, oK_23_3, oK_3_3, isB0, isB1, and_self, ne_eq, eq_self, not_true_eq_false, not_false_eq_true, false_implies, true_implies, true_and, and_true, forall_eq, if_true, if_false, reduceIte]
theorem J_drawbacks (h : Rel a s mc mm) (hK : ∀ v, K mc (sI mm 30 1 0 v)) : w_X9_drawbacks mc (fun r => jn (w_X10_drawbacks mm) (K mc) r) := by
  have hR := h.rs
  simp only [w_X9_drawbacks, jn, w_X10_drawbacks, m_told, hR.day, hR.opn, hR.made, hR.recs, hR.bond, hR.acct, hR.debt, hR.deps, hR.duts, hR.chgs, hR.drws, hK, implies_true, z10, z21, z31, m_ref0, m_ref1, m_ref2, m_ref3, now_ref, ref_ref, hK, xA1, xA2, xB2, xC1, oK_1_1, oK_12_1, oK_12_2, oK_123_1, oK_123_2, oK_123_3, oK_13_1, oK_13_3, oK_2_2, oK_23_2, oK_23_3, oK_3_3, isB0, isB1, and_self, ne_eq, eq_self, not_true_eq_false, not_false_eq_true, false_implies, true_implies, true_and, and_true, forall_eq, if_true, if_false, reduceIte]
theorem J_dutyAtStake (h : Rel a s mc mm) (hK : ∀ v, K mc (sI mm 30 1 0 v)) : w_X9_dutyAtStake mc (fun r => jn (w_X10_dutyAtStake mm) (K mc) r) := by
  simp only [w_X9_dutyAtStake, jn, w_X10_dutyAtStake, c_stake h.rs h.inv i1, m_stake h.inv, m_told, implies_true, z10, z21, z31, m_ref0, m_ref1, m_ref2, m_ref3, now_ref, ref_ref, hK, xA1, xA2, xB2, xC1, oK_1_1, oK_12_1, oK_12_2, oK_123_1, oK_123_2, oK_123_3, oK_13_1, oK_13_3, oK_2_2, oK_23_2, oK_23_3, oK_3_3, isB0, isB1, and_self, ne_eq, eq_self, not_true_eq_false, not_false_eq_true, false_implies, true_implies, true_and, and_true, forall_eq, if_true, if_false, reduceIte]
theorem J_savedStates (h : Rel a s mc mm) (hK : ∀ v, K mc (sI mm 30 1 0 v)) : w_X9_savedStates mc (fun r => jn (w_X10_savedStates mm) (K mc) r) := by
  simp only [w_X9_savedStates, jn, w_X10_savedStates, ref_ne (show ¬ 5 = 0 by decide), h.2.2.1.2.2.1, implies_true, z10, z21, z31, m_ref0, m_ref1, m_ref2, m_ref3, now_ref, ref_ref, hK, xA1, xA2, xB2, xC1, oK_1_1, oK_12_1, oK_12_2, oK_123_1, oK_123_2, oK_123_3, oK_13_1, oK_13_3, oK_2_2, oK_23_2, oK_23_3, oK_3_3, isB0, isB1, and_self, ne_eq, eq_self, not_true_eq_false, not_false_eq_true, false_implies, true_implies, true_and, and_true, forall_eq, if_true, if_false, reduceIte]
theorem J_isOpenEntry (h : Rel a s mc mm) (hK : ∀ v, K mc (sI mm 30 1 0 v)) (p : Int32) : w_X9_isOpenEntry p mc (fun r => jn (w_X10_isOpenEntry p mm) (K mc) r) := by
  have hI0 : Inv a s ((sI mm 30 1 0 0).1 32 1) := h.inv
  simp only [w_X9_isOpenEntry, jn, w_X10_isOpenEntry, c_findEntry h.rs h.inv i1, forall_eq, m_find hI0, now_ref]
  by_cases hF : fiE (mm.1 32 1) p < mo (mm.1 32 1)
  · have h6 : fiE (mm.1 32 1) p < 16 := Nat.lt_of_lt_of_le hF h.inv.mo16
    have hn : ¬ nI (fiE (mm.1 32 1) p) = (-1) := nI_nm1 (by omega)
    simp only [hF, hn, h.rs.ne0 h6, implies_true, z10, z21, z31, m_ref0, m_ref1, m_ref2, m_ref3, now_ref, ref_ref, hK, xA1, xA2, xB2, xC1, oK_1_1, oK_12_1, oK_12_2, oK_123_1, oK_123_2, oK_123_3, oK_13_1, oK_13_3, oK_2_2, oK_23_2, oK_23_3, oK_3_3, isB0, isB1, and_self, ne_eq, eq_self, not_true_eq_false, not_false_eq_true, false_implies, true_implies, true_and, and_true, forall_eq, if_true, if_false, reduceIte]
  · simp only [hF, implies_true, z10, z21, z31, m_ref0, m_ref1, m_ref2, m_ref3, now_ref, ref_ref, hK, xA1, xA2, xB2, xC1, oK_1_1, oK_12_1, oK_12_2, oK_123_1, oK_123_2, oK_123_3, oK_13_1, oK_13_3, oK_2_2, oK_23_2, oK_23_3, oK_3_3, isB0, isB1, and_self, ne_eq, eq_self, not_true_eq_false, not_false_eq_true, false_implies, true_implies, true_and, and_true, forall_eq, if_true, if_false, reduceIte]
theorem J_kindOf (h : Rel a s mc mm) (hK : ∀ v, K mc (sI mm 30 1 0 v)) (p : Int32) : w_X9_kindOf p mc (fun r => jq (w_X10_kindOf p mm) (K mc) r) (fun k0 m1 => oK [1] k0 ∧ jx (w_X10_kindOf p mm) (K m1) (xA k0)) := by
  have hR := h.rs
  have hI := h.inv
  have hd := hI.day
  simp only [w_X9_kindOf, w_X9_entryNumbered, c_findEntry hR hI i1, w_X10_kindOf, w_X10_tells, m_find hI, jq, jx]
  by_cases hF : fiE (mm.1 32 1) p < mo (mm.1 32 1)
  · have h6 : fiE (mm.1 32 1) p < 16 := Nat.lt_of_lt_of_le hF hI.mo16
    have hn : ¬ nI (fiE (mm.1 32 1) p) = (-1) := nI_nm1 (by omega)
    have hE := hI.ent _ hF
    have hE0 : EI ((sI mm 30 1 0 0).1 32 1) (fiE (mm.1 32 1) p) := hE
    have hI0 : Inv a s ((sI mm 30 1 0 0).1 32 1) := hI
    have hd0 : rng ((sI mm 30 1 0 0).1 32 1 0) 9999 := hd
    simp only [hF, hn, hR.ne0 h6, hR.oke i1 h6, hR.e1 hF, m_of1 h6, implies_true, z10, z21, z31, m_ref0, m_ref1, m_ref2, m_ref3, now_ref, ref_ref, hK, xA1, xA2, xB2, xC1, oK_1_1, oK_12_1, oK_12_2, oK_123_1, oK_123_2, oK_123_3, oK_13_1, oK_13_3, oK_2_2, oK_23_2, oK_23_3, oK_3_3, isB0, isB1, and_self, ne_eq, eq_self, not_true_eq_false, not_false_eq_true, false_implies, true_implies, true_and, and_true, forall_eq, if_true, if_false, reduceIte]
  · simp only [hF, implies_true, z10, z21, z31, m_ref0, m_ref1, m_ref2, m_ref3, now_ref, ref_ref, hK, xA1, xA2, xB2, xC1, oK_1_1, oK_12_1, oK_12_2, oK_123_1, oK_123_2, oK_123_3, oK_13_1, oK_13_3, oK_2_2, oK_23_2, oK_23_3, oK_3_3, isB0, isB1, and_self, ne_eq, eq_self, not_true_eq_false, not_false_eq_true, false_implies, true_implies, true_and, and_true, forall_eq, if_true, if_false, reduceIte]
theorem J_weightOf (h : Rel a s mc mm) (hK : ∀ v, K mc (sI mm 30 1 0 v)) (p : Int32) : w_X9_weightOf p mc (fun r => jq (w_X10_weightOf p mm) (K mc) r) (fun k0 m1 => oK [1] k0 ∧ jx (w_X10_weightOf p mm) (K m1) (xA k0)) := by
  have hR := h.rs
  have hI := h.inv
  have hd := hI.day
  simp only [w_X9_weightOf, w_X9_entryNumbered, c_findEntry hR hI i1, w_X10_weightOf, w_X10_tells, m_find hI, jq, jx]
  by_cases hF : fiE (mm.1 32 1) p < mo (mm.1 32 1)
  · have h6 : fiE (mm.1 32 1) p < 16 := Nat.lt_of_lt_of_le hF hI.mo16
    have hn : ¬ nI (fiE (mm.1 32 1) p) = (-1) := nI_nm1 (by omega)
    have hE := hI.ent _ hF
    have hE0 : EI ((sI mm 30 1 0 0).1 32 1) (fiE (mm.1 32 1) p) := hE
    have hI0 : Inv a s ((sI mm 30 1 0 0).1 32 1) := hI
    have hd0 : rng ((sI mm 30 1 0 0).1 32 1 0) 9999 := hd
    simp only [hF, hn, hR.ne0 h6, hR.oke i1 h6, hR.e2 hF, m_of2 h6, implies_true, z10, z21, z31, m_ref0, m_ref1, m_ref2, m_ref3, now_ref, ref_ref, hK, xA1, xA2, xB2, xC1, oK_1_1, oK_12_1, oK_12_2, oK_123_1, oK_123_2, oK_123_3, oK_13_1, oK_13_3, oK_2_2, oK_23_2, oK_23_3, oK_3_3, isB0, isB1, and_self, ne_eq, eq_self, not_true_eq_false, not_false_eq_true, false_implies, true_implies, true_and, and_true, forall_eq, if_true, if_false, reduceIte]
  · simp only [hF, implies_true, z10, z21, z31, m_ref0, m_ref1, m_ref2, m_ref3, now_ref, ref_ref, hK, xA1, xA2, xB2, xC1, oK_1_1, oK_12_1, oK_12_2, oK_123_1, oK_123_2, oK_123_3, oK_13_1, oK_13_3, oK_2_2, oK_23_2, oK_23_3, oK_3_3, isB0, isB1, and_self, ne_eq, eq_self, not_true_eq_false, not_false_eq_true, false_implies, true_implies, true_and, and_true, forall_eq, if_true, if_false, reduceIte]
theorem J_valueOf (h : Rel a s mc mm) (hK : ∀ v, K mc (sI mm 30 1 0 v)) (p : Int32) : w_X9_valueOf p mc (fun r => jq (w_X10_valueOf p mm) (K mc) r) (fun k0 m1 => oK [1] k0 ∧ jx (w_X10_valueOf p mm) (K m1) (xA k0)) := by
  have hR := h.rs
  have hI := h.inv
  have hd := hI.day
  simp only [w_X9_valueOf, w_X9_entryNumbered, c_findEntry hR hI i1, w_X10_valueOf, w_X10_tells, m_find hI, jq, jx]
  by_cases hF : fiE (mm.1 32 1) p < mo (mm.1 32 1)
  · have h6 : fiE (mm.1 32 1) p < 16 := Nat.lt_of_lt_of_le hF hI.mo16
    have hn : ¬ nI (fiE (mm.1 32 1) p) = (-1) := nI_nm1 (by omega)
    have hE := hI.ent _ hF
    have hE0 : EI ((sI mm 30 1 0 0).1 32 1) (fiE (mm.1 32 1) p) := hE
    have hI0 : Inv a s ((sI mm 30 1 0 0).1 32 1) := hI
    have hd0 : rng ((sI mm 30 1 0 0).1 32 1 0) 9999 := hd
    simp only [hF, hn, hR.ne0 h6, hR.oke i1 h6, hR.e3 hF, m_of3 h6, implies_true, z10, z21, z31, m_ref0, m_ref1, m_ref2, m_ref3, now_ref, ref_ref, hK, xA1, xA2, xB2, xC1, oK_1_1, oK_12_1, oK_12_2, oK_123_1, oK_123_2, oK_123_3, oK_13_1, oK_13_3, oK_2_2, oK_23_2, oK_23_3, oK_3_3, isB0, isB1, and_self, ne_eq, eq_self, not_true_eq_false, not_false_eq_true, false_implies, true_implies, true_and, and_true, forall_eq, if_true, if_false, reduceIte]
  · simp only [hF, implies_true, z10, z21, z31, m_ref0, m_ref1, m_ref2, m_ref3, now_ref, ref_ref, hK, xA1, xA2, xB2, xC1, oK_1_1, oK_12_1, oK_12_2, oK_123_1, oK_123_2, oK_123_3, oK_13_1, oK_13_3, oK_2_2, oK_23_2, oK_23_3, oK_3_3, isB0, isB1, and_self, ne_eq, eq_self, not_true_eq_false, not_false_eq_true, false_implies, true_implies, true_and, and_true, forall_eq, if_true, if_false, reduceIte]
theorem J_chamberOf (h : Rel a s mc mm) (hK : ∀ v, K mc (sI mm 30 1 0 v)) (p : Int32) : w_X9_chamberOf p mc (fun r => jq (w_X10_chamberOf p mm) (K mc) r) (fun k0 m1 => oK [1] k0 ∧ jx (w_X10_chamberOf p mm) (K m1) (xA k0)) := by
  have hR := h.rs
  have hI := h.inv
  have hd := hI.day
  simp only [w_X9_chamberOf, w_X9_entryNumbered, c_findEntry hR hI i1, w_X10_chamberOf, w_X10_tells, m_find hI, jq, jx]
  by_cases hF : fiE (mm.1 32 1) p < mo (mm.1 32 1)
  · have h6 : fiE (mm.1 32 1) p < 16 := Nat.lt_of_lt_of_le hF hI.mo16
    have hn : ¬ nI (fiE (mm.1 32 1) p) = (-1) := nI_nm1 (by omega)
    have hE := hI.ent _ hF
    have hE0 : EI ((sI mm 30 1 0 0).1 32 1) (fiE (mm.1 32 1) p) := hE
    have hI0 : Inv a s ((sI mm 30 1 0 0).1 32 1) := hI
    have hd0 : rng ((sI mm 30 1 0 0).1 32 1 0) 9999 := hd
    simp only [hF, hn, hR.ne0 h6, hR.oke i1 h6, hR.e4 hF, m_of4 h6, implies_true, z10, z21, z31, m_ref0, m_ref1, m_ref2, m_ref3, now_ref, ref_ref, hK, xA1, xA2, xB2, xC1, oK_1_1, oK_12_1, oK_12_2, oK_123_1, oK_123_2, oK_123_3, oK_13_1, oK_13_3, oK_2_2, oK_23_2, oK_23_3, oK_3_3, isB0, isB1, and_self, ne_eq, eq_self, not_true_eq_false, not_false_eq_true, false_implies, true_implies, true_and, and_true, forall_eq, if_true, if_false, reduceIte]
  · simp only [hF, implies_true, z10, z21, z31, m_ref0, m_ref1, m_ref2, m_ref3, now_ref, ref_ref, hK, xA1, xA2, xB2, xC1, oK_1_1, oK_12_1, oK_12_2, oK_123_1, oK_123_2, oK_123_3, oK_13_1, oK_13_3, oK_2_2, oK_23_2, oK_23_3, oK_3_3, isB0, isB1, and_self, ne_eq, eq_self, not_true_eq_false, not_false_eq_true, false_implies, true_implies, true_and, and_true, forall_eq, if_true, if_false, reduceIte]
theorem J_ageOf (h : Rel a s mc mm) (hK : ∀ v, K mc (sI mm 30 1 0 v)) (p : Int32) : w_X9_ageOf p mc (fun r => jq (w_X10_ageOf p mm) (K mc) r) (fun k0 m1 => oK [1] k0 ∧ jx (w_X10_ageOf p mm) (K m1) (xA k0)) := by
  have hR := h.rs
  have hI := h.inv
  have hd := hI.day
  simp only [w_X9_ageOf, w_X9_entryNumbered, c_findEntry hR hI i1, w_X10_ageOf, w_X10_tells, m_find hI, jq, jx]
  by_cases hF : fiE (mm.1 32 1) p < mo (mm.1 32 1)
  · have h6 : fiE (mm.1 32 1) p < 16 := Nat.lt_of_lt_of_le hF hI.mo16
    have hn : ¬ nI (fiE (mm.1 32 1) p) = (-1) := nI_nm1 (by omega)
    have hE := hI.ent _ hF
    have hE0 : EI ((sI mm 30 1 0 0).1 32 1) (fiE (mm.1 32 1) p) := hE
    have hI0 : Inv a s ((sI mm 30 1 0 0).1 32 1) := hI
    have hd0 : rng ((sI mm 30 1 0 0).1 32 1 0) 9999 := hd
    simp only [hF, hn, hR.ne0 h6, hR.oke i1 h6, c_ageNow hR hF, m_of5 h6, implies_true, z10, z21, z31, m_ref0, m_ref1, m_ref2, m_ref3, now_ref, ref_ref, hK, xA1, xA2, xB2, xC1, oK_1_1, oK_12_1, oK_12_2, oK_123_1, oK_123_2, oK_123_3, oK_13_1, oK_13_3, oK_2_2, oK_23_2, oK_23_3, oK_3_3, isB0, isB1, and_self, ne_eq, eq_self, not_true_eq_false, not_false_eq_true, false_implies, true_implies, true_and, and_true, forall_eq, if_true, if_false, reduceIte]
  · simp only [hF, implies_true, z10, z21, z31, m_ref0, m_ref1, m_ref2, m_ref3, now_ref, ref_ref, hK, xA1, xA2, xB2, xC1, oK_1_1, oK_12_1, oK_12_2, oK_123_1, oK_123_2, oK_123_3, oK_13_1, oK_13_3, oK_2_2, oK_23_2, oK_23_3, oK_3_3, isB0, isB1, and_self, ne_eq, eq_self, not_true_eq_false, not_false_eq_true, false_implies, true_implies, true_and, and_true, forall_eq, if_true, if_false, reduceIte]
theorem rng01 {x : Int32} (h : rng x 1) : x = 0 ∨ x = 1 := by
  obtain ⟨n, hn, rfl⟩ := h.ex
  have h1 : n = 0 ∨ n = 1 := by omega
  rcases h1 with rfl | rfl
  · exact Or.inl rfl
  · exact Or.inr rfl
theorem z01 : ¬ (0 : Int32) = 1 := by decide
theorem J_isProved (h : Rel a s mc mm) (hK : ∀ v, K mc (sI mm 30 1 0 v)) (p : Int32) : w_X9_isProved p mc (fun r => jq (w_X10_isProved p mm) (K mc) r) (fun k0 m1 => oK [1] k0 ∧ jx (w_X10_isProved p mm) (K m1) (xA k0)) := by
  have hR := h.rs
  have hI := h.inv
  have hd := hI.day
  simp only [w_X9_isProved, w_X9_entryNumbered, c_findEntry hR hI i1, w_X10_isProved, w_X10_tells, m_find hI, jq, jx]
  by_cases hF : fiE (mm.1 32 1) p < mo (mm.1 32 1)
  · have h6 : fiE (mm.1 32 1) p < 16 := Nat.lt_of_lt_of_le hF hI.mo16
    have hn : ¬ nI (fiE (mm.1 32 1) p) = (-1) := nI_nm1 (by omega)
    have hE := hI.ent _ hF
    have hE0 : EI ((sI mm 30 1 0 0).1 32 1) (fiE (mm.1 32 1) p) := hE
    have hI0 : Inv a s ((sI mm 30 1 0 0).1 32 1) := hI
    have hd0 : rng ((sI mm 30 1 0 0).1 32 1 0) 9999 := hd
    have hb := rng01 hE.2.2.2.2.2.2.2
    rcases hb with hb | hb
    · simp only [hF, hn, hR.ne0 h6, hR.oke i1 h6, hR.e7 hF, m_of7 h6, hb, z01, implies_true, z10, z21, z31, m_ref0, m_ref1, m_ref2, m_ref3, now_ref, ref_ref, hK, xA1, xA2, xB2, xC1, oK_1_1, oK_12_1, oK_12_2, oK_123_1, oK_123_2, oK_123_3, oK_13_1, oK_13_3, oK_2_2, oK_23_2, oK_23_3, oK_3_3, isB0, isB1, and_self, ne_eq, eq_self, not_true_eq_false, not_false_eq_true, false_implies, true_implies, true_and, and_true, forall_eq, if_true, if_false, reduceIte]
    · simp only [hF, hn, hR.ne0 h6, hR.oke i1 h6, hR.e7 hF, m_of7 h6, hb, implies_true, z10, z21, z31, m_ref0, m_ref1, m_ref2, m_ref3, now_ref, ref_ref, hK, xA1, xA2, xB2, xC1, oK_1_1, oK_12_1, oK_12_2, oK_123_1, oK_123_2, oK_123_3, oK_13_1, oK_13_3, oK_2_2, oK_23_2, oK_23_3, oK_3_3, isB0, isB1, and_self, ne_eq, eq_self, not_true_eq_false, not_false_eq_true, false_implies, true_implies, true_and, and_true, forall_eq, if_true, if_false, reduceIte]
  · simp only [hF, implies_true, z10, z21, z31, m_ref0, m_ref1, m_ref2, m_ref3, now_ref, ref_ref, hK, xA1, xA2, xB2, xC1, oK_1_1, oK_12_1, oK_12_2, oK_123_1, oK_123_2, oK_123_3, oK_13_1, oK_13_3, oK_2_2, oK_23_2, oK_23_3, oK_3_3, isB0, isB1, and_self, ne_eq, eq_self, not_true_eq_false, not_false_eq_true, false_implies, true_implies, true_and, and_true, forall_eq, if_true, if_false, reduceIte]
theorem J_isOverdue (h : Rel a s mc mm) (hK : ∀ v, K mc (sI mm 30 1 0 v)) (p : Int32) : w_X9_isOverdue p mc (fun r => jq (w_X10_isOverdue p mm) (K mc) r) (fun k0 m1 => oK [1] k0 ∧ jx (w_X10_isOverdue p mm) (K m1) (xA k0)) := by
  have hR := h.rs
  have hI := h.inv
  have hd := hI.day
  simp only [w_X9_isOverdue, w_X9_entryNumbered, c_findEntry hR hI i1, w_X10_isOverdue, w_X10_tells, m_find hI, jq, jx]
  by_cases hF : fiE (mm.1 32 1) p < mo (mm.1 32 1)
  · have h6 : fiE (mm.1 32 1) p < 16 := Nat.lt_of_lt_of_le hF hI.mo16
    have hn : ¬ nI (fiE (mm.1 32 1) p) = (-1) := nI_nm1 (by omega)
    have hE := hI.ent _ hF
    have hE0 : EI ((sI mm 30 1 0 0).1 32 1) (fiE (mm.1 32 1) p) := hE
    have hI0 : Inv a s ((sI mm 30 1 0 0).1 32 1) := hI
    have hd0 : rng ((sI mm 30 1 0 0).1 32 1 0) 9999 := hd
    by_cases hb : en (mm.1 32 1) (fiE (mm.1 32 1) p) 5 ≤ 200
    · simp only [hF, hn, hR.ne0 h6, hR.oke i1 h6, c_isLate hR hF, m_of5 h6, hb, implies_true, z10, z21, z31, m_ref0, m_ref1, m_ref2, m_ref3, now_ref, ref_ref, hK, xA1, xA2, xB2, xC1, oK_1_1, oK_12_1, oK_12_2, oK_123_1, oK_123_2, oK_123_3, oK_13_1, oK_13_3, oK_2_2, oK_23_2, oK_23_3, oK_3_3, isB0, isB1, and_self, ne_eq, eq_self, not_true_eq_false, not_false_eq_true, false_implies, true_implies, true_and, and_true, forall_eq, if_true, if_false, reduceIte]
    · simp only [hF, hn, hR.ne0 h6, hR.oke i1 h6, c_isLate hR hF, m_of5 h6, hb, implies_true, z10, z21, z31, m_ref0, m_ref1, m_ref2, m_ref3, now_ref, ref_ref, hK, xA1, xA2, xB2, xC1, oK_1_1, oK_12_1, oK_12_2, oK_123_1, oK_123_2, oK_123_3, oK_13_1, oK_13_3, oK_2_2, oK_23_2, oK_23_3, oK_3_3, isB0, isB1, and_self, ne_eq, eq_self, not_true_eq_false, not_false_eq_true, false_implies, true_implies, true_and, and_true, forall_eq, if_true, if_false, reduceIte]
  · simp only [hF, implies_true, z10, z21, z31, m_ref0, m_ref1, m_ref2, m_ref3, now_ref, ref_ref, hK, xA1, xA2, xB2, xC1, oK_1_1, oK_12_1, oK_12_2, oK_123_1, oK_123_2, oK_123_3, oK_13_1, oK_13_3, oK_2_2, oK_23_2, oK_23_3, oK_3_3, isB0, isB1, and_self, ne_eq, eq_self, not_true_eq_false, not_false_eq_true, false_implies, true_implies, true_and, and_true, forall_eq, if_true, if_false, reduceIte]
theorem J_dutyOf (h : Rel a s mc mm) (hK : ∀ v, K mc (sI mm 30 1 0 v)) (p : Int32) : w_X9_dutyOf p mc (fun r => jq (w_X10_dutyOf p mm) (K mc) r) (fun k0 m1 => oK [1] k0 ∧ jx (w_X10_dutyOf p mm) (K m1) (xA k0)) := by
  have hR := h.rs
  have hI := h.inv
  have hd := hI.day
  simp only [w_X9_dutyOf, w_X9_entryNumbered, c_findEntry hR hI i1, w_X10_dutyOf, m_find hI, jq, jx]
  by_cases hF : fiE (mm.1 32 1) p < mo (mm.1 32 1)
  · have h6 : fiE (mm.1 32 1) p < 16 := Nat.lt_of_lt_of_le hF hI.mo16
    have hn : ¬ nI (fiE (mm.1 32 1) p) = (-1) := nI_nm1 (by omega)
    have hE := hI.ent _ hF
    have hE0 : EI ((sI mm 30 1 0 0).1 32 1) (fiE (mm.1 32 1) p) := hE
    have hI0 : Inv a s ((sI mm 30 1 0 0).1 32 1) := hI
    have hd0 : rng ((sI mm 30 1 0 0).1 32 1 0) 9999 := hd
    simp only [hF, hn, hR.ne0 h6, hR.oke i1 h6, c_ageNow hR hF, c_wholeDuty hR hI hF, m_dutyAll h6 hE0, dutyAF, implies_true, z10, z21, z31, m_ref0, m_ref1, m_ref2, m_ref3, now_ref, ref_ref, hK, xA1, xA2, xB2, xC1, oK_1_1, oK_12_1, oK_12_2, oK_123_1, oK_123_2, oK_123_3, oK_13_1, oK_13_3, oK_2_2, oK_23_2, oK_23_3, oK_3_3, isB0, isB1, and_self, ne_eq, eq_self, not_true_eq_false, not_false_eq_true, false_implies, true_implies, true_and, and_true, forall_eq, if_true, if_false, reduceIte]
  · simp only [hF, implies_true, z10, z21, z31, m_ref0, m_ref1, m_ref2, m_ref3, now_ref, ref_ref, hK, xA1, xA2, xB2, xC1, oK_1_1, oK_12_1, oK_12_2, oK_123_1, oK_123_2, oK_123_3, oK_13_1, oK_13_3, oK_2_2, oK_23_2, oK_23_3, oK_3_3, isB0, isB1, and_self, ne_eq, eq_self, not_true_eq_false, not_false_eq_true, false_implies, true_implies, true_and, and_true, forall_eq, if_true, if_false, reduceIte]
theorem J_allowedWaste (h : Rel a s mc mm) (hK : ∀ v, K mc (sI mm 30 1 0 v)) (p : Int32) : w_X9_allowedWaste p mc (fun r => jq (w_X10_allowedWaste p mm) (K mc) r) (fun k0 m1 => oK [1] k0 ∧ jx (w_X10_allowedWaste p mm) (K m1) (xA k0)) := by
  have hR := h.rs
  have hI := h.inv
  have hd := hI.day
  simp only [w_X9_allowedWaste, w_X9_entryNumbered, c_findEntry hR hI i1, w_X10_allowedWaste, m_find hI, jq, jx]
  by_cases hF : fiE (mm.1 32 1) p < mo (mm.1 32 1)
  · have h6 : fiE (mm.1 32 1) p < 16 := Nat.lt_of_lt_of_le hF hI.mo16
    have hn : ¬ nI (fiE (mm.1 32 1) p) = (-1) := nI_nm1 (by omega)
    have hE := hI.ent _ hF
    have hE0 : EI ((sI mm 30 1 0 0).1 32 1) (fiE (mm.1 32 1) p) := hE
    have hI0 : Inv a s ((sI mm 30 1 0 0).1 32 1) := hI
    have hd0 : rng ((sI mm 30 1 0 0).1 32 1 0) 9999 := hd
    simp only [hF, hn, hR.ne0 h6, hR.oke i1 h6, c_allowed hR hI hF, m_allowed h6 hE0, implies_true, z10, z21, z31, m_ref0, m_ref1, m_ref2, m_ref3, now_ref, ref_ref, hK, xA1, xA2, xB2, xC1, oK_1_1, oK_12_1, oK_12_2, oK_123_1, oK_123_2, oK_123_3, oK_13_1, oK_13_3, oK_2_2, oK_23_2, oK_23_3, oK_3_3, isB0, isB1, and_self, ne_eq, eq_self, not_true_eq_false, not_false_eq_true, false_implies, true_implies, true_and, and_true, forall_eq, if_true, if_false, reduceIte]
  · simp only [hF, implies_true, z10, z21, z31, m_ref0, m_ref1, m_ref2, m_ref3, now_ref, ref_ref, hK, xA1, xA2, xB2, xC1, oK_1_1, oK_12_1, oK_12_2, oK_123_1, oK_123_2, oK_123_3, oK_13_1, oK_13_3, oK_2_2, oK_23_2, oK_23_3, oK_3_3, isB0, isB1, and_self, ne_eq, eq_self, not_true_eq_false, not_false_eq_true, false_implies, true_implies, true_and, and_true, forall_eq, if_true, if_false, reduceIte]
theorem win (p x : Int32) {A : Int64} (a0 : Int32) (hA : a0.toInt64 = A) (mm : Mm) (Q : Int32 → Prop) : w_X10_in p.toInt64 A x.toInt64 mm Q ↔ (if a0 ≤ p ∧ p ≤ x then Q 1 else Q 0) := w_in p a0 x hA rfl mm Q
theorem w_1_e (p x : Int32) (mm : Mm) (Q : Int32 → Prop) : w_X10_in p.toInt64 1 x.toInt64 mm Q ↔ (if 1 ≤ p ∧ p ≤ x then Q 1 else Q 0) := w_in p 1 x rfl rfl mm Q
theorem w_0_e (p x : Int32) (mm : Mm) (Q : Int32 → Prop) : w_X10_in p.toInt64 0 x.toInt64 mm Q ↔ (if 0 ≤ p ∧ p ≤ x then Q 1 else Q 0) := w_in p 0 x rfl rfl mm Q
theorem w_0_365 (p : Int32) (mm : Mm) (Q : Int32 → Prop) : w_X10_in p.toInt64 0 365 mm Q ↔ (if 0 ≤ p ∧ p ≤ 365 then Q 1 else Q 0) := w_in p 0 365 rfl rfl mm Q
theorem w_0_1 (p : Int32) (mm : Mm) (Q : Int32 → Prop) : w_X10_in p.toInt64 0 1 mm Q ↔ (if 0 ≤ p ∧ p ≤ 1 then Q 1 else Q 0) := w_in p 0 1 rfl rfl mm Q
theorem w_1_998 (p : Int32) (mm : Mm) (Q : Int32 → Prop) : w_X10_in p.toInt64 1 998 mm Q ↔ (if 1 ≤ p ∧ p ≤ 998 then Q 1 else Q 0) := w_in p 1 998 rfl rfl mm Q
theorem w_1_9999 (p : Int32) (mm : Mm) (Q : Int32 → Prop) : w_X10_in p.toInt64 1 9999 mm Q ↔ (if 1 ≤ p ∧ p ≤ 9999 then Q 1 else Q 0) := w_in p 1 9999 rfl rfl mm Q
theorem w_1_100 (p : Int32) (mm : Mm) (Q : Int32 → Prop) : w_X10_in p.toInt64 1 100 mm Q ↔ (if 1 ≤ p ∧ p ≤ 100 then Q 1 else Q 0) := w_in p 1 100 rfl rfl mm Q
theorem w_0_60 (p : Int32) (mm : Mm) (Q : Int32 → Prop) : w_X10_in p.toInt64 0 60 mm Q ↔ (if 0 ≤ p ∧ p ≤ 60 then Q 1 else Q 0) := w_in p 0 60 rfl rfl mm Q
theorem w_0_80 (p : Int32) (mm : Mm) (Q : Int32 → Prop) : w_X10_in p.toInt64 0 80 mm Q ↔ (if 0 ≤ p ∧ p ≤ 80 then Q 1 else Q 0) := w_in p 0 80 rfl rfl mm Q
theorem w_0_50000 (p : Int32) (mm : Mm) (Q : Int32 → Prop) : w_X10_in p.toInt64 0 50000 mm Q ↔ (if 0 ≤ p ∧ p ≤ 50000 then Q 1 else Q 0) := w_in p 0 50000 rfl rfl mm Q
theorem w_33_126 (p : Int32) (mm : Mm) (Q : Int32 → Prop) : w_X10_in p.toInt64 33 126 mm Q ↔ (if 33 ≤ p ∧ p ≤ 126 then Q 1 else Q 0) := w_in p 33 126 rfl rfl mm Q
theorem w_48_57 (p : Int32) (mm : Mm) (Q : Int32 → Prop) : w_X10_in p.toInt64 48 57 mm Q ↔ (if 48 ≤ p ∧ p ≤ 57 then Q 1 else Q 0) := w_in p 48 57 rfl rfl mm Q
theorem reqW (p lo hi : Int32) (mm : Mm) (Q : Prop) (X : Nat → Mm → Prop) : w_X9_requireWithin p lo hi mm Q X ↔ if lo ≤ p ∧ p ≤ hi then Q else X 2 mm := by
  unfold w_X9_requireWithin
  simp only [isWithin_iff]
  by_cases h : lo ≤ p ∧ p ≤ hi <;> simp only [h, z10, not_true_eq_false, not_false_eq_true, false_implies, true_implies, true_and, and_true, forall_eq, if_true, if_false, reduceIte]
theorem reqC (p : Int32) (mm : Mm) (Q : Prop) (X : Nat → Mm → Prop) : w_X9_requireChamber p mm Q X ↔ if 0 ≤ p ∧ p ≤ 4 then Q else X 1 mm := by
  unfold w_X9_requireChamber
  simp only [isWithin_iff]
  by_cases h : 0 ≤ p ∧ p ≤ 4 <;> simp only [h, z10, not_true_eq_false, not_false_eq_true, false_implies, true_implies, true_and, and_true, forall_eq, if_true, if_false, reduceIte]
theorem reqS (p : Int32) (mm : Mm) (Q : Prop) (X : Nat → Mm → Prop) : w_X9_requireSlot p mm Q X ↔ if 0 ≤ p ∧ p ≤ 1 then Q else X 1 mm := by
  unfold w_X9_requireSlot
  simp only [isWithin_iff]
  by_cases h : 0 ≤ p ∧ p ≤ 1 <;> simp only [h, z10, not_true_eq_false, not_false_eq_true, false_implies, true_implies, true_and, and_true, forall_eq, if_true, if_false, reduceIte]
theorem rng_le {x y : Int32} {b : Nat} (hy : rng y b) (hb : b < 2147483648) (h0 : 0 ≤ x) (h1 : x ≤ y) : rng x y.toNatClampNeg := by
  have h2 := hy.2
  rw [hy.1] at h1
  exact rng_io (by omega) h0 h1
theorem rng_lit {x : Int32} (n : Nat) (hn : n < 2147483648) (h : 0 ≤ x ∧ x ≤ nI n) : rng x n := rng_io hn h.1 h.2
theorem J_dutyOfPart (h : Rel a s mc mm) (hK : ∀ v, K mc (sI mm 30 1 0 v)) (p : Int32) (w : Int32) : w_X9_dutyOfPart p w mc (fun r => jq (w_X10_dutyOfPart p w mm) (K mc) r) (fun k0 m1 => oK [1, 2] k0 ∧ jx (w_X10_dutyOfPart p w mm) (K m1) (xA k0)) := by
  have hR := h.rs
  have hI := h.inv
  have hd := hI.day
  simp only [w_X9_dutyOfPart, w_X9_entryNumbered, c_findEntry hR hI i1, w_X10_dutyOfPart, m_find hI, jq, jx]
  by_cases hF : fiE (mm.1 32 1) p < mo (mm.1 32 1)
  · have h6 : fiE (mm.1 32 1) p < 16 := Nat.lt_of_lt_of_le hF hI.mo16
    have hn : ¬ nI (fiE (mm.1 32 1) p) = (-1) := nI_nm1 (by omega)
    have hE := hI.ent _ hF
    have hE0 : EI ((sI mm 30 1 0 0).1 32 1) (fiE (mm.1 32 1) p) := hE
    have hI0 : Inv a s ((sI mm 30 1 0 0).1 32 1) := hI
    have hd0 : rng ((sI mm 30 1 0 0).1 32 1 0) 9999 := hd
    by_cases hb : 1 ≤ w ∧ w ≤ en (mm.1 32 1) (fiE (mm.1 32 1) p) 2
    · simp only [hF, hn, hR.ne0 h6, hR.oke i1 h6, reqW, hR.e2 hF, c_dutyNow hR hI hF, m_of2 h6, w_1_e, m_dutyPart h6 hE0, hb, implies_true, z10, z21, z31, m_ref0, m_ref1, m_ref2, m_ref3, now_ref, ref_ref, hK, xA1, xA2, xB2, xC1, oK_1_1, oK_12_1, oK_12_2, oK_123_1, oK_123_2, oK_123_3, oK_13_1, oK_13_3, oK_2_2, oK_23_2, oK_23_3, oK_3_3, isB0, isB1, and_self, ne_eq, eq_self, not_true_eq_false, not_false_eq_true, false_implies, true_implies, true_and, and_true, forall_eq, if_true, if_false, reduceIte]
    · simp only [hF, hn, hR.ne0 h6, hR.oke i1 h6, reqW, hR.e2 hF, c_dutyNow hR hI hF, m_of2 h6, w_1_e, m_dutyPart h6 hE0, hb, implies_true, z10, z21, z31, m_ref0, m_ref1, m_ref2, m_ref3, now_ref, ref_ref, hK, xA1, xA2, xB2, xC1, oK_1_1, oK_12_1, oK_12_2, oK_123_1, oK_123_2, oK_123_3, oK_13_1, oK_13_3, oK_2_2, oK_23_2, oK_23_3, oK_3_3, isB0, isB1, and_self, ne_eq, eq_self, not_true_eq_false, not_false_eq_true, false_implies, true_implies, true_and, and_true, forall_eq, if_true, if_false, reduceIte]
  · simp only [hF, implies_true, z10, z21, z31, m_ref0, m_ref1, m_ref2, m_ref3, now_ref, ref_ref, hK, xA1, xA2, xB2, xC1, oK_1_1, oK_12_1, oK_12_2, oK_123_1, oK_123_2, oK_123_3, oK_13_1, oK_13_3, oK_2_2, oK_23_2, oK_23_3, oK_3_3, isB0, isB1, and_self, ne_eq, eq_self, not_true_eq_false, not_false_eq_true, false_implies, true_implies, true_and, and_true, forall_eq, if_true, if_false, reduceIte]
theorem J_whyNoWithdrawal (h : Rel a s mc mm) (hK : ∀ v, K mc (sI mm 30 1 0 v)) (p : Int32) (w : Int32) : w_X9_whyNoWithdrawal p w mc (fun r => jq (w_X10_whyNoWithdrawal p w mm) (K mc) r) (fun k0 m1 => oK [1, 2] k0 ∧ jx (w_X10_whyNoWithdrawal p w mm) (K m1) (xA k0)) := by
  have hR := h.rs
  have hI := h.inv
  have hd := hI.day
  simp only [w_X9_whyNoWithdrawal, w_X9_entryNumbered, c_findEntry hR hI i1, w_X10_whyNoWithdrawal, m_find hI, jq, jx]
  by_cases hF : fiE (mm.1 32 1) p < mo (mm.1 32 1)
  · have h6 : fiE (mm.1 32 1) p < 16 := Nat.lt_of_lt_of_le hF hI.mo16
    have hn : ¬ nI (fiE (mm.1 32 1) p) = (-1) := nI_nm1 (by omega)
    have hE := hI.ent _ hF
    have hE0 : EI ((sI mm 30 1 0 0).1 32 1) (fiE (mm.1 32 1) p) := hE
    have hI0 : Inv a s ((sI mm 30 1 0 0).1 32 1) := hI
    have hd0 : rng ((sI mm 30 1 0 0).1 32 1 0) 9999 := hd
    by_cases hb : 1 ≤ w ∧ w ≤ 999
    · simp only [hF, hn, hR.ne0 h6, hR.oke i1 h6, reqW, c_whyW hR hI hF, m_isWeight, m_whyW hI0 hF, hb, implies_true, z10, z21, z31, m_ref0, m_ref1, m_ref2, m_ref3, now_ref, ref_ref, hK, xA1, xA2, xB2, xC1, oK_1_1, oK_12_1, oK_12_2, oK_123_1, oK_123_2, oK_123_3, oK_13_1, oK_13_3, oK_2_2, oK_23_2, oK_23_3, oK_3_3, isB0, isB1, and_self, ne_eq, eq_self, not_true_eq_false, not_false_eq_true, false_implies, true_implies, true_and, and_true, forall_eq, if_true, if_false, reduceIte]
    · simp only [hF, hn, hR.ne0 h6, hR.oke i1 h6, reqW, c_whyW hR hI hF, m_isWeight, m_whyW hI0 hF, hb, implies_true, z10, z21, z31, m_ref0, m_ref1, m_ref2, m_ref3, now_ref, ref_ref, hK, xA1, xA2, xB2, xC1, oK_1_1, oK_12_1, oK_12_2, oK_123_1, oK_123_2, oK_123_3, oK_13_1, oK_13_3, oK_2_2, oK_23_2, oK_23_3, oK_3_3, isB0, isB1, and_self, ne_eq, eq_self, not_true_eq_false, not_false_eq_true, false_implies, true_implies, true_and, and_true, forall_eq, if_true, if_false, reduceIte]
  · simp only [hF, implies_true, z10, z21, z31, m_ref0, m_ref1, m_ref2, m_ref3, now_ref, ref_ref, hK, xA1, xA2, xB2, xC1, oK_1_1, oK_12_1, oK_12_2, oK_123_1, oK_123_2, oK_123_3, oK_13_1, oK_13_3, oK_2_2, oK_23_2, oK_23_3, oK_3_3, isB0, isB1, and_self, ne_eq, eq_self, not_true_eq_false, not_false_eq_true, false_implies, true_implies, true_and, and_true, forall_eq, if_true, if_false, reduceIte]
theorem J_whyNoExport (h : Rel a s mc mm) (hK : ∀ v, K mc (sI mm 30 1 0 v)) (p : Int32) (w : Int32) : w_X9_whyNoExport p w mc (fun r => jq (w_X10_whyNoExport p w mm) (K mc) r) (fun k0 m1 => oK [1, 2] k0 ∧ jx (w_X10_whyNoExport p w mm) (K m1) (xA k0)) := by
  have hR := h.rs
  have hI := h.inv
  have hd := hI.day
  simp only [w_X9_whyNoExport, w_X9_entryNumbered, c_findEntry hR hI i1, w_X10_whyNoExport, m_find hI, jq, jx]
  by_cases hF : fiE (mm.1 32 1) p < mo (mm.1 32 1)
  · have h6 : fiE (mm.1 32 1) p < 16 := Nat.lt_of_lt_of_le hF hI.mo16
    have hn : ¬ nI (fiE (mm.1 32 1) p) = (-1) := nI_nm1 (by omega)
    have hE := hI.ent _ hF
    have hE0 : EI ((sI mm 30 1 0 0).1 32 1) (fiE (mm.1 32 1) p) := hE
    have hI0 : Inv a s ((sI mm 30 1 0 0).1 32 1) := hI
    have hd0 : rng ((sI mm 30 1 0 0).1 32 1 0) 9999 := hd
    by_cases hb : 1 ≤ w ∧ w ≤ 999
    · simp only [hF, hn, hR.ne0 h6, hR.oke i1 h6, reqW, c_whyX hR hI hF, m_isWeight, m_whyX hI0 hF, hb, implies_true, z10, z21, z31, m_ref0, m_ref1, m_ref2, m_ref3, now_ref, ref_ref, hK, xA1, xA2, xB2, xC1, oK_1_1, oK_12_1, oK_12_2, oK_123_1, oK_123_2, oK_123_3, oK_13_1, oK_13_3, oK_2_2, oK_23_2, oK_23_3, oK_3_3, isB0, isB1, and_self, ne_eq, eq_self, not_true_eq_false, not_false_eq_true, false_implies, true_implies, true_and, and_true, forall_eq, if_true, if_false, reduceIte]
    · simp only [hF, hn, hR.ne0 h6, hR.oke i1 h6, reqW, c_whyX hR hI hF, m_isWeight, m_whyX hI0 hF, hb, implies_true, z10, z21, z31, m_ref0, m_ref1, m_ref2, m_ref3, now_ref, ref_ref, hK, xA1, xA2, xB2, xC1, oK_1_1, oK_12_1, oK_12_2, oK_123_1, oK_123_2, oK_123_3, oK_13_1, oK_13_3, oK_2_2, oK_23_2, oK_23_3, oK_3_3, isB0, isB1, and_self, ne_eq, eq_self, not_true_eq_false, not_false_eq_true, false_implies, true_implies, true_and, and_true, forall_eq, if_true, if_false, reduceIte]
  · simp only [hF, implies_true, z10, z21, z31, m_ref0, m_ref1, m_ref2, m_ref3, now_ref, ref_ref, hK, xA1, xA2, xB2, xC1, oK_1_1, oK_12_1, oK_12_2, oK_123_1, oK_123_2, oK_123_3, oK_13_1, oK_13_3, oK_2_2, oK_23_2, oK_23_3, oK_3_3, isB0, isB1, and_self, ne_eq, eq_self, not_true_eq_false, not_false_eq_true, false_implies, true_implies, true_and, and_true, forall_eq, if_true, if_false, reduceIte]
theorem J_chargeIfWeighed (h : Rel a s mc mm) (hK : ∀ v, K mc (sI mm 30 1 0 v)) (p : Int32) (w : Int32) : w_X9_chargeIfWeighed p w mc (fun r => jq (w_X10_chargeIfWeighed p w mm) (K mc) r) (fun k0 m1 => oK [1, 2] k0 ∧ jx (w_X10_chargeIfWeighed p w mm) (K m1) (xA k0)) := by
  have hR := h.rs
  have hI := h.inv
  have hd := hI.day
  simp only [w_X9_chargeIfWeighed, w_X9_entryNumbered, c_findEntry hR hI i1, w_X10_chargeIfWeighed, m_find hI, jq, jx]
  by_cases hF : fiE (mm.1 32 1) p < mo (mm.1 32 1)
  · have h6 : fiE (mm.1 32 1) p < 16 := Nat.lt_of_lt_of_le hF hI.mo16
    have hn : ¬ nI (fiE (mm.1 32 1) p) = (-1) := nI_nm1 (by omega)
    have hE := hI.ent _ hF
    have hE0 : EI ((sI mm 30 1 0 0).1 32 1) (fiE (mm.1 32 1) p) := hE
    have hI0 : Inv a s ((sI mm 30 1 0 0).1 32 1) := hI
    have hd0 : rng ((sI mm 30 1 0 0).1 32 1 0) 9999 := hd
    by_cases hb : 0 ≤ w ∧ w ≤ en (mm.1 32 1) (fiE (mm.1 32 1) p) 2
    · have hw0 : rng w (en ((sI mm 30 1 0 0).1 32 1) (fiE (mm.1 32 1) p) 2).toNatClampNeg := rng_le hE.2.1 (by decide) hb.1 hb.2
      simp only [hF, hn, hR.ne0 h6, hR.oke i1 h6, reqW, hR.e2 hF, c_lossIf hR hI hF, c_chargeFor hR hI hF, m_of2 h6, w_0_e, m_chargeBy h6 hE0 hd0 hw0, hb, implies_true, z10, z21, z31, m_ref0, m_ref1, m_ref2, m_ref3, now_ref, ref_ref, hK, xA1, xA2, xB2, xC1, oK_1_1, oK_12_1, oK_12_2, oK_123_1, oK_123_2, oK_123_3, oK_13_1, oK_13_3, oK_2_2, oK_23_2, oK_23_3, oK_3_3, isB0, isB1, and_self, ne_eq, eq_self, not_true_eq_false, not_false_eq_true, false_implies, true_implies, true_and, and_true, forall_eq, if_true, if_false, reduceIte]
    · simp only [hF, hn, hR.ne0 h6, hR.oke i1 h6, reqW, hR.e2 hF, m_of2 h6, w_0_e, hb, implies_true, z10, z21, z31, m_ref0, m_ref1, m_ref2, m_ref3, now_ref, ref_ref, hK, xA1, xA2, xB2, xC1, oK_1_1, oK_12_1, oK_12_2, oK_123_1, oK_123_2, oK_123_3, oK_13_1, oK_13_3, oK_2_2, oK_23_2, oK_23_3, oK_3_3, isB0, isB1, and_self, ne_eq, eq_self, not_true_eq_false, not_false_eq_true, false_implies, true_implies, true_and, and_true, forall_eq, if_true, if_false, reduceIte]
  · simp only [hF, implies_true, z10, z21, z31, m_ref0, m_ref1, m_ref2, m_ref3, now_ref, ref_ref, hK, xA1, xA2, xB2, xC1, oK_1_1, oK_12_1, oK_12_2, oK_123_1, oK_123_2, oK_123_3, oK_13_1, oK_13_3, oK_2_2, oK_23_2, oK_23_3, oK_3_3, isB0, isB1, and_self, ne_eq, eq_self, not_true_eq_false, not_false_eq_true, false_implies, true_implies, true_and, and_true, forall_eq, if_true, if_false, reduceIte]
theorem m_dutyK0 {mm : Mm} {e : Nat} (hE : EI (mm.1 32 1) e) (x y : Int32) (Q : Int32 → Prop) : w_X10_duty (en (mm.1 32 1) e 1) x y 0 mm Q ↔ Q (sumF (mm.1 32 1) (knd (mm.1 32 1) e) x y) := by
  have h := m_duty0 hE.k.2 x y mm Q
  rw [← hE.k.1] at h
  exact h
theorem m_dutyK1 {mm : Mm} {e : Nat} (hE : EI (mm.1 32 1) e) (x y : Int32) (Q : Int32 → Prop) : w_X10_duty (en (mm.1 32 1) e 1) x y 1 mm Q ↔ Q (sumF (mm.1 32 1) (knd (mm.1 32 1) e) x y + (sumF (mm.1 32 1) (knd (mm.1 32 1) e) x y + 9) / 10) := by
  have h := m_duty1 hE.k.2 x y mm Q
  rw [← hE.k.1] at h
  exact h
theorem m_dutyR0 {mm : Mm} {e : Nat} (hE : EI (mm.1 32 1) e) (v x y : Int32) (Q : Int32 → Prop) : w_X10_duty (en (mm.1 32 1) e 1) x y 0 (sI mm 30 1 0 v) Q ↔ Q (sumF (mm.1 32 1) (knd (mm.1 32 1) e) x y) := m_dutyK0 (mm := sI mm 30 1 0 v) hE x y Q
theorem m_dutyR1 {mm : Mm} {e : Nat} (hE : EI (mm.1 32 1) e) (v x y : Int32) (Q : Int32 → Prop) : w_X10_duty (en (mm.1 32 1) e 1) x y 1 (sI mm 30 1 0 v) Q ↔ Q (sumF (mm.1 32 1) (knd (mm.1 32 1) e) x y + (sumF (mm.1 32 1) (knd (mm.1 32 1) e) x y + 9) / 10) := m_dutyK1 (mm := sI mm 30 1 0 v) hE x y Q
theorem J_dutyLater (h : Rel a s mc mm) (hK : ∀ v, K mc (sI mm 30 1 0 v)) (p : Int32) (w : Int32) : w_X9_dutyLater p w mc (fun r => jq (w_X10_dutyLater p w mm) (K mc) r) (fun k0 m1 => oK [1, 2] k0 ∧ jx (w_X10_dutyLater p w mm) (K m1) (xA k0)) := by
  have hR := h.rs
  have hI := h.inv
  have hd := hI.day
  simp only [w_X9_dutyLater, w_X9_entryNumbered, c_findEntry hR hI i1, w_X10_dutyLater, w_X10_dutyLater_J33, m_find hI, jq, jx]
  by_cases hF : fiE (mm.1 32 1) p < mo (mm.1 32 1)
  · have h6 : fiE (mm.1 32 1) p < 16 := Nat.lt_of_lt_of_le hF hI.mo16
    have hn : ¬ nI (fiE (mm.1 32 1) p) = (-1) := nI_nm1 (by omega)
    have hE := hI.ent _ hF
    have hE0 : EI ((sI mm 30 1 0 0).1 32 1) (fiE (mm.1 32 1) p) := hE
    have hI0 : Inv a s ((sI mm 30 1 0 0).1 32 1) := hI
    have hd0 : rng ((sI mm 30 1 0 0).1 32 1 0) 9999 := hd
    by_cases hb : 0 ≤ w ∧ w ≤ 365
    · by_cases hc : en (mm.1 32 1) (fiE (mm.1 32 1) p) 5 + w ≤ 200 <;> simp only [hF, hn, hR.ne0 h6, hR.oke i1 h6, reqW, c_ageNow hR hF, c_wholeDuty hR hI hF, w_0_365, m_of1 h6, m_of2 h6, m_of3 h6, m_of5 h6, m_dutyR0 hE, m_dutyR1 hE, hc, dutyF, hb, implies_true, z10, z21, z31, m_ref0, m_ref1, m_ref2, m_ref3, now_ref, ref_ref, hK, xA1, xA2, xB2, xC1, oK_1_1, oK_12_1, oK_12_2, oK_123_1, oK_123_2, oK_123_3, oK_13_1, oK_13_3, oK_2_2, oK_23_2, oK_23_3, oK_3_3, isB0, isB1, and_self, ne_eq, eq_self, not_true_eq_false, not_false_eq_true, false_implies, true_implies, true_and, and_true, forall_eq, if_true, if_false, reduceIte]
    · simp only [hF, hn, hR.ne0 h6, hR.oke i1 h6, reqW, w_0_365, hb, implies_true, z10, z21, z31, m_ref0, m_ref1, m_ref2, m_ref3, now_ref, ref_ref, hK, xA1, xA2, xB2, xC1, oK_1_1, oK_12_1, oK_12_2, oK_123_1, oK_123_2, oK_123_3, oK_13_1, oK_13_3, oK_2_2, oK_23_2, oK_23_3, oK_3_3, isB0, isB1, and_self, ne_eq, eq_self, not_true_eq_false, not_false_eq_true, false_implies, true_implies, true_and, and_true, forall_eq, if_true, if_false, reduceIte]
  · simp only [hF, implies_true, z10, z21, z31, m_ref0, m_ref1, m_ref2, m_ref3, now_ref, ref_ref, hK, xA1, xA2, xB2, xC1, oK_1_1, oK_12_1, oK_12_2, oK_123_1, oK_123_2, oK_123_3, oK_13_1, oK_13_3, oK_2_2, oK_23_2, oK_23_3, oK_3_3, isB0, isB1, and_self, ne_eq, eq_self, not_true_eq_false, not_false_eq_true, false_implies, true_implies, true_and, and_true, forall_eq, if_true, if_false, reduceIte]
theorem d201 {x : Int32} (h : rng x 9999) : (if (0 : Int32) < 201 - x then 201 - x else 0) = if x ≤ 200 then 201 - x else 0 := by
  obtain ⟨n, hn, rfl⟩ := h.ex
  rw [show (201 : Int32) = nI 201 from rfl, show (200 : Int32) = nI 200 from rfl]
  by_cases h : n ≤ 200
  · rw [if_pos (show nI n ≤ nI 200 from nI_le h (by decide)), if_pos]
    rw [Int32.lt_iff_toInt_lt, pk_sub_toInt (by decide) (by omega)]
    simp
    omega
  · rw [if_neg (show ¬ nI n ≤ nI 200 from fun q => h ((nI_leI (by omega) (by decide)).mp q)), if_neg]
    rw [Int32.lt_iff_toInt_lt, pk_sub_toInt (by decide) (by omega)]
    simp
    omega
theorem J_daysToOverdue (h : Rel a s mc mm) (hK : ∀ v, K mc (sI mm 30 1 0 v)) (p : Int32) : w_X9_daysToOverdue p mc (fun r => jq (w_X10_daysToOverdue p mm) (K mc) r) (fun k0 m1 => oK [1] k0 ∧ jx (w_X10_daysToOverdue p mm) (K m1) (xA k0)) := by
  have hR := h.rs
  have hI := h.inv
  have hd := hI.day
  simp only [w_X9_daysToOverdue, w_X9_entryNumbered, c_findEntry hR hI i1, w_X10_daysToOverdue, w_X10_daysToOverdue_J17, m_find hI, jq, jx]
  by_cases hF : fiE (mm.1 32 1) p < mo (mm.1 32 1)
  · have h6 : fiE (mm.1 32 1) p < 16 := Nat.lt_of_lt_of_le hF hI.mo16
    have hn : ¬ nI (fiE (mm.1 32 1) p) = (-1) := nI_nm1 (by omega)
    have hE := hI.ent _ hF
    have hE0 : EI ((sI mm 30 1 0 0).1 32 1) (fiE (mm.1 32 1) p) := hE
    have hI0 : Inv a s ((sI mm 30 1 0 0).1 32 1) := hI
    have hd0 : rng ((sI mm 30 1 0 0).1 32 1 0) 9999 := hd
    have ha : rng (en (mm.1 32 1) (fiE (mm.1 32 1) p) 5) 9999 := hE.2.2.2.2.2.1.mono hd.2
    by_cases hb : en (mm.1 32 1) (fiE (mm.1 32 1) p) 5 ≤ 200
    · simp only [hF, hn, hR.ne0 h6, hR.oke i1 h6, c_ageNow hR hF, d201 ha, m_isLate h6, m_of5 h6, hb, implies_true, z10, z21, z31, m_ref0, m_ref1, m_ref2, m_ref3, now_ref, ref_ref, hK, xA1, xA2, xB2, xC1, oK_1_1, oK_12_1, oK_12_2, oK_123_1, oK_123_2, oK_123_3, oK_13_1, oK_13_3, oK_2_2, oK_23_2, oK_23_3, oK_3_3, isB0, isB1, and_self, ne_eq, eq_self, not_true_eq_false, not_false_eq_true, false_implies, true_implies, true_and, and_true, forall_eq, if_true, if_false, reduceIte]
    · simp only [hF, hn, hR.ne0 h6, hR.oke i1 h6, c_ageNow hR hF, d201 ha, m_isLate h6, m_of5 h6, hb, implies_true, z10, z21, z31, m_ref0, m_ref1, m_ref2, m_ref3, now_ref, ref_ref, hK, xA1, xA2, xB2, xC1, oK_1_1, oK_12_1, oK_12_2, oK_123_1, oK_123_2, oK_123_3, oK_13_1, oK_13_3, oK_2_2, oK_23_2, oK_23_3, oK_3_3, isB0, isB1, and_self, ne_eq, eq_self, not_true_eq_false, not_false_eq_true, false_implies, true_implies, true_and, and_true, forall_eq, if_true, if_false, reduceIte]
  · simp only [hF, implies_true, z10, z21, z31, m_ref0, m_ref1, m_ref2, m_ref3, now_ref, ref_ref, hK, xA1, xA2, xB2, xC1, oK_1_1, oK_12_1, oK_12_2, oK_123_1, oK_123_2, oK_123_3, oK_13_1, oK_13_3, oK_2_2, oK_23_2, oK_23_3, oK_3_3, isB0, isB1, and_self, ne_eq, eq_self, not_true_eq_false, not_false_eq_true, false_implies, true_implies, true_and, and_true, forall_eq, if_true, if_false, reduceIte]
theorem J_whyNoMove (h : Rel a s mc mm) (hK : ∀ v, K mc (sI mm 30 1 0 v)) (p : Int32) (c : Int32) : w_X9_whyNoMove p c mc (fun r => jq (w_X10_whyNoMove p c mm) (K mc) r) (fun k0 m1 => oK [1] k0 ∧ jx (w_X10_whyNoMove p c mm) (K m1) (xA k0)) := by
  have hR := h.rs
  have hI := h.inv
  have hd := hI.day
  simp only [w_X9_whyNoMove, w_X9_entryNumbered, c_findEntry hR hI i1, w_X10_whyNoMove, w_X10_whyNoMove_J19, m_find hI, jq, jx]
  by_cases hF : fiE (mm.1 32 1) p < mo (mm.1 32 1)
  · have h6 : fiE (mm.1 32 1) p < 16 := Nat.lt_of_lt_of_le hF hI.mo16
    have hn : ¬ nI (fiE (mm.1 32 1) p) = (-1) := nI_nm1 (by omega)
    have hI0 : Inv a s ((sI mm 30 1 0 0).1 32 1) := hI
    by_cases hb : 0 ≤ c ∧ c ≤ 4
    · obtain ⟨j, hj, rfl⟩ := (rng_lit 4 (by decide) hb).ex
      have hj5 : j < 5 := by omega
      simp only [hF, hn, hR.ne0 h6, hR.oke i1 h6, reqC, m_isChamber, hb, c_whyM hR hI i1 hF hj5, m_whyM hI0 hF hj5, implies_true, z10, z21, z31, m_ref0, m_ref1, m_ref2, m_ref3, now_ref, ref_ref, hK, xA1, xA2, xB2, xC1, oK_1_1, oK_12_1, oK_12_2, oK_123_1, oK_123_2, oK_123_3, oK_13_1, oK_13_3, oK_2_2, oK_23_2, oK_23_3, oK_3_3, isB0, isB1, and_self, ne_eq, eq_self, not_true_eq_false, not_false_eq_true, false_implies, true_implies, true_and, and_true, forall_eq, if_true, if_false, reduceIte]
    · simp only [hF, hn, hR.ne0 h6, reqC, m_isChamber, hb, implies_true, z10, z21, z31, m_ref0, m_ref1, m_ref2, m_ref3, now_ref, ref_ref, hK, xA1, xA2, xB2, xC1, oK_1_1, oK_12_1, oK_12_2, oK_123_1, oK_123_2, oK_123_3, oK_13_1, oK_13_3, oK_2_2, oK_23_2, oK_23_3, oK_3_3, isB0, isB1, and_self, ne_eq, eq_self, not_true_eq_false, not_false_eq_true, false_implies, true_implies, true_and, and_true, forall_eq, if_true, if_false, reduceIte]
  · simp only [hF, implies_true, z10, z21, z31, m_ref0, m_ref1, m_ref2, m_ref3, now_ref, ref_ref, hK, xA1, xA2, xB2, xC1, oK_1_1, oK_12_1, oK_12_2, oK_123_1, oK_123_2, oK_123_3, oK_13_1, oK_13_3, oK_2_2, oK_23_2, oK_23_3, oK_3_3, isB0, isB1, and_self, ne_eq, eq_self, not_true_eq_false, not_false_eq_true, false_implies, true_implies, true_and, and_true, forall_eq, if_true, if_false, reduceIte]
theorem J_receiptKind (h : Rel a s mc mm) (hK : ∀ v, K mc (sI mm 30 1 0 v)) (p : Int32) : w_X9_receiptKind p mc (fun r => jq (w_X10_receiptKind p mm) (K mc) r) (fun k0 m1 => oK [1] k0 ∧ jx (w_X10_receiptKind p mm) (K m1) (xA k0)) := by
  have hR := h.rs
  have hI := h.inv
  have hd := hI.day
  simp only [w_X9_receiptKind, w_X9_receiptBack, c_findReceipt hR hI, w_X10_receiptKind, w_X10_ofPaper, w_X10_ofPaper_J14, m_isPaper, jq, jx]
  by_cases hF : 0 ≤ p ∧ p ≤ mm.1 32 1 68 - 1
  · obtain ⟨r, hr, rfl⟩ := (rng_ix hI.recs (by decide)).mp hF
    have hr12 : r < 12 := Nat.lt_of_lt_of_le hr hI.recs.2
    have ht : (nI r).toNatClampNeg = r := rs_tn (by omega)
    have hI0 : Inv a s ((sI mm 30 1 0 0).1 32 1) := hI
    have hx := rc_ix (mm.1 32 1) hr12 (q := 0) (by decide)
    rw [show (nI 0 : Int32) = 0 from rfl] at hx
    simp only [hF, ht, hR.nr0 hr12, hR.okr i1 hr12, hR.r0 hr, hx, implies_true, z10, z21, z31, m_ref0, m_ref1, m_ref2, m_ref3, now_ref, ref_ref, hK, xA1, xA2, xB2, xC1, oK_1_1, oK_12_1, oK_12_2, oK_123_1, oK_123_2, oK_123_3, oK_13_1, oK_13_3, oK_2_2, oK_23_2, oK_23_3, oK_3_3, isB0, isB1, and_self, ne_eq, eq_self, not_true_eq_false, not_false_eq_true, false_implies, true_implies, true_and, and_true, forall_eq, if_true, if_false, reduceIte]
  · simp only [hF, implies_true, z10, z21, z31, m_ref0, m_ref1, m_ref2, m_ref3, now_ref, ref_ref, hK, xA1, xA2, xB2, xC1, oK_1_1, oK_12_1, oK_12_2, oK_123_1, oK_123_2, oK_123_3, oK_13_1, oK_13_3, oK_2_2, oK_23_2, oK_23_3, oK_3_3, isB0, isB1, and_self, ne_eq, eq_self, not_true_eq_false, not_false_eq_true, false_implies, true_implies, true_and, and_true, forall_eq, if_true, if_false, reduceIte]
theorem J_receiptWeight (h : Rel a s mc mm) (hK : ∀ v, K mc (sI mm 30 1 0 v)) (p : Int32) : w_X9_receiptWeight p mc (fun r => jq (w_X10_receiptWeight p mm) (K mc) r) (fun k0 m1 => oK [1] k0 ∧ jx (w_X10_receiptWeight p mm) (K m1) (xA k0)) := by
  have hR := h.rs
  have hI := h.inv
  have hd := hI.day
  simp only [w_X9_receiptWeight, w_X9_receiptBack, c_findReceipt hR hI, w_X10_receiptWeight, w_X10_ofPaper, w_X10_ofPaper_J14, m_isPaper, jq, jx]
  by_cases hF : 0 ≤ p ∧ p ≤ mm.1 32 1 68 - 1
  · obtain ⟨r, hr, rfl⟩ := (rng_ix hI.recs (by decide)).mp hF
    have hr12 : r < 12 := Nat.lt_of_lt_of_le hr hI.recs.2
    have ht : (nI r).toNatClampNeg = r := rs_tn (by omega)
    have hI0 : Inv a s ((sI mm 30 1 0 0).1 32 1) := hI
    simp only [hF, ht, hR.nr0 hr12, hR.okr i1 hr12, hR.r1 hr, rc_ix1 (mm.1 32 1) hr12, implies_true, z10, z21, z31, m_ref0, m_ref1, m_ref2, m_ref3, now_ref, ref_ref, hK, xA1, xA2, xB2, xC1, oK_1_1, oK_12_1, oK_12_2, oK_123_1, oK_123_2, oK_123_3, oK_13_1, oK_13_3, oK_2_2, oK_23_2, oK_23_3, oK_3_3, isB0, isB1, and_self, ne_eq, eq_self, not_true_eq_false, not_false_eq_true, false_implies, true_implies, true_and, and_true, forall_eq, if_true, if_false, reduceIte]
  · simp only [hF, implies_true, z10, z21, z31, m_ref0, m_ref1, m_ref2, m_ref3, now_ref, ref_ref, hK, xA1, xA2, xB2, xC1, oK_1_1, oK_12_1, oK_12_2, oK_123_1, oK_123_2, oK_123_3, oK_13_1, oK_13_3, oK_2_2, oK_23_2, oK_23_3, oK_3_3, isB0, isB1, and_self, ne_eq, eq_self, not_true_eq_false, not_false_eq_true, false_implies, true_implies, true_and, and_true, forall_eq, if_true, if_false, reduceIte]
theorem J_receiptDuty (h : Rel a s mc mm) (hK : ∀ v, K mc (sI mm 30 1 0 v)) (p : Int32) : w_X9_receiptDuty p mc (fun r => jq (w_X10_receiptDuty p mm) (K mc) r) (fun k0 m1 => oK [1] k0 ∧ jx (w_X10_receiptDuty p mm) (K m1) (xA k0)) := by
  have hR := h.rs
  have hI := h.inv
  have hd := hI.day
  simp only [w_X9_receiptDuty, w_X9_receiptBack, c_findReceipt hR hI, w_X10_receiptDuty, w_X10_ofPaper, w_X10_ofPaper_J14, m_isPaper, jq, jx]
  by_cases hF : 0 ≤ p ∧ p ≤ mm.1 32 1 68 - 1
  · obtain ⟨r, hr, rfl⟩ := (rng_ix hI.recs (by decide)).mp hF
    have hr12 : r < 12 := Nat.lt_of_lt_of_le hr hI.recs.2
    have ht : (nI r).toNatClampNeg = r := rs_tn (by omega)
    have hI0 : Inv a s ((sI mm 30 1 0 0).1 32 1) := hI
    simp only [hF, ht, hR.nr0 hr12, hR.okr i1 hr12, hR.r2 hr, rc_ix2 (mm.1 32 1) hr12, implies_true, z10, z21, z31, m_ref0, m_ref1, m_ref2, m_ref3, now_ref, ref_ref, hK, xA1, xA2, xB2, xC1, oK_1_1, oK_12_1, oK_12_2, oK_123_1, oK_123_2, oK_123_3, oK_13_1, oK_13_3, oK_2_2, oK_23_2, oK_23_3, oK_3_3, isB0, isB1, and_self, ne_eq, eq_self, not_true_eq_false, not_false_eq_true, false_implies, true_implies, true_and, and_true, forall_eq, if_true, if_false, reduceIte]
  · simp only [hF, implies_true, z10, z21, z31, m_ref0, m_ref1, m_ref2, m_ref3, now_ref, ref_ref, hK, xA1, xA2, xB2, xC1, oK_1_1, oK_12_1, oK_12_2, oK_123_1, oK_123_2, oK_123_3, oK_13_1, oK_13_3, oK_2_2, oK_23_2, oK_23_3, oK_3_3, isB0, isB1, and_self, ne_eq, eq_self, not_true_eq_false, not_false_eq_true, false_implies, true_implies, true_and, and_true, forall_eq, if_true, if_false, reduceIte]
theorem J_receiptAge (h : Rel a s mc mm) (hK : ∀ v, K mc (sI mm 30 1 0 v)) (p : Int32) : w_X9_receiptAge p mc (fun r => jq (w_X10_receiptAge p mm) (K mc) r) (fun k0 m1 => oK [1] k0 ∧ jx (w_X10_receiptAge p mm) (K m1) (xA k0)) := by
  have hR := h.rs
  have hI := h.inv
  have hd := hI.day
  simp only [w_X9_receiptAge, w_X9_receiptBack, c_findReceipt hR hI, w_X10_receiptAge, w_X10_ofPaper, w_X10_ofPaper_J14, m_isPaper, jq, jx]
  by_cases hF : 0 ≤ p ∧ p ≤ mm.1 32 1 68 - 1
  · obtain ⟨r, hr, rfl⟩ := (rng_ix hI.recs (by decide)).mp hF
    have hr12 : r < 12 := Nat.lt_of_lt_of_le hr hI.recs.2
    have ht : (nI r).toNatClampNeg = r := rs_tn (by omega)
    have hI0 : Inv a s ((sI mm 30 1 0 0).1 32 1) := hI
    simp only [hF, ht, hR.nr0 hr12, hR.okr i1 hr12, hR.r3 hr, hR.day, rc_ix3 (mm.1 32 1) hr12, show (0 : Int32) ≤ 0 by decide, implies_true, z10, z21, z31, m_ref0, m_ref1, m_ref2, m_ref3, now_ref, ref_ref, hK, xA1, xA2, xB2, xC1, oK_1_1, oK_12_1, oK_12_2, oK_123_1, oK_123_2, oK_123_3, oK_13_1, oK_13_3, oK_2_2, oK_23_2, oK_23_3, oK_3_3, isB0, isB1, and_self, ne_eq, eq_self, not_true_eq_false, not_false_eq_true, false_implies, true_implies, true_and, and_true, forall_eq, if_true, if_false, reduceIte]
  · simp only [hF, show ¬ (1 : Int32) ≤ 0 by decide, implies_true, z10, z21, z31, m_ref0, m_ref1, m_ref2, m_ref3, now_ref, ref_ref, hK, xA1, xA2, xB2, xC1, oK_1_1, oK_12_1, oK_12_2, oK_123_1, oK_123_2, oK_123_3, oK_13_1, oK_13_3, oK_2_2, oK_23_2, oK_23_3, oK_3_3, isB0, isB1, and_self, ne_eq, eq_self, not_true_eq_false, not_false_eq_true, false_implies, true_implies, true_and, and_true, forall_eq, if_true, if_false, reduceIte]
theorem J_whyNoDrawback (h : Rel a s mc mm) (hK : ∀ v, K mc (sI mm 30 1 0 v)) (p : Int32) (w : Int32) : w_X9_whyNoDrawback p w mc (fun r => jq (w_X10_whyNoDrawback p w mm) (K mc) r) (fun k0 m1 => oK [1, 2] k0 ∧ jx (w_X10_whyNoDrawback p w mm) (K m1) (xA k0)) := by
  have hR := h.rs
  have hI := h.inv
  have hd := hI.day
  simp only [w_X9_whyNoDrawback, w_X9_receiptBack, c_findReceipt hR hI, w_X10_whyNoDrawback, m_isPaper, jq, jx]
  by_cases hF : 0 ≤ p ∧ p ≤ mm.1 32 1 68 - 1
  · obtain ⟨r, hr, rfl⟩ := (rng_ix hI.recs (by decide)).mp hF
    have hr12 : r < 12 := Nat.lt_of_lt_of_le hr hI.recs.2
    have ht : (nI r).toNatClampNeg = r := rs_tn (by omega)
    have hI0 : Inv a s ((sI mm 30 1 0 0).1 32 1) := hI
    by_cases hb : 1 ≤ w ∧ w ≤ 999
    · simp only [hF, ht, hR.nr0 hr12, hR.okr i1 hr12, reqW, m_isWeight, hb, c_whyD hR hr, m_whyD hr12, implies_true, z10, z21, z31, m_ref0, m_ref1, m_ref2, m_ref3, now_ref, ref_ref, hK, xA1, xA2, xB2, xC1, oK_1_1, oK_12_1, oK_12_2, oK_123_1, oK_123_2, oK_123_3, oK_13_1, oK_13_3, oK_2_2, oK_23_2, oK_23_3, oK_3_3, isB0, isB1, and_self, ne_eq, eq_self, not_true_eq_false, not_false_eq_true, false_implies, true_implies, true_and, and_true, forall_eq, if_true, if_false, reduceIte]
    · simp only [hF, ht, hR.nr0 hr12, hR.okr i1 hr12, reqW, m_isWeight, hb, implies_true, z10, z21, z31, m_ref0, m_ref1, m_ref2, m_ref3, now_ref, ref_ref, hK, xA1, xA2, xB2, xC1, oK_1_1, oK_12_1, oK_12_2, oK_123_1, oK_123_2, oK_123_3, oK_13_1, oK_13_3, oK_2_2, oK_23_2, oK_23_3, oK_3_3, isB0, isB1, and_self, ne_eq, eq_self, not_true_eq_false, not_false_eq_true, false_implies, true_implies, true_and, and_true, forall_eq, if_true, if_false, reduceIte]
  · simp only [hF, implies_true, z10, z21, z31, m_ref0, m_ref1, m_ref2, m_ref3, now_ref, ref_ref, hK, xA1, xA2, xB2, xC1, oK_1_1, oK_12_1, oK_12_2, oK_123_1, oK_123_2, oK_123_3, oK_13_1, oK_13_3, oK_2_2, oK_23_2, oK_23_3, oK_3_3, isB0, isB1, and_self, ne_eq, eq_self, not_true_eq_false, not_false_eq_true, false_implies, true_implies, true_and, and_true, forall_eq, if_true, if_false, reduceIte]
theorem J_drawbackFor (h : Rel a s mc mm) (hK : ∀ v, K mc (sI mm 30 1 0 v)) (p : Int32) (w : Int32) : w_X9_drawbackFor p w mc (fun r => jq (w_X10_drawbackFor p w mm) (K mc) r) (fun k0 m1 => oK [1, 2] k0 ∧ jx (w_X10_drawbackFor p w mm) (K m1) (xA k0)) := by
  have hR := h.rs
  have hI := h.inv
  have hd := hI.day
  simp only [w_X9_drawbackFor, w_X9_receiptBack, c_findReceipt hR hI, w_X10_drawbackFor, m_isPaper, jq, jx]
  by_cases hF : 0 ≤ p ∧ p ≤ mm.1 32 1 68 - 1
  · obtain ⟨r, hr, rfl⟩ := (rng_ix hI.recs (by decide)).mp hF
    have hr12 : r < 12 := Nat.lt_of_lt_of_le hr hI.recs.2
    have ht : (nI r).toNatClampNeg = r := rs_tn (by omega)
    have hI0 : Inv a s ((sI mm 30 1 0 0).1 32 1) := hI
    by_cases hb : 1 ≤ w ∧ w ≤ rc (mm.1 32 1) r 1
    · have hp : 0 < rc (mm.1 32 1) r 1 := by
        have h1 := hb.1
        have h2 := hb.2
        rw [Int32.le_iff_toInt_le] at h1 h2
        rw [Int32.lt_iff_toInt_lt]
        simp at h1 ⊢
        omega
      have h0 : ¬ rc ((sI mm 30 1 0 0).1 32 1) r 1 = 0 := fun e => by
        have e : rc (mm.1 32 1) r 1 = 0 := e
        rw [e] at hp
        exact absurd hp (by decide)
      simp only [hF, ht, hR.nr0 hr12, hR.okr i1 hr12, reqW, rc_ix1 (mm.1 32 1) hr12, hR.r1 hr, w_1_e, hb, c_dutyPart hR hr hp, w_X9_paidBackOf, m_backOf hr12 h0, backF, implies_true, z10, z21, z31, m_ref0, m_ref1, m_ref2, m_ref3, now_ref, ref_ref, hK, xA1, xA2, xB2, xC1, oK_1_1, oK_12_1, oK_12_2, oK_123_1, oK_123_2, oK_123_3, oK_13_1, oK_13_3, oK_2_2, oK_23_2, oK_23_3, oK_3_3, isB0, isB1, and_self, ne_eq, eq_self, not_true_eq_false, not_false_eq_true, false_implies, true_implies, true_and, and_true, forall_eq, if_true, if_false, reduceIte]
    · simp only [hF, ht, hR.nr0 hr12, hR.okr i1 hr12, reqW, rc_ix1 (mm.1 32 1) hr12, hR.r1 hr, w_1_e, hb, implies_true, z10, z21, z31, m_ref0, m_ref1, m_ref2, m_ref3, now_ref, ref_ref, hK, xA1, xA2, xB2, xC1, oK_1_1, oK_12_1, oK_12_2, oK_123_1, oK_123_2, oK_123_3, oK_13_1, oK_13_3, oK_2_2, oK_23_2, oK_23_3, oK_3_3, isB0, isB1, and_self, ne_eq, eq_self, not_true_eq_false, not_false_eq_true, false_implies, true_implies, true_and, and_true, forall_eq, if_true, if_false, reduceIte]
  · simp only [hF, implies_true, z10, z21, z31, m_ref0, m_ref1, m_ref2, m_ref3, now_ref, ref_ref, hK, xA1, xA2, xB2, xC1, oK_1_1, oK_12_1, oK_12_2, oK_123_1, oK_123_2, oK_123_3, oK_13_1, oK_13_3, oK_2_2, oK_23_2, oK_23_3, oK_3_3, isB0, isB1, and_self, ne_eq, eq_self, not_true_eq_false, not_false_eq_true, false_implies, true_implies, true_and, and_true, forall_eq, if_true, if_false, reduceIte]
theorem J_entryAt (h : Rel a s mc mm) (hK : ∀ v, K mc (sI mm 30 1 0 v)) (p : Int32) : w_X9_entryAt p mc (fun r => jq (w_X10_entryAt p mm) (K mc) r) (fun k0 m1 => oK [1] k0 ∧ jx (w_X10_entryAt p mm) (K m1) (xA k0)) := by
  have hR := h.rs
  have hI := h.inv
  have hd := hI.day
  have h9 : w_X10_entryAt p mm = fun Q9 => w_X10_entryAt p mm Q9 := rfl
  simp only [w_X9_entryAt, isWithin_iff, hR.opn, w_X10_entryAt, w_0_e, jq, jx]
  by_cases hF : 0 ≤ p ∧ p ≤ mm.1 32 1 117 - 1
  · obtain ⟨r, hr, rfl⟩ := (rng_ix hI.opn (by decide)).mp hF
    have h6 : r < 16 := Nat.lt_of_lt_of_le hr hI.opn.2
    have ht : (nI r).toNatClampNeg = r := rs_tn (by omega)
    have hv : vp_in (nI r) 16 := vp_in_nI h6 (by decide)
    simp only [hF, ht, hv, hR.oke i1 h6, hR.e0 hr, m_of0 h6, implies_true, z10, z21, z31, m_ref0, m_ref1, m_ref2, m_ref3, now_ref, ref_ref, hK, xA1, xA2, xB2, xC1, oK_1_1, oK_12_1, oK_12_2, oK_123_1, oK_123_2, oK_123_3, oK_13_1, oK_13_3, oK_2_2, oK_23_2, oK_23_3, oK_3_3, isB0, isB1, and_self, ne_eq, eq_self, not_true_eq_false, not_false_eq_true, false_implies, true_implies, true_and, and_true, forall_eq, if_true, if_false, reduceIte]
  · simp only [hF, implies_true, z10, z21, z31, m_ref0, m_ref1, m_ref2, m_ref3, now_ref, ref_ref, hK, xA1, xA2, xB2, xC1, oK_1_1, oK_12_1, oK_12_2, oK_123_1, oK_123_2, oK_123_3, oK_13_1, oK_13_3, oK_2_2, oK_23_2, oK_23_3, oK_3_3, isB0, isB1, and_self, ne_eq, eq_self, not_true_eq_false, not_false_eq_true, false_implies, true_implies, true_and, and_true, forall_eq, if_true, if_false, reduceIte]
theorem kx (f : Nat → Int32) {b k : Nat} (hb : b ≤ 26) (hk : k < 6) : f (nI b + nI k).toNatClampNeg = f (b + k) ∧ vp_in (nI b + nI k) 246 := by
  rw [nI_add, rs_tn (by omega)]
  exact ⟨rfl, vp_in_nI (by omega) (by omega)⟩
theorem kx20 (f : Nat → Int32) {k : Nat} (hk : k < 6) : f ((20 : Int32) + nI k).toNatClampNeg = f (20 + k) ∧ vp_in ((20 : Int32) + nI k) 246 := kx f (b := 20) (by decide) hk
theorem kx26 (f : Nat → Int32) {k : Nat} (hk : k < 6) : f ((26 : Int32) + nI k).toNatClampNeg = f (26 + k) ∧ vp_in ((26 : Int32) + nI k) 246 := kx f (b := 26) (by decide) hk
theorem tx (f : Nat → Int32) {k q : Nat} (hk : k < 6) (hq : q < 6) : f ((32 : Int32) + 6 * nI k + nI q).toNatClampNeg = f (32 + 6 * k + q) ∧ vp_in ((32 : Int32) + 6 * nI k + nI q) 246 := by
  rw [show (32 : Int32) = nI 32 from rfl, show (6 : Int32) = nI 6 from rfl, pk_mul, nI_add, nI_add, rs_tn (by omega)]
  exact ⟨rfl, vp_in_nI (by omega) (by omega)⟩
theorem tx0 (f : Nat → Int32) {k : Nat} (hk : k < 6) : f ((32 : Int32) + 6 * nI k + 0).toNatClampNeg = f (30 + 6 * k + 2) ∧ vp_in ((32 : Int32) + 6 * nI k + 0) 246 := by
  have h := tx f hk (q := 0) (by decide)
  rw [show 30 + 6 * k + 2 = 32 + 6 * k + 0 by omega]
  exact h
theorem tx1 (f : Nat → Int32) {k : Nat} (hk : k < 6) : f ((32 : Int32) + 6 * nI k + 1).toNatClampNeg = f (30 + 6 * k + 3) ∧ vp_in ((32 : Int32) + 6 * nI k + 1) 246 := by
  have h := tx f hk (q := 1) (by decide)
  rw [show 30 + 6 * k + 3 = 32 + 6 * k + 1 by omega]
  exact h
theorem tx2 (f : Nat → Int32) {k : Nat} (hk : k < 6) : f ((32 : Int32) + 6 * nI k + 2).toNatClampNeg = f (30 + 6 * k + 4) ∧ vp_in ((32 : Int32) + 6 * nI k + 2) 246 := by
  have h := tx f hk (q := 2) (by decide)
  rw [show 30 + 6 * k + 4 = 32 + 6 * k + 2 by omega]
  exact h
theorem tx3 (f : Nat → Int32) {k : Nat} (hk : k < 6) : f ((32 : Int32) + 6 * nI k + 3).toNatClampNeg = f (30 + 6 * k + 5) ∧ vp_in ((32 : Int32) + 6 * nI k + 3) 246 := by
  have h := tx f hk (q := 3) (by decide)
  rw [show 30 + 6 * k + 5 = 32 + 6 * k + 3 by omega]
  exact h
theorem tx4 (f : Nat → Int32) {k : Nat} (hk : k < 6) : f ((32 : Int32) + 6 * nI k + 4).toNatClampNeg = f (30 + 6 * k + 6) ∧ vp_in ((32 : Int32) + 6 * nI k + 4) 246 := by
  have h := tx f hk (q := 4) (by decide)
  rw [show 30 + 6 * k + 6 = 32 + 6 * k + 4 by omega]
  exact h
theorem tx5 (f : Nat → Int32) {k : Nat} (hk : k < 6) : f ((32 : Int32) + 6 * nI k + 5).toNatClampNeg = f (30 + 6 * k + 7) ∧ vp_in ((32 : Int32) + 6 * nI k + 5) 246 := by
  have h := tx f hk (q := 5) (by decide)
  rw [show 30 + 6 * k + 7 = 32 + 6 * k + 5 by omega]
  exact h
theorem J_rateByValue (h : Rel a s mc mm) (hK : ∀ v, K mc (sI mm 30 1 0 v)) (p : Int32) : w_X9_rateByValue p mc (fun r => jq (w_X10_rateByValue p mm) (K mc) r) (fun k0 m1 => oK [2] k0 ∧ jx (w_X10_rateByValue p mm) (K m1) (xB k0)) := by
  have hR := h.rs
  have hI := h.inv
  have hd := hI.day
  simp only [w_X9_rateByValue, w_X9_accountOfKind, reqW, w_X10_rateByValue, w_X10_ofKind, w_X10_ofKind_J13, m_isKind, jq, jx]
  by_cases hF : 0 ≤ p ∧ p ≤ 5
  · obtain ⟨k, hk, rfl⟩ := (rng_lit 5 (by decide) hF).ex
    have hk6 : k < 6 := by omega
    have ht : (nI k).toNatClampNeg = k := rs_tn (by omega)
    have hv : vp_in (nI k) 6 := vp_in_nI hk6 (by decide)
    have hI0 : Inv a s ((sI mm 30 1 0 0).1 32 1) := hI
    have ho : ok 6 (6 * (1 - 1) + k + 1) := by
      show 1 ≤ _ ∧ _ ≤ 54
      omega
    simp only [hF, ht, hv, ho, hR.k0 hk6, kx20 (mm.1 32 1) hk6, implies_true, z10, z21, z31, m_ref0, m_ref1, m_ref2, m_ref3, now_ref, ref_ref, hK, xA1, xA2, xB2, xC1, oK_1_1, oK_12_1, oK_12_2, oK_123_1, oK_123_2, oK_123_3, oK_13_1, oK_13_3, oK_2_2, oK_23_2, oK_23_3, oK_3_3, isB0, isB1, and_self, ne_eq, eq_self, not_true_eq_false, not_false_eq_true, false_implies, true_implies, true_and, and_true, forall_eq, if_true, if_false, reduceIte]
  · simp only [hF, implies_true, z10, z21, z31, m_ref0, m_ref1, m_ref2, m_ref3, now_ref, ref_ref, hK, xA1, xA2, xB2, xC1, oK_1_1, oK_12_1, oK_12_2, oK_123_1, oK_123_2, oK_123_3, oK_13_1, oK_13_3, oK_2_2, oK_23_2, oK_23_3, oK_3_3, isB0, isB1, and_self, ne_eq, eq_self, not_true_eq_false, not_false_eq_true, false_implies, true_implies, true_and, and_true, forall_eq, if_true, if_false, reduceIte]
theorem J_rateByWeight (h : Rel a s mc mm) (hK : ∀ v, K mc (sI mm 30 1 0 v)) (p : Int32) : w_X9_rateByWeight p mc (fun r => jq (w_X10_rateByWeight p mm) (K mc) r) (fun k0 m1 => oK [2] k0 ∧ jx (w_X10_rateByWeight p mm) (K m1) (xB k0)) := by
  have hR := h.rs
  have hI := h.inv
  have hd := hI.day
  simp only [w_X9_rateByWeight, w_X9_accountOfKind, reqW, w_X10_rateByWeight, w_X10_ofKind, w_X10_ofKind_J13, m_isKind, jq, jx]
  by_cases hF : 0 ≤ p ∧ p ≤ 5
  · obtain ⟨k, hk, rfl⟩ := (rng_lit 5 (by decide) hF).ex
    have hk6 : k < 6 := by omega
    have ht : (nI k).toNatClampNeg = k := rs_tn (by omega)
    have hv : vp_in (nI k) 6 := vp_in_nI hk6 (by decide)
    have hI0 : Inv a s ((sI mm 30 1 0 0).1 32 1) := hI
    have ho : ok 6 (6 * (1 - 1) + k + 1) := by
      show 1 ≤ _ ∧ _ ≤ 54
      omega
    simp only [hF, ht, hv, ho, hR.k1 hk6, kx26 (mm.1 32 1) hk6, implies_true, z10, z21, z31, m_ref0, m_ref1, m_ref2, m_ref3, now_ref, ref_ref, hK, xA1, xA2, xB2, xC1, oK_1_1, oK_12_1, oK_12_2, oK_123_1, oK_123_2, oK_123_3, oK_13_1, oK_13_3, oK_2_2, oK_23_2, oK_23_3, oK_3_3, isB0, isB1, and_self, ne_eq, eq_self, not_true_eq_false, not_false_eq_true, false_implies, true_implies, true_and, and_true, forall_eq, if_true, if_false, reduceIte]
  · simp only [hF, implies_true, z10, z21, z31, m_ref0, m_ref1, m_ref2, m_ref3, now_ref, ref_ref, hK, xA1, xA2, xB2, xC1, oK_1_1, oK_12_1, oK_12_2, oK_123_1, oK_123_2, oK_123_3, oK_13_1, oK_13_3, oK_2_2, oK_23_2, oK_23_3, oK_3_3, isB0, isB1, and_self, ne_eq, eq_self, not_true_eq_false, not_false_eq_true, false_implies, true_implies, true_and, and_true, forall_eq, if_true, if_false, reduceIte]
theorem J_entered (h : Rel a s mc mm) (hK : ∀ v, K mc (sI mm 30 1 0 v)) (p : Int32) : w_X9_entered p mc (fun r => jq (w_X10_entered p mm) (K mc) r) (fun k0 m1 => oK [2] k0 ∧ jx (w_X10_entered p mm) (K m1) (xB k0)) := by
  have hR := h.rs
  have hI := h.inv
  have hd := hI.day
  simp only [w_X9_entered, w_X9_accountOfKind, reqW, w_X10_entered, w_X10_totalOf, w_X10_totalOf_J13, m_isKind, jq, jx]
  by_cases hF : 0 ≤ p ∧ p ≤ 5
  · obtain ⟨k, hk, rfl⟩ := (rng_lit 5 (by decide) hF).ex
    have hk6 : k < 6 := by omega
    have ht : (nI k).toNatClampNeg = k := rs_tn (by omega)
    have hv : vp_in (nI k) 6 := vp_in_nI hk6 (by decide)
    have hI0 : Inv a s ((sI mm 30 1 0 0).1 32 1) := hI
    have ho : ok 6 (6 * (1 - 1) + k + 1) := by
      show 1 ≤ _ ∧ _ ≤ 54
      omega
    simp only [hF, ht, hv, ho, hR.k2 hk6, tx0 (mm.1 32 1) hk6, implies_true, z10, z21, z31, m_ref0, m_ref1, m_ref2, m_ref3, now_ref, ref_ref, hK, xA1, xA2, xB2, xC1, oK_1_1, oK_12_1, oK_12_2, oK_123_1, oK_123_2, oK_123_3, oK_13_1, oK_13_3, oK_2_2, oK_23_2, oK_23_3, oK_3_3, isB0, isB1, and_self, ne_eq, eq_self, not_true_eq_false, not_false_eq_true, false_implies, true_implies, true_and, and_true, forall_eq, if_true, if_false, reduceIte]
  · simp only [hF, implies_true, z10, z21, z31, m_ref0, m_ref1, m_ref2, m_ref3, now_ref, ref_ref, hK, xA1, xA2, xB2, xC1, oK_1_1, oK_12_1, oK_12_2, oK_123_1, oK_123_2, oK_123_3, oK_13_1, oK_13_3, oK_2_2, oK_23_2, oK_23_3, oK_3_3, isB0, isB1, and_self, ne_eq, eq_self, not_true_eq_false, not_false_eq_true, false_implies, true_implies, true_and, and_true, forall_eq, if_true, if_false, reduceIte]
theorem J_withdrawn (h : Rel a s mc mm) (hK : ∀ v, K mc (sI mm 30 1 0 v)) (p : Int32) : w_X9_withdrawn p mc (fun r => jq (w_X10_withdrawn p mm) (K mc) r) (fun k0 m1 => oK [2] k0 ∧ jx (w_X10_withdrawn p mm) (K m1) (xB k0)) := by
  have hR := h.rs
  have hI := h.inv
  have hd := hI.day
  simp only [w_X9_withdrawn, w_X9_accountOfKind, reqW, w_X10_withdrawn, w_X10_totalOf, w_X10_totalOf_J13, m_isKind, jq, jx]
  by_cases hF : 0 ≤ p ∧ p ≤ 5
  · obtain ⟨k, hk, rfl⟩ := (rng_lit 5 (by decide) hF).ex
    have hk6 : k < 6 := by omega
    have ht : (nI k).toNatClampNeg = k := rs_tn (by omega)
    have hv : vp_in (nI k) 6 := vp_in_nI hk6 (by decide)
    have hI0 : Inv a s ((sI mm 30 1 0 0).1 32 1) := hI
    have ho : ok 6 (6 * (1 - 1) + k + 1) := by
      show 1 ≤ _ ∧ _ ≤ 54
      omega
    simp only [hF, ht, hv, ho, hR.k3 hk6, tx1 (mm.1 32 1) hk6, implies_true, z10, z21, z31, m_ref0, m_ref1, m_ref2, m_ref3, now_ref, ref_ref, hK, xA1, xA2, xB2, xC1, oK_1_1, oK_12_1, oK_12_2, oK_123_1, oK_123_2, oK_123_3, oK_13_1, oK_13_3, oK_2_2, oK_23_2, oK_23_3, oK_3_3, isB0, isB1, and_self, ne_eq, eq_self, not_true_eq_false, not_false_eq_true, false_implies, true_implies, true_and, and_true, forall_eq, if_true, if_false, reduceIte]
  · simp only [hF, implies_true, z10, z21, z31, m_ref0, m_ref1, m_ref2, m_ref3, now_ref, ref_ref, hK, xA1, xA2, xB2, xC1, oK_1_1, oK_12_1, oK_12_2, oK_123_1, oK_123_2, oK_123_3, oK_13_1, oK_13_3, oK_2_2, oK_23_2, oK_23_3, oK_3_3, isB0, isB1, and_self, ne_eq, eq_self, not_true_eq_false, not_false_eq_true, false_implies, true_implies, true_and, and_true, forall_eq, if_true, if_false, reduceIte]
theorem J_sentAbroad (h : Rel a s mc mm) (hK : ∀ v, K mc (sI mm 30 1 0 v)) (p : Int32) : w_X9_sentAbroad p mc (fun r => jq (w_X10_sentAbroad p mm) (K mc) r) (fun k0 m1 => oK [2] k0 ∧ jx (w_X10_sentAbroad p mm) (K m1) (xB k0)) := by
  have hR := h.rs
  have hI := h.inv
  have hd := hI.day
  simp only [w_X9_sentAbroad, w_X9_accountOfKind, reqW, w_X10_sentAbroad, w_X10_totalOf, w_X10_totalOf_J13, m_isKind, jq, jx]
  by_cases hF : 0 ≤ p ∧ p ≤ 5
  · obtain ⟨k, hk, rfl⟩ := (rng_lit 5 (by decide) hF).ex
    have hk6 : k < 6 := by omega
    have ht : (nI k).toNatClampNeg = k := rs_tn (by omega)
    have hv : vp_in (nI k) 6 := vp_in_nI hk6 (by decide)
    have hI0 : Inv a s ((sI mm 30 1 0 0).1 32 1) := hI
    have ho : ok 6 (6 * (1 - 1) + k + 1) := by
      show 1 ≤ _ ∧ _ ≤ 54
      omega
    simp only [hF, ht, hv, ho, hR.k4 hk6, tx2 (mm.1 32 1) hk6, implies_true, z10, z21, z31, m_ref0, m_ref1, m_ref2, m_ref3, now_ref, ref_ref, hK, xA1, xA2, xB2, xC1, oK_1_1, oK_12_1, oK_12_2, oK_123_1, oK_123_2, oK_123_3, oK_13_1, oK_13_3, oK_2_2, oK_23_2, oK_23_3, oK_3_3, isB0, isB1, and_self, ne_eq, eq_self, not_true_eq_false, not_false_eq_true, false_implies, true_implies, true_and, and_true, forall_eq, if_true, if_false, reduceIte]
  · simp only [hF, implies_true, z10, z21, z31, m_ref0, m_ref1, m_ref2, m_ref3, now_ref, ref_ref, hK, xA1, xA2, xB2, xC1, oK_1_1, oK_12_1, oK_12_2, oK_123_1, oK_123_2, oK_123_3, oK_13_1, oK_13_3, oK_2_2, oK_23_2, oK_23_3, oK_3_3, isB0, isB1, and_self, ne_eq, eq_self, not_true_eq_false, not_false_eq_true, false_implies, true_implies, true_and, and_true, forall_eq, if_true, if_false, reduceIte]
theorem J_wasted (h : Rel a s mc mm) (hK : ∀ v, K mc (sI mm 30 1 0 v)) (p : Int32) : w_X9_wasted p mc (fun r => jq (w_X10_wasted p mm) (K mc) r) (fun k0 m1 => oK [2] k0 ∧ jx (w_X10_wasted p mm) (K m1) (xB k0)) := by
  have hR := h.rs
  have hI := h.inv
  have hd := hI.day
  simp only [w_X9_wasted, w_X9_accountOfKind, reqW, w_X10_wasted, w_X10_totalOf, w_X10_totalOf_J13, m_isKind, jq, jx]
  by_cases hF : 0 ≤ p ∧ p ≤ 5
  · obtain ⟨k, hk, rfl⟩ := (rng_lit 5 (by decide) hF).ex
    have hk6 : k < 6 := by omega
    have ht : (nI k).toNatClampNeg = k := rs_tn (by omega)
    have hv : vp_in (nI k) 6 := vp_in_nI hk6 (by decide)
    have hI0 : Inv a s ((sI mm 30 1 0 0).1 32 1) := hI
    have ho : ok 6 (6 * (1 - 1) + k + 1) := by
      show 1 ≤ _ ∧ _ ≤ 54
      omega
    simp only [hF, ht, hv, ho, hR.k5 hk6, tx3 (mm.1 32 1) hk6, implies_true, z10, z21, z31, m_ref0, m_ref1, m_ref2, m_ref3, now_ref, ref_ref, hK, xA1, xA2, xB2, xC1, oK_1_1, oK_12_1, oK_12_2, oK_123_1, oK_123_2, oK_123_3, oK_13_1, oK_13_3, oK_2_2, oK_23_2, oK_23_3, oK_3_3, isB0, isB1, and_self, ne_eq, eq_self, not_true_eq_false, not_false_eq_true, false_implies, true_implies, true_and, and_true, forall_eq, if_true, if_false, reduceIte]
  · simp only [hF, implies_true, z10, z21, z31, m_ref0, m_ref1, m_ref2, m_ref3, now_ref, ref_ref, hK, xA1, xA2, xB2, xC1, oK_1_1, oK_12_1, oK_12_2, oK_123_1, oK_123_2, oK_123_3, oK_13_1, oK_13_3, oK_2_2, oK_23_2, oK_23_3, oK_3_3, isB0, isB1, and_self, ne_eq, eq_self, not_true_eq_false, not_false_eq_true, false_implies, true_implies, true_and, and_true, forall_eq, if_true, if_false, reduceIte]
theorem J_lost (h : Rel a s mc mm) (hK : ∀ v, K mc (sI mm 30 1 0 v)) (p : Int32) : w_X9_lost p mc (fun r => jq (w_X10_lost p mm) (K mc) r) (fun k0 m1 => oK [2] k0 ∧ jx (w_X10_lost p mm) (K m1) (xB k0)) := by
  have hR := h.rs
  have hI := h.inv
  have hd := hI.day
  simp only [w_X9_lost, w_X9_accountOfKind, reqW, w_X10_lost, w_X10_totalOf, w_X10_totalOf_J13, m_isKind, jq, jx]
  by_cases hF : 0 ≤ p ∧ p ≤ 5
  · obtain ⟨k, hk, rfl⟩ := (rng_lit 5 (by decide) hF).ex
    have hk6 : k < 6 := by omega
    have ht : (nI k).toNatClampNeg = k := rs_tn (by omega)
    have hv : vp_in (nI k) 6 := vp_in_nI hk6 (by decide)
    have hI0 : Inv a s ((sI mm 30 1 0 0).1 32 1) := hI
    have ho : ok 6 (6 * (1 - 1) + k + 1) := by
      show 1 ≤ _ ∧ _ ≤ 54
      omega
    simp only [hF, ht, hv, ho, hR.k6 hk6, tx4 (mm.1 32 1) hk6, implies_true, z10, z21, z31, m_ref0, m_ref1, m_ref2, m_ref3, now_ref, ref_ref, hK, xA1, xA2, xB2, xC1, oK_1_1, oK_12_1, oK_12_2, oK_123_1, oK_123_2, oK_123_3, oK_13_1, oK_13_3, oK_2_2, oK_23_2, oK_23_3, oK_3_3, isB0, isB1, and_self, ne_eq, eq_self, not_true_eq_false, not_false_eq_true, false_implies, true_implies, true_and, and_true, forall_eq, if_true, if_false, reduceIte]
  · simp only [hF, implies_true, z10, z21, z31, m_ref0, m_ref1, m_ref2, m_ref3, now_ref, ref_ref, hK, xA1, xA2, xB2, xC1, oK_1_1, oK_12_1, oK_12_2, oK_123_1, oK_123_2, oK_123_3, oK_13_1, oK_13_3, oK_2_2, oK_23_2, oK_23_3, oK_3_3, isB0, isB1, and_self, ne_eq, eq_self, not_true_eq_false, not_false_eq_true, false_implies, true_implies, true_and, and_true, forall_eq, if_true, if_false, reduceIte]
theorem J_drawnBack (h : Rel a s mc mm) (hK : ∀ v, K mc (sI mm 30 1 0 v)) (p : Int32) : w_X9_drawnBack p mc (fun r => jq (w_X10_drawnBack p mm) (K mc) r) (fun k0 m1 => oK [2] k0 ∧ jx (w_X10_drawnBack p mm) (K m1) (xB k0)) := by
  have hR := h.rs
  have hI := h.inv
  have hd := hI.day
  simp only [w_X9_drawnBack, w_X9_accountOfKind, reqW, w_X10_drawnBack, w_X10_totalOf, w_X10_totalOf_J13, m_isKind, jq, jx]
  by_cases hF : 0 ≤ p ∧ p ≤ 5
  · obtain ⟨k, hk, rfl⟩ := (rng_lit 5 (by decide) hF).ex
    have hk6 : k < 6 := by omega
    have ht : (nI k).toNatClampNeg = k := rs_tn (by omega)
    have hv : vp_in (nI k) 6 := vp_in_nI hk6 (by decide)
    have hI0 : Inv a s ((sI mm 30 1 0 0).1 32 1) := hI
    have ho : ok 6 (6 * (1 - 1) + k + 1) := by
      show 1 ≤ _ ∧ _ ≤ 54
      omega
    simp only [hF, ht, hv, ho, hR.k7 hk6, tx5 (mm.1 32 1) hk6, implies_true, z10, z21, z31, m_ref0, m_ref1, m_ref2, m_ref3, now_ref, ref_ref, hK, xA1, xA2, xB2, xC1, oK_1_1, oK_12_1, oK_12_2, oK_123_1, oK_123_2, oK_123_3, oK_13_1, oK_13_3, oK_2_2, oK_23_2, oK_23_3, oK_3_3, isB0, isB1, and_self, ne_eq, eq_self, not_true_eq_false, not_false_eq_true, false_implies, true_implies, true_and, and_true, forall_eq, if_true, if_false, reduceIte]
  · simp only [hF, implies_true, z10, z21, z31, m_ref0, m_ref1, m_ref2, m_ref3, now_ref, ref_ref, hK, xA1, xA2, xB2, xC1, oK_1_1, oK_12_1, oK_12_2, oK_123_1, oK_123_2, oK_123_3, oK_13_1, oK_13_3, oK_2_2, oK_23_2, oK_23_3, oK_3_3, isB0, isB1, and_self, ne_eq, eq_self, not_true_eq_false, not_false_eq_true, false_implies, true_implies, true_and, and_true, forall_eq, if_true, if_false, reduceIte]
theorem J_stockByTotals (h : Rel a s mc mm) (hK : ∀ v, K mc (sI mm 30 1 0 v)) (p : Int32) : w_X9_stockByTotals p mc (fun r => jq (w_X10_stockByTotals p mm) (K mc) r) (fun k0 m1 => oK [2] k0 ∧ jx (w_X10_stockByTotals p mm) (K m1) (xB k0)) := by
  have hR := h.rs
  have hI := h.inv
  have hd := hI.day
  simp only [w_X9_stockByTotals, w_X9_accountOfKind, reqW, w_X10_stockByTotals, w_X10_stockByTotals_J13, m_isKind, jq, jx]
  by_cases hF : 0 ≤ p ∧ p ≤ 5
  · obtain ⟨k, hk, rfl⟩ := (rng_lit 5 (by decide) hF).ex
    have hk6 : k < 6 := by omega
    have ht : (nI k).toNatClampNeg = k := rs_tn (by omega)
    have hv : vp_in (nI k) 6 := vp_in_nI hk6 (by decide)
    have hI0 : Inv a s ((sI mm 30 1 0 0).1 32 1) := hI
    have ho : ok 6 (6 * (1 - 1) + k + 1) := by
      show 1 ≤ _ ∧ _ ≤ 54
      omega
    simp only [hF, ht, hv, ho, hR.k2 hk6, hR.k3 hk6, hR.k4 hk6, hR.k5 hk6, hR.k6 hk6, tx0 (mm.1 32 1) hk6, tx1 (mm.1 32 1) hk6, tx2 (mm.1 32 1) hk6, tx3 (mm.1 32 1) hk6, tx4 (mm.1 32 1) hk6, implies_true, z10, z21, z31, m_ref0, m_ref1, m_ref2, m_ref3, now_ref, ref_ref, hK, xA1, xA2, xB2, xC1, oK_1_1, oK_12_1, oK_12_2, oK_123_1, oK_123_2, oK_123_3, oK_13_1, oK_13_3, oK_2_2, oK_23_2, oK_23_3, oK_3_3, isB0, isB1, and_self, ne_eq, eq_self, not_true_eq_false, not_false_eq_true, false_implies, true_implies, true_and, and_true, forall_eq, if_true, if_false, reduceIte]
  · simp only [hF, implies_true, z10, z21, z31, m_ref0, m_ref1, m_ref2, m_ref3, now_ref, ref_ref, hK, xA1, xA2, xB2, xC1, oK_1_1, oK_12_1, oK_12_2, oK_123_1, oK_123_2, oK_123_3, oK_13_1, oK_13_3, oK_2_2, oK_23_2, oK_23_3, oK_3_3, isB0, isB1, and_self, ne_eq, eq_self, not_true_eq_false, not_false_eq_true, false_implies, true_implies, true_and, and_true, forall_eq, if_true, if_false, reduceIte]
theorem J_stockByEntries (h : Rel a s mc mm) (hK : ∀ v, K mc (sI mm 30 1 0 v)) (p : Int32) : w_X9_stockByEntries p mc (fun r => jq (w_X10_stockByEntries p mm) (K mc) r) (fun k0 m1 => oK [2] k0 ∧ jx (w_X10_stockByEntries p mm) (K m1) (xB k0)) := by
  have hR := h.rs
  have hI := h.inv
  have hd := hI.day
  simp only [w_X9_stockByEntries, reqW, w_X10_stockByEntries, m_isKind, jq, jx]
  by_cases hF : 0 ≤ p ∧ p ≤ 5
  · obtain ⟨k, hk, rfl⟩ := (rng_lit 5 (by decide) hF).ex
    have hk6 : k < 6 := by omega
    have ht : (nI k).toNatClampNeg = k := rs_tn (by omega)
    have hv : vp_in (nI k) 6 := vp_in_nI hk6 (by decide)
    have hI0 : Inv a s ((sI mm 30 1 0 0).1 32 1) := hI
    have ho : ok 6 (6 * (1 - 1) + k + 1) := by
      show 1 ≤ _ ∧ _ ≤ 54
      omega
    simp only [hF, c_stockOf hR hI i1, m_stock hI0, implies_true, z10, z21, z31, m_ref0, m_ref1, m_ref2, m_ref3, now_ref, ref_ref, hK, xA1, xA2, xB2, xC1, oK_1_1, oK_12_1, oK_12_2, oK_123_1, oK_123_2, oK_123_3, oK_13_1, oK_13_3, oK_2_2, oK_23_2, oK_23_3, oK_3_3, isB0, isB1, and_self, ne_eq, eq_self, not_true_eq_false, not_false_eq_true, false_implies, true_implies, true_and, and_true, forall_eq, if_true, if_false, reduceIte]
  · simp only [hF, implies_true, z10, z21, z31, m_ref0, m_ref1, m_ref2, m_ref3, now_ref, ref_ref, hK, xA1, xA2, xB2, xC1, oK_1_1, oK_12_1, oK_12_2, oK_123_1, oK_123_2, oK_123_3, oK_13_1, oK_13_3, oK_2_2, oK_23_2, oK_23_3, oK_3_3, isB0, isB1, and_self, ne_eq, eq_self, not_true_eq_false, not_false_eq_true, false_implies, true_implies, true_and, and_true, forall_eq, if_true, if_false, reduceIte]
theorem cx10 (f : Nat → Int32) {k : Nat} (hk : k < 5) : f ((10 : Int32) + nI k).toNatClampNeg = f (10 + k) ∧ vp_in ((10 : Int32) + nI k) 246 := kx f (b := 10) (by decide) (by omega)
theorem cx15 (f : Nat → Int32) {k : Nat} (hk : k < 5) : f ((15 : Int32) + nI k).toNatClampNeg = f (15 + k) ∧ vp_in ((15 : Int32) + nI k) 246 := kx f (b := 15) (by decide) (by omega)
theorem J_isLocked (h : Rel a s mc mm) (hK : ∀ v, K mc (sI mm 30 1 0 v)) (p : Int32) : w_X9_isLocked p mc (fun r => jq (w_X10_isLocked p mm) (K mc) r) (fun k0 m1 => oK [1] k0 ∧ jx (w_X10_isLocked p mm) (K m1) (xA k0)) := by
  have hR := h.rs
  have hI := h.inv
  have hd := hI.day
  simp only [w_X9_isLocked, w_X9_chamberNumbered, reqC, w_X10_isLocked, w_X10_noChamber, m_isChamber, jq, jx]
  by_cases hF : 0 ≤ p ∧ p ≤ 4
  · obtain ⟨k, hk, rfl⟩ := (rng_lit 4 (by decide) hF).ex
    have hk5 : k < 5 := by omega
    have ht : (nI k).toNatClampNeg = k := rs_tn (by omega)
    have hv : vp_in (nI k) 5 := vp_in_nI hk5 (by decide)
    have hI0 : Inv a s ((sI mm 30 1 0 0).1 32 1) := hI
    have ho : ok 5 (5 * (1 - 1) + k + 1) := by
      show 1 ≤ _ ∧ _ ≤ 45
      omega
    by_cases hb : mm.1 32 1 (10 + k) ≤ 0
    · simp only [hF, ht, hv, ho, c_isSealed hR hk5, m_isShut hk5, hb, implies_true, z10, z21, z31, m_ref0, m_ref1, m_ref2, m_ref3, now_ref, ref_ref, hK, xA1, xA2, xB2, xC1, oK_1_1, oK_12_1, oK_12_2, oK_123_1, oK_123_2, oK_123_3, oK_13_1, oK_13_3, oK_2_2, oK_23_2, oK_23_3, oK_3_3, isB0, isB1, and_self, ne_eq, eq_self, not_true_eq_false, not_false_eq_true, false_implies, true_implies, true_and, and_true, forall_eq, if_true, if_false, reduceIte]
    · simp only [hF, ht, hv, ho, c_isSealed hR hk5, m_isShut hk5, hb, implies_true, z10, z21, z31, m_ref0, m_ref1, m_ref2, m_ref3, now_ref, ref_ref, hK, xA1, xA2, xB2, xC1, oK_1_1, oK_12_1, oK_12_2, oK_123_1, oK_123_2, oK_123_3, oK_13_1, oK_13_3, oK_2_2, oK_23_2, oK_23_3, oK_3_3, isB0, isB1, and_self, ne_eq, eq_self, not_true_eq_false, not_false_eq_true, false_implies, true_implies, true_and, and_true, forall_eq, if_true, if_false, reduceIte]
  · simp only [hF, implies_true, z10, z21, z31, m_ref0, m_ref1, m_ref2, m_ref3, now_ref, ref_ref, hK, xA1, xA2, xB2, xC1, oK_1_1, oK_12_1, oK_12_2, oK_123_1, oK_123_2, oK_123_3, oK_13_1, oK_13_3, oK_2_2, oK_23_2, oK_23_3, oK_3_3, isB0, isB1, and_self, ne_eq, eq_self, not_true_eq_false, not_false_eq_true, false_implies, true_implies, true_and, and_true, forall_eq, if_true, if_false, reduceIte]
theorem J_sealOf (h : Rel a s mc mm) (hK : ∀ v, K mc (sI mm 30 1 0 v)) (p : Int32) : w_X9_sealOf p mc (fun r => jq (w_X10_sealOf p mm) (K mc) r) (fun k0 m1 => oK [1] k0 ∧ jx (w_X10_sealOf p mm) (K m1) (xA k0)) := by
  have hR := h.rs
  have hI := h.inv
  have hd := hI.day
  simp only [w_X9_sealOf, w_X9_chamberNumbered, reqC, w_X10_sealOf, w_X10_noChamber, m_isChamber, jq, jx]
  by_cases hF : 0 ≤ p ∧ p ≤ 4
  · obtain ⟨k, hk, rfl⟩ := (rng_lit 4 (by decide) hF).ex
    have hk5 : k < 5 := by omega
    have ht : (nI k).toNatClampNeg = k := rs_tn (by omega)
    have hv : vp_in (nI k) 5 := vp_in_nI hk5 (by decide)
    have hI0 : Inv a s ((sI mm 30 1 0 0).1 32 1) := hI
    have ho : ok 5 (5 * (1 - 1) + k + 1) := by
      show 1 ≤ _ ∧ _ ≤ 45
      omega
    by_cases hb : mm.1 32 1 (10 + k) ≤ 0
    · simp only [hF, ht, hv, ho, hR.seal hk5, slc, m_isShut hk5, hb, implies_true, z10, z21, z31, m_ref0, m_ref1, m_ref2, m_ref3, now_ref, ref_ref, hK, xA1, xA2, xB2, xC1, oK_1_1, oK_12_1, oK_12_2, oK_123_1, oK_123_2, oK_123_3, oK_13_1, oK_13_3, oK_2_2, oK_23_2, oK_23_3, oK_3_3, isB0, isB1, and_self, ne_eq, eq_self, not_true_eq_false, not_false_eq_true, false_implies, true_implies, true_and, and_true, forall_eq, if_true, if_false, reduceIte]
    · simp only [hF, ht, hv, ho, hR.seal hk5, slc, m_isShut hk5, cx10 (mm.1 32 1) hk5, hb, implies_true, z10, z21, z31, m_ref0, m_ref1, m_ref2, m_ref3, now_ref, ref_ref, hK, xA1, xA2, xB2, xC1, oK_1_1, oK_12_1, oK_12_2, oK_123_1, oK_123_2, oK_123_3, oK_13_1, oK_13_3, oK_2_2, oK_23_2, oK_23_3, oK_3_3, isB0, isB1, and_self, ne_eq, eq_self, not_true_eq_false, not_false_eq_true, false_implies, true_implies, true_and, and_true, forall_eq, if_true, if_false, reduceIte]
  · simp only [hF, implies_true, z10, z21, z31, m_ref0, m_ref1, m_ref2, m_ref3, now_ref, ref_ref, hK, xA1, xA2, xB2, xC1, oK_1_1, oK_12_1, oK_12_2, oK_123_1, oK_123_2, oK_123_3, oK_13_1, oK_13_3, oK_2_2, oK_23_2, oK_23_3, oK_3_3, isB0, isB1, and_self, ne_eq, eq_self, not_true_eq_false, not_false_eq_true, false_implies, true_implies, true_and, and_true, forall_eq, if_true, if_false, reduceIte]
theorem J_isSealBroken (h : Rel a s mc mm) (hK : ∀ v, K mc (sI mm 30 1 0 v)) (p : Int32) : w_X9_isSealBroken p mc (fun r => jq (w_X10_isSealBroken p mm) (K mc) r) (fun k0 m1 => oK [1] k0 ∧ jx (w_X10_isSealBroken p mm) (K m1) (xA k0)) := by
  have hR := h.rs
  have hI := h.inv
  have hd := hI.day
  simp only [w_X9_isSealBroken, w_X9_chamberNumbered, reqC, w_X10_isSealBroken, w_X10_noChamber, m_isChamber, jq, jx]
  by_cases hF : 0 ≤ p ∧ p ≤ 4
  · obtain ⟨k, hk, rfl⟩ := (rng_lit 4 (by decide) hF).ex
    have hk5 : k < 5 := by omega
    have ht : (nI k).toNatClampNeg = k := rs_tn (by omega)
    have hv : vp_in (nI k) 5 := vp_in_nI hk5 (by decide)
    have hI0 : Inv a s ((sI mm 30 1 0 0).1 32 1) := hI
    have ho : ok 5 (5 * (1 - 1) + k + 1) := by
      show 1 ≤ _ ∧ _ ≤ 45
      omega
    have hb := rng01 (hI.cham k hk5).2.1
    rcases hb with hb | hb
    · simp only [hF, ht, hv, ho, hR.brok hk5, cx15 (mm.1 32 1) hk5, hb, z01, implies_true, z10, z21, z31, m_ref0, m_ref1, m_ref2, m_ref3, now_ref, ref_ref, hK, xA1, xA2, xB2, xC1, oK_1_1, oK_12_1, oK_12_2, oK_123_1, oK_123_2, oK_123_3, oK_13_1, oK_13_3, oK_2_2, oK_23_2, oK_23_3, oK_3_3, isB0, isB1, and_self, ne_eq, eq_self, not_true_eq_false, not_false_eq_true, false_implies, true_implies, true_and, and_true, forall_eq, if_true, if_false, reduceIte]
    · simp only [hF, ht, hv, ho, hR.brok hk5, cx15 (mm.1 32 1) hk5, hb, implies_true, z10, z21, z31, m_ref0, m_ref1, m_ref2, m_ref3, now_ref, ref_ref, hK, xA1, xA2, xB2, xC1, oK_1_1, oK_12_1, oK_12_2, oK_123_1, oK_123_2, oK_123_3, oK_13_1, oK_13_3, oK_2_2, oK_23_2, oK_23_3, oK_3_3, isB0, isB1, and_self, ne_eq, eq_self, not_true_eq_false, not_false_eq_true, false_implies, true_implies, true_and, and_true, forall_eq, if_true, if_false, reduceIte]
  · simp only [hF, implies_true, z10, z21, z31, m_ref0, m_ref1, m_ref2, m_ref3, now_ref, ref_ref, hK, xA1, xA2, xB2, xC1, oK_1_1, oK_12_1, oK_12_2, oK_123_1, oK_123_2, oK_123_3, oK_13_1, oK_13_3, oK_2_2, oK_23_2, oK_23_3, oK_3_3, isB0, isB1, and_self, ne_eq, eq_self, not_true_eq_false, not_false_eq_true, false_implies, true_implies, true_and, and_true, forall_eq, if_true, if_false, reduceIte]
theorem J_roomIn (h : Rel a s mc mm) (hK : ∀ v, K mc (sI mm 30 1 0 v)) (p : Int32) : w_X9_roomIn p mc (fun r => jq (w_X10_roomIn p mm) (K mc) r) (fun k0 m1 => oK [1] k0 ∧ jx (w_X10_roomIn p mm) (K m1) (xA k0)) := by
  have hR := h.rs
  have hI := h.inv
  have hd := hI.day
  simp only [w_X9_roomIn, reqC, w_X10_roomIn, w_X10_noChamber, m_isChamber, jq, jx]
  by_cases hF : 0 ≤ p ∧ p ≤ 4
  · obtain ⟨k, hk, rfl⟩ := (rng_lit 4 (by decide) hF).ex
    have hk5 : k < 5 := by omega
    have ht : (nI k).toNatClampNeg = k := rs_tn (by omega)
    have hv : vp_in (nI k) 5 := vp_in_nI hk5 (by decide)
    have hI0 : Inv a s ((sI mm 30 1 0 0).1 32 1) := hI
    have ho : ok 5 (5 * (1 - 1) + k + 1) := by
      show 1 ≤ _ ∧ _ ≤ 45
      omega
    simp only [hF, c_roomLeft hR hI i1, m_room hI0, implies_true, z10, z21, z31, m_ref0, m_ref1, m_ref2, m_ref3, now_ref, ref_ref, hK, xA1, xA2, xB2, xC1, oK_1_1, oK_12_1, oK_12_2, oK_123_1, oK_123_2, oK_123_3, oK_13_1, oK_13_3, oK_2_2, oK_23_2, oK_23_3, oK_3_3, isB0, isB1, and_self, ne_eq, eq_self, not_true_eq_false, not_false_eq_true, false_implies, true_implies, true_and, and_true, forall_eq, if_true, if_false, reduceIte]
  · simp only [hF, implies_true, z10, z21, z31, m_ref0, m_ref1, m_ref2, m_ref3, now_ref, ref_ref, hK, xA1, xA2, xB2, xC1, oK_1_1, oK_12_1, oK_12_2, oK_123_1, oK_123_2, oK_123_3, oK_13_1, oK_13_3, oK_2_2, oK_23_2, oK_23_3, oK_3_3, isB0, isB1, and_self, ne_eq, eq_self, not_true_eq_false, not_false_eq_true, false_implies, true_implies, true_and, and_true, forall_eq, if_true, if_false, reduceIte]
theorem m_cnt {mm : Mm} (hI : Inv a s (mm.1 32 1)) (c : Int32) (Q : Int32 → Mm → Prop) : (∃ n, itr (α := Int32 × Int32) (fun K a => w_X10_entriesIn_B14 c Q mm (fun z0 z1 => K (z0, z1)) a.1 a.2) n (0, 0)) ↔ Q (countF (mm.1 32 1) c) mm := by
  unfold countF
  refine itr_for _ (fun j s => (s, nI j)) (mo (mm.1 32 1)) (fun e s => if en (mm.1 32 1) e 4 = c then s + 1 else s) 0 _ (fun K j hj => ?_) (fun K => ?_)
  · have he : j < 16 := Nat.lt_of_lt_of_le hj hI.mo16
    by_cases hc : en (mm.1 32 1) j 4 = c
    · simp only [w_X10_entriesIn_B14, mo_lt hI.opn hj, m_of4 he, hc, nI_1, fo, not_true_eq_false, not_false_eq_true, false_implies, true_implies, true_and, and_true, forall_eq, if_true, if_false, reduceIte]
    · simp only [w_X10_entriesIn_B14, mo_lt hI.opn hj, m_of4 he, hc, nI_1, fo, Int32.add_zero, not_true_eq_false, not_false_eq_true, false_implies, true_implies, true_and, and_true, forall_eq, if_true, if_false, reduceIte]
  · simp only [w_X10_entriesIn_B14, mo_le hI.opn, not_true_eq_false, not_false_eq_true, false_implies, true_implies, true_and, and_true, forall_eq, if_true, if_false, reduceIte]
theorem J_entriesIn (h : Rel a s mc mm) (hK : ∀ v, K mc (sI mm 30 1 0 v)) (p : Int32) : w_X9_entriesIn p mc (fun r => jq (w_X10_entriesIn p mm) (K mc) r) (fun k0 m1 => oK [1] k0 ∧ jx (w_X10_entriesIn p mm) (K m1) (xA k0)) := by
  have hR := h.rs
  have hI := h.inv
  have hd := hI.day
  simp only [w_X9_entriesIn, reqC, w_X10_entriesIn, w_X10_noChamber, m_isChamber, jq, jx]
  by_cases hF : 0 ≤ p ∧ p ≤ 4
  · obtain ⟨k, hk, rfl⟩ := (rng_lit 4 (by decide) hF).ex
    have hk5 : k < 5 := by omega
    have ht : (nI k).toNatClampNeg = k := rs_tn (by omega)
    have hv : vp_in (nI k) 5 := vp_in_nI hk5 (by decide)
    have hI0 : Inv a s ((sI mm 30 1 0 0).1 32 1) := hI
    have ho : ok 5 (5 * (1 - 1) + k + 1) := by
      show 1 ≤ _ ∧ _ ≤ 45
      omega
    simp only [hF, c_countIn hR hI i1, m_cnt hI0, implies_true, z10, z21, z31, m_ref0, m_ref1, m_ref2, m_ref3, now_ref, ref_ref, hK, xA1, xA2, xB2, xC1, oK_1_1, oK_12_1, oK_12_2, oK_123_1, oK_123_2, oK_123_3, oK_13_1, oK_13_3, oK_2_2, oK_23_2, oK_23_3, oK_3_3, isB0, isB1, and_self, ne_eq, eq_self, not_true_eq_false, not_false_eq_true, false_implies, true_implies, true_and, and_true, forall_eq, if_true, if_false, reduceIte]
  · simp only [hF, implies_true, z10, z21, z31, m_ref0, m_ref1, m_ref2, m_ref3, now_ref, ref_ref, hK, xA1, xA2, xB2, xC1, oK_1_1, oK_12_1, oK_12_2, oK_123_1, oK_123_2, oK_123_3, oK_13_1, oK_13_3, oK_2_2, oK_23_2, oK_23_3, oK_3_3, isB0, isB1, and_self, ne_eq, eq_self, not_true_eq_false, not_false_eq_true, false_implies, true_implies, true_and, and_true, forall_eq, if_true, if_false, reduceIte]
def gds (k w v c : Int32) : Prop := (0 ≤ k ∧ k ≤ 5) ∧ (1 ≤ w ∧ w ≤ 999) ∧ (1 ≤ v ∧ v ≤ 9999) ∧ (0 ≤ c ∧ c ≤ 4)
theorem c_goods (k w v c : Int32) (mm : Mm) (Q : Int32 → Prop) : w_X9_areGoods k w v c mm Q ↔ (gds k w v c ∧ Q 1) ∨ (¬ gds k w v c ∧ Q 0) := by
  unfold w_X9_areGoods gds
  simp only [isWithin_iff]
  by_cases h1 : 0 ≤ k ∧ k ≤ 5
  · by_cases h2 : 1 ≤ w ∧ w ≤ 999
    · by_cases h3 : 1 ≤ v ∧ v ≤ 9999
      · by_cases h4 : 0 ≤ c ∧ c ≤ 4 <;> simp [h1, h2, h3, h4]
      · simp [h1, h2, h3]
    · simp [h1, h2]
  · simp [h1]
theorem m_goods (k w v c : Int32) (mm : Mm) (Q : Int32 → Prop) : w_X10_isNew k w v c mm Q ↔ (gds k w v c ∧ Q 1) ∨ (¬ gds k w v c ∧ Q 0) := by
  unfold w_X10_isNew gds
  simp only [m_isKind, m_isWeight, w_1_9999, m_isChamber]
  by_cases h1 : 0 ≤ k ∧ k ≤ 5
  · by_cases h2 : 1 ≤ w ∧ w ≤ 999
    · by_cases h3 : 1 ≤ v ∧ v ≤ 9999
      · by_cases h4 : 0 ≤ c ∧ c ≤ 4 <;> simp [h1, h2, h3, h4]
      · simp [h1, h2, h3]
    · simp [h1, h2]
  · simp [h1]
theorem J_whyNoEntry (h : Rel a s mc mm) (hK : ∀ v, K mc (sI mm 30 1 0 v)) (k : Int32) (w : Int32) (v : Int32) (c : Int32) : w_X9_whyNoEntry k w v c mc (fun r => jq (w_X10_whyNoEntry k w v c mm) (K mc) r) (fun k0 m1 => oK [2] k0 ∧ jx (w_X10_whyNoEntry k w v c mm) (K m1) (xB k0)) := by
  have hR := h.rs
  have hI := h.inv
  have hd := hI.day
  simp only [w_X9_whyNoEntry, c_goods, w_X10_whyNoEntry, w_X10_whyNoEntry_J17, m_goods, jq, jx]
  by_cases hg : gds k w v c
  · obtain ⟨g1, g2, g3, g4⟩ := id hg
    obtain ⟨k, hk, rfl⟩ := (rng_lit 5 (by decide) g1).ex
    obtain ⟨c, hc, rfl⟩ := (rng_lit 4 (by decide) g4).ex
    have hI0 : Inv a s ((sI mm 30 1 0 0).1 32 1) := hI
    simp only [hg, c_whyE hR hI i1 (show k < 6 by omega) (show c < 5 by omega), m_whyE hI0 (show k < 6 by omega) (show c < 5 by omega), false_and, or_false, implies_true, z10, z21, z31, m_ref0, m_ref1, m_ref2, m_ref3, now_ref, ref_ref, hK, xA1, xA2, xB2, xC1, oK_1_1, oK_12_1, oK_12_2, oK_123_1, oK_123_2, oK_123_3, oK_13_1, oK_13_3, oK_2_2, oK_23_2, oK_23_3, oK_3_3, isB0, isB1, and_self, ne_eq, eq_self, not_true_eq_false, not_false_eq_true, false_implies, true_implies, true_and, and_true, forall_eq, if_true, if_false, reduceIte]
  · simp only [hg, false_and, false_or, implies_true, z10, z21, z31, m_ref0, m_ref1, m_ref2, m_ref3, now_ref, ref_ref, hK, xA1, xA2, xB2, xC1, oK_1_1, oK_12_1, oK_12_2, oK_123_1, oK_123_2, oK_123_3, oK_13_1, oK_13_3, oK_2_2, oK_23_2, oK_23_3, oK_3_3, isB0, isB1, and_self, ne_eq, eq_self, not_true_eq_false, not_false_eq_true, false_implies, true_implies, true_and, and_true, forall_eq, if_true, if_false, reduceIte]
end SEM4
