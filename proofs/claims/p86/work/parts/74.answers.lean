section ANS
variable {mc : Mm} {k : Nat} {u : PS}
def tUndo (u : PS) : Nat := if u.2.1 = 0 then 3 else 0
def z_enter (p0 : Int32) (p1 : Int32) (p2 : Int32) (p3 : Int32) (u : PS) : Int32 × PS × Nat := if tEnter u.1 p0 p1 p2 p3 = 0 then (u.1 1, (svP u (enterF u.1 p0.toNatClampNeg p1 p2 p3)), 1) else (xcd (tEnter u.1 p0 p1 p2 p3), u, 0)
def z_tryWithdraw (p0 : Int32) (p1 : Int32) (u : PS) : Int32 × PS × Nat := if tOut u.1 p0 p1 = 0 then (dutyPF u.1 (fiE u.1 p0) p1, (svP u (withdrawF u.1 (fiE u.1 p0) p1)), 1) else (xcd (tOut u.1 p0 p1), u, 0)
def z_trySend (p0 : Int32) (p1 : Int32) (u : PS) : Int32 × PS × Nat := if tSend u.1 p0 p1 = 0 then (en u.1 (fiE u.1 p0) 2 - p1, (svP u (sendF u.1 (fiE u.1 p0) p1)), 1) else (xcd (tSend u.1 p0 p1), u, 0)
def z_tryDraw (p0 : Int32) (p1 : Int32) (u : PS) : Int32 × PS × Nat := if tDraw u.1 p0 p1 = 0 then (backF u.1 p0.toNatClampNeg p1, (svP u (drawF u.1 p0.toNatClampNeg p1)), 1) else (xcd (tDraw u.1 p0 p1), u, 0)
def z_tryMove (p0 : Int32) (p1 : Int32) (u : PS) : Int32 × PS × Nat := if tMove u.1 p0 p1 = 0 then (roomF (moveF u.1 (fiE u.1 p0) p1) p1, (svP u (moveF u.1 (fiE u.1 p0) p1)), 1) else (xcd (tMove u.1 p0 p1), u, 0)
def z_trySplit (p0 : Int32) (p1 : Int32) (u : PS) : Int32 × PS × Nat := if tSplit u.1 p0 p1 = 0 then (u.1 1, (svP u (splitF u.1 (fiE u.1 p0) p1)), 1) else (xcd (tSplit u.1 p0 p1), u, 0)
def z_tryMerge (p0 : Int32) (p1 : Int32) (u : PS) : Int32 × PS × Nat := if tMerge u.1 p0 p1 = 0 then (en u.1 (fiE u.1 p0) 2 + en u.1 (fiE u.1 p1) 2, (svP u (mergeF u.1 (fiE u.1 p0) (fiE u.1 p1))), 1) else (xcd (tMerge u.1 p0 p1), u, 0)
def z_tryWeigh (p0 : Int32) (p1 : Int32) (u : PS) : Int32 × PS × Nat := if tWeigh u.1 p0 p1 = 0 then (chargeF u.1 (fiE u.1 p0) (lossF u.1 (fiE u.1 p0) p1), (svP u (weighF u.1 (fiE u.1 p0) p1)), 1) else (xcd (tWeigh u.1 p0 p1), u, 0)
def z_tryLock (p0 : Int32) (u : PS) : Int32 × PS × Nat := if tLock u.1 p0 = 0 then (u.1 2 + 1, (svP u (lockF u.1 p0.toNatClampNeg)), 1) else (xcd (tLock u.1 p0), u, 0)
def z_tryOpen (p0 : Int32) (u : PS) : Int32 × PS × Nat := if tOpen u.1 p0 = 0 then ((opF u.1 p0.toNatClampNeg).1, (svP u (opF u.1 p0.toNatClampNeg).2), 1) else (xcd (tOpen u.1 p0), u, 0)
def z_tryBreak (p0 : Int32) (u : PS) : Int32 × PS × Nat := if tBreak u.1 p0 = 0 then (u.1 (10 + p0.toNatClampNeg), (svP u (breakF u.1 p0.toNatClampNeg)), 1) else (xcd (tBreak u.1 p0), u, 0)
def z_tryPay (p0 : Int32) (u : PS) : Int32 × PS × Nat := if tPay u.1 p0 = 0 then (afterF u.1 p0, (svP u (payF u.1 p0)), 1) else (xcd (tPay u.1 p0), u, 0)
def z_trySetBond (p0 : Int32) (u : PS) : Int32 × PS × Nat := if tBond u.1 p0 = 0 then (u.1 5, (svP u (up u.1 5 p0)), 1) else (xcd (tBond u.1 p0), u, 0)
def z_trySetValue (p0 : Int32) (p1 : Int32) (u : PS) : Int32 × PS × Nat := if tValue p0 p1 = 0 then (u.1 (20 + p0.toNatClampNeg), (svP u (up u.1 (20 + p0.toNatClampNeg) p1)), 1) else (xcd (tValue p0 p1), u, 0)
def z_trySetWeight (p0 : Int32) (p1 : Int32) (u : PS) : Int32 × PS × Nat := if tWeight p0 p1 = 0 then (u.1 (26 + p0.toNatClampNeg), (svP u (up u.1 (26 + p0.toNatClampNeg) p1)), 1) else (xcd (tWeight p0 p1), u, 0)
def z_tryPass (p0 : Int32) (u : PS) : Int32 × PS × Nat := if tPass u.1 p0 = 0 then ((psL u.1 p0 (mo u.1)).1, (svP u (passF u.1 p0)), 1) else (xcd (tPass u.1 p0), u, 0)
def z_tryUndo (u : PS) : Int32 × PS × Nat := if tUndo u = 0 then (nI (u.2.1 - 1), (unP u), 1) else (xcd (tUndo u), u, 0)
def z_tryKeep (p0 : Int32) (u : PS) : Int32 × PS × Nat := if tSlot p0 = 0 then (u.1 117, (kpP u p0.toNatClampNeg), 1) else (xcd (tSlot p0), u, 0)
def z_tryBack (p0 : Int32) (u : PS) : Int32 × PS × Nat := if tBack u p0 = 0 then (bkP u p0 117, (svP u (bkP u p0)), 1) else (xcd (tBack u p0), u, 0)
def y_whyNot (p0 : Int32) (p1 : Int32) (p2 : Int32) (p3 : Int32) (u : PS) : Int32 := if tNew p0 p1 p2 p3 = 0 then whyE u.1 p0.toNatClampNeg p1 p2 p3 else xcd (tNew p0 p1 p2 p3)
def y_isProved (p0 : Int32) (u : PS) : Int32 := if tEnt u.1 p0 = 0 then (if en u.1 (fiE u.1 p0) 7 = 0 then 0 else 1) else xcd (tEnt u.1 p0)
def y_isLate (p0 : Int32) (u : PS) : Int32 := if tEnt u.1 p0 = 0 then (if (if en u.1 (fiE u.1 p0) 5 ≤ 200 then (0 : Int32) else 1) = 0 then 0 else 1) else xcd (tEnt u.1 p0)
def y_isLocked (p0 : Int32) (u : PS) : Int32 := if tCh p0 = 0 then (if (if u.1 (10 + p0.toNatClampNeg) ≤ 0 then (0 : Int32) else 1) = 0 then 0 else 1) else xcd (tCh p0)
def y_isBroken (p0 : Int32) (u : PS) : Int32 := if tCh p0 = 0 then (if u.1 (15 + p0.toNatClampNeg) = 0 then 0 else 1) else xcd (tCh p0)
def y_tryAt (p0 : Int32) (u : PS) : Int32 := if tAt u.1 p0 = 0 then en u.1 p0.toNatClampNeg 0 else xcd (tAt u.1 p0)
def y_tryKind (p0 : Int32) (u : PS) : Int32 := if tEnt u.1 p0 = 0 then en u.1 (fiE u.1 p0) 1 else xcd (tEnt u.1 p0)
def y_tryWeight (p0 : Int32) (u : PS) : Int32 := if tEnt u.1 p0 = 0 then en u.1 (fiE u.1 p0) 2 else xcd (tEnt u.1 p0)
def y_tryValue (p0 : Int32) (u : PS) : Int32 := if tEnt u.1 p0 = 0 then en u.1 (fiE u.1 p0) 3 else xcd (tEnt u.1 p0)
def y_tryChamber (p0 : Int32) (u : PS) : Int32 := if tEnt u.1 p0 = 0 then en u.1 (fiE u.1 p0) 4 else xcd (tEnt u.1 p0)
def y_tryAge (p0 : Int32) (u : PS) : Int32 := if tEnt u.1 p0 = 0 then en u.1 (fiE u.1 p0) 5 else xcd (tEnt u.1 p0)
def y_tryPart (p0 : Int32) (p1 : Int32) (u : PS) : Int32 := if tPart u.1 p0 p1 = 0 then dutyPF u.1 (fiE u.1 p0) p1 else xcd (tPart u.1 p0 p1)
def y_tryDuty (p0 : Int32) (u : PS) : Int32 := if tEnt u.1 p0 = 0 then dutyAF u.1 (fiE u.1 p0) else xcd (tEnt u.1 p0)
def y_tryAllowed (p0 : Int32) (u : PS) : Int32 := if tEnt u.1 p0 = 0 then allowF u.1 (fiE u.1 p0) else xcd (tEnt u.1 p0)
def y_trySeal (p0 : Int32) (u : PS) : Int32 := if tCh p0 = 0 then slc (u.1 (10 + p0.toNatClampNeg)) else xcd (tCh p0)
def y_tryRoom (p0 : Int32) (u : PS) : Int32 := if tCh p0 = 0 then roomF u.1 p0 else xcd (tCh p0)
def y_tryPaper (p0 : Int32) (u : PS) : Int32 := if tRec u.1 p0 = 0 then rc u.1 p0.toNatClampNeg 1 else xcd (tRec u.1 p0)
def y_tryPaperDuty (p0 : Int32) (u : PS) : Int32 := if tRec u.1 p0 = 0 then rc u.1 p0.toNatClampNeg 2 else xcd (tRec u.1 p0)
def y_tryPaperAge (p0 : Int32) (u : PS) : Int32 := if tRec u.1 p0 = 0 then u.1 0 - rc u.1 p0.toNatClampNeg 3 else xcd (tRec u.1 p0)
def y_tryByValue (p0 : Int32) (u : PS) : Int32 := if tKd p0 = 0 then u.1 (20 + p0.toNatClampNeg) else xcd (tKd p0)
def y_tryWithdrawn (p0 : Int32) (u : PS) : Int32 := if tKd p0 = 0 then u.1 (30 + 6 * p0.toNatClampNeg + 3) else xcd (tKd p0)
def y_tryWasted (p0 : Int32) (u : PS) : Int32 := if tKd p0 = 0 then u.1 (30 + 6 * p0.toNatClampNeg + 5) else xcd (tKd p0)
def y_tryLost (p0 : Int32) (u : PS) : Int32 := if tKd p0 = 0 then u.1 (30 + 6 * p0.toNatClampNeg + 6) else xcd (tKd p0)
def y_tryDrawn (p0 : Int32) (u : PS) : Int32 := if tKd p0 = 0 then u.1 (30 + 6 * p0.toNatClampNeg + 7) else xcd (tKd p0)
def y_tryStock (p0 : Int32) (u : PS) : Int32 := if tKd p0 = 0 then stockF u.1 p0 else xcd (tKd p0)
def y_tryTotals (p0 : Int32) (u : PS) : Int32 := if tKd p0 = 0 then u.1 (30 + 6 * p0.toNatClampNeg + 2) - u.1 (30 + 6 * p0.toNatClampNeg + 3) - u.1 (30 + 6 * p0.toNatClampNeg + 4) - u.1 (30 + 6 * p0.toNatClampNeg + 5) - u.1 (30 + 6 * p0.toNatClampNeg + 6) else xcd (tKd p0)
def y_tryWhyOut (p0 : Int32) (p1 : Int32) (u : PS) : Int32 := if tEntW u.1 p0 p1 = 0 then whyW u.1 (fiE u.1 p0) p1 else xcd (tEntW u.1 p0 p1)
def y_tryWhySend (p0 : Int32) (p1 : Int32) (u : PS) : Int32 := if tEntW u.1 p0 p1 = 0 then whyX u.1 (fiE u.1 p0) p1 else xcd (tEntW u.1 p0 p1)
def y_tryWhyMove (p0 : Int32) (p1 : Int32) (u : PS) : Int32 := if tMv u.1 p0 p1 = 0 then whyM u.1 (fiE u.1 p0) p1 else xcd (tMv u.1 p0 p1)
def y_tryWhyDraw (p0 : Int32) (p1 : Int32) (u : PS) : Int32 := if tRecW u.1 p0 p1 = 0 then whyD u.1 p0.toNatClampNeg p1 else xcd (tRecW u.1 p0 p1)
def y_tryCharge (p0 : Int32) (p1 : Int32) (u : PS) : Int32 := if tChg u.1 p0 p1 = 0 then chargeF u.1 (fiE u.1 p0) (lossF u.1 (fiE u.1 p0) p1) else xcd (tChg u.1 p0 p1)
def y_tryDrawFor (p0 : Int32) (p1 : Int32) (u : PS) : Int32 := if tFor u.1 p0 p1 = 0 then backF u.1 p0.toNatClampNeg p1 else xcd (tFor u.1 p0 p1)
def y_tryLater (p0 : Int32) (p1 : Int32) (u : PS) : Int32 := if tLat u.1 p0 p1 = 0 then dutyF u.1 (knd u.1 (fiE u.1 p0)) (en u.1 (fiE u.1 p0) 3) (en u.1 (fiE u.1 p0) 2) (en u.1 (fiE u.1 p0) 5 + p1) else xcd (tLat u.1 p0 p1)
def y_tryDays (p0 : Int32) (u : PS) : Int32 := if tEnt u.1 p0 = 0 then (if en u.1 (fiE u.1 p0) 5 ≤ 200 then 201 - en u.1 (fiE u.1 p0) 5 else 0) else xcd (tEnt u.1 p0)
def y_tryCheapest (p0 : Int32) (u : PS) : Int32 := if tKd p0 = 0 then numF u.1 (chF u.1 (pC u.1 none p0)) else xcd (tKd p0)
def y_tryFrom (p0 : Int32) (p1 : Int32) (u : PS) : Int32 := if tFrom p0 p1 = 0 then fromF u.1 p0 p1 else xcd (tFrom p0 p1)
def v_day (u : PS) : Int32 := u.1 0
def v_entries (u : PS) : Int32 := u.1 117
def v_entriesMade (u : PS) : Int32 := u.1 1
def v_receipts (u : PS) : Int32 := u.1 68
def v_bond (u : PS) : Int32 := u.1 5
def v_account (u : PS) : Int32 := u.1 3
def v_debt (u : PS) : Int32 := u.1 4
def v_charges (u : PS) : Int32 := u.1 8
def v_drawbacks (u : PS) : Int32 := u.1 9
def v_balance (u : PS) : Int32 := u.1 3 - u.1 4
def v_balanceByTotals (u : PS) : Int32 := u.1 6 + u.1 9 - u.1 7 - u.1 8
def v_dutyAtStake (u : PS) : Int32 := stakeF u.1
def v_nextOverdue (u : PS) : Int32 := numF u.1 (nextF u.1)
def v_savedStates (u : PS) : Int32 := nI u.2.1
def v_dearestEntry (u : PS) : Int32 := numF u.1 (dearF u.1)
def v_isOpenEntry (p0 : Int32) (u : PS) : Int32 := (if fiE u.1 p0 < mo u.1 then 1 else 0)
theorem N_enter (h : RelN k mc u) (hk : k + 1 ≤ 2400) (p0 : Int32) (p1 : Int32) (p2 : Int32) (p3 : Int32) (Q : Int32 → Mm → Prop) (X : Nat → Mm → Prop) (hq : tEnter u.1 p0 p1 p2 p3 = 0 → ∀ m1, RelN (k + 1) m1 (svP u (enterF u.1 p0.toNatClampNeg p1 p2 p3)) → Q (u.1 1) m1) (hx : ¬ tEnter u.1 p0 p1 p2 p3 = 0 → X (tEnter u.1 p0 p1 p2 p3) mc) : w_X9_enter p0 p1 p2 p3 mc Q X := by
  obtain ⟨mm, h1, hA⟩ := h
  have e := hA.1
  refine n_enter (RelN.hy hk h1 hA) p0 p1 p2 p3 Q X ?_ ?_
  · intro ht m1 hK
    have hK := hK _ (hA.deed _)
    rw [e] at ht hK ⊢
    exact hq ht m1 hK
  · intro ht
    rw [e] at ht ⊢
    exact hx ht
theorem N_withdraw (h : RelN k mc u) (hk : k + 1 ≤ 2400) (p0 : Int32) (p1 : Int32) (Q : Int32 → Mm → Prop) (X : Nat → Mm → Prop) (hq : tOut u.1 p0 p1 = 0 → ∀ m1, RelN (k + 1) m1 (svP u (withdrawF u.1 (fiE u.1 p0) p1)) → Q (dutyPF u.1 (fiE u.1 p0) p1) m1) (hx : ¬ tOut u.1 p0 p1 = 0 → X (tOut u.1 p0 p1) mc) : w_X9_withdraw p0 p1 mc Q X := by
  obtain ⟨mm, h1, hA⟩ := h
  have e := hA.1
  refine n_withdraw (RelN.hy hk h1 hA) p0 p1 Q X ?_ ?_
  · intro ht m1 hK
    have hK := hK _ (hA.deed _)
    rw [e] at ht hK ⊢
    exact hq ht m1 hK
  · intro ht
    rw [e] at ht ⊢
    exact hx ht
theorem N_sendAbroad (h : RelN k mc u) (hk : k + 1 ≤ 2400) (p0 : Int32) (p1 : Int32) (Q : Int32 → Mm → Prop) (X : Nat → Mm → Prop) (hq : tSend u.1 p0 p1 = 0 → ∀ m1, RelN (k + 1) m1 (svP u (sendF u.1 (fiE u.1 p0) p1)) → Q (en u.1 (fiE u.1 p0) 2 - p1) m1) (hx : ¬ tSend u.1 p0 p1 = 0 → X (tSend u.1 p0 p1) mc) : w_X9_sendAbroad p0 p1 mc Q X := by
  obtain ⟨mm, h1, hA⟩ := h
  have e := hA.1
  refine n_sendAbroad (RelN.hy hk h1 hA) p0 p1 Q X ?_ ?_
  · intro ht m1 hK
    have hK := hK _ (hA.deed _)
    rw [e] at ht hK ⊢
    exact hq ht m1 hK
  · intro ht
    rw [e] at ht ⊢
    exact hx ht
theorem N_drawBack (h : RelN k mc u) (hk : k + 1 ≤ 2400) (p0 : Int32) (p1 : Int32) (Q : Int32 → Mm → Prop) (X : Nat → Mm → Prop) (hq : tDraw u.1 p0 p1 = 0 → ∀ m1, RelN (k + 1) m1 (svP u (drawF u.1 p0.toNatClampNeg p1)) → Q (backF u.1 p0.toNatClampNeg p1) m1) (hx : ¬ tDraw u.1 p0 p1 = 0 → X (tDraw u.1 p0 p1) mc) : w_X9_drawBack p0 p1 mc Q X := by
  obtain ⟨mm, h1, hA⟩ := h
  have e := hA.1
  refine n_drawBack (RelN.hy hk h1 hA) p0 p1 Q X ?_ ?_
  · intro ht m1 hK
    have hK := hK _ (hA.deed _)
    rw [e] at ht hK ⊢
    exact hq ht m1 hK
  · intro ht
    rw [e] at ht ⊢
    exact hx ht
theorem N_move (h : RelN k mc u) (hk : k + 1 ≤ 2400) (p0 : Int32) (p1 : Int32) (Q : Int32 → Mm → Prop) (X : Nat → Mm → Prop) (hq : tMove u.1 p0 p1 = 0 → ∀ m1, RelN (k + 1) m1 (svP u (moveF u.1 (fiE u.1 p0) p1)) → Q (roomF (moveF u.1 (fiE u.1 p0) p1) p1) m1) (hx : ¬ tMove u.1 p0 p1 = 0 → X (tMove u.1 p0 p1) mc) : w_X9_move p0 p1 mc Q X := by
  obtain ⟨mm, h1, hA⟩ := h
  have e := hA.1
  refine n_move (RelN.hy hk h1 hA) p0 p1 Q X ?_ ?_
  · intro ht m1 hK
    have hK := hK _ (hA.deed _)
    rw [e] at ht hK ⊢
    exact hq ht m1 hK
  · intro ht
    rw [e] at ht ⊢
    exact hx ht
theorem N_split (h : RelN k mc u) (hk : k + 1 ≤ 2400) (p0 : Int32) (p1 : Int32) (Q : Int32 → Mm → Prop) (X : Nat → Mm → Prop) (hq : tSplit u.1 p0 p1 = 0 → ∀ m1, RelN (k + 1) m1 (svP u (splitF u.1 (fiE u.1 p0) p1)) → Q (u.1 1) m1) (hx : ¬ tSplit u.1 p0 p1 = 0 → X (tSplit u.1 p0 p1) mc) : w_X9_split p0 p1 mc Q X := by
  obtain ⟨mm, h1, hA⟩ := h
  have e := hA.1
  refine n_split (RelN.hy hk h1 hA) p0 p1 Q X ?_ ?_
  · intro ht m1 hK
    have hK := hK _ (hA.deed _)
    rw [e] at ht hK ⊢
    exact hq ht m1 hK
  · intro ht
    rw [e] at ht ⊢
    exact hx ht
theorem N_merge (h : RelN k mc u) (hk : k + 1 ≤ 2400) (p0 : Int32) (p1 : Int32) (Q : Int32 → Mm → Prop) (X : Nat → Mm → Prop) (hq : tMerge u.1 p0 p1 = 0 → ∀ m1, RelN (k + 1) m1 (svP u (mergeF u.1 (fiE u.1 p0) (fiE u.1 p1))) → Q (en u.1 (fiE u.1 p0) 2 + en u.1 (fiE u.1 p1) 2) m1) (hx : ¬ tMerge u.1 p0 p1 = 0 → X (tMerge u.1 p0 p1) mc) : w_X9_merge p0 p1 mc Q X := by
  obtain ⟨mm, h1, hA⟩ := h
  have e := hA.1
  refine n_merge (RelN.hy hk h1 hA) p0 p1 Q X ?_ ?_
  · intro ht m1 hK
    have hK := hK _ (hA.deed _)
    rw [e] at ht hK ⊢
    exact hq ht m1 hK
  · intro ht
    rw [e] at ht ⊢
    exact hx ht
theorem N_weigh (h : RelN k mc u) (hk : k + 1 ≤ 2400) (p0 : Int32) (p1 : Int32) (Q : Int32 → Mm → Prop) (X : Nat → Mm → Prop) (hq : tWeigh u.1 p0 p1 = 0 → ∀ m1, RelN (k + 1) m1 (svP u (weighF u.1 (fiE u.1 p0) p1)) → Q (chargeF u.1 (fiE u.1 p0) (lossF u.1 (fiE u.1 p0) p1)) m1) (hx : ¬ tWeigh u.1 p0 p1 = 0 → X (tWeigh u.1 p0 p1) mc) : w_X9_weigh p0 p1 mc Q X := by
  obtain ⟨mm, h1, hA⟩ := h
  have e := hA.1
  refine n_weigh (RelN.hy hk h1 hA) p0 p1 Q X ?_ ?_
  · intro ht m1 hK
    have hK := hK _ (hA.deed _)
    rw [e] at ht hK ⊢
    exact hq ht m1 hK
  · intro ht
    rw [e] at ht ⊢
    exact hx ht
theorem N_lock (h : RelN k mc u) (hk : k + 1 ≤ 2400) (p0 : Int32) (Q : Int32 → Mm → Prop) (X : Nat → Mm → Prop) (hq : tLock u.1 p0 = 0 → ∀ m1, RelN (k + 1) m1 (svP u (lockF u.1 p0.toNatClampNeg)) → Q (u.1 2 + 1) m1) (hx : ¬ tLock u.1 p0 = 0 → X (tLock u.1 p0) mc) : w_X9_lock p0 mc Q X := by
  obtain ⟨mm, h1, hA⟩ := h
  have e := hA.1
  refine n_lock (RelN.hy hk h1 hA) p0 Q X ?_ ?_
  · intro ht m1 hK
    have hK := hK _ (hA.deed _)
    rw [e] at ht hK ⊢
    exact hq ht m1 hK
  · intro ht
    rw [e] at ht ⊢
    exact hx ht
theorem N_open (h : RelN k mc u) (hk : k + 1 ≤ 2400) (p0 : Int32) (Q : Int32 → Mm → Prop) (X : Nat → Mm → Prop) (hq : tOpen u.1 p0 = 0 → ∀ m1, RelN (k + 1) m1 (svP u (opF u.1 p0.toNatClampNeg).2) → Q ((opF u.1 p0.toNatClampNeg).1) m1) (hx : ¬ tOpen u.1 p0 = 0 → X (tOpen u.1 p0) mc) : w_X9_open p0 mc Q X := by
  obtain ⟨mm, h1, hA⟩ := h
  have e := hA.1
  refine n_open (RelN.hy hk h1 hA) p0 Q X ?_ ?_
  · intro ht m1 hK
    have hK := hK _ (hA.deed _)
    rw [e] at ht hK ⊢
    exact hq ht m1 hK
  · intro ht
    rw [e] at ht ⊢
    exact hx ht
theorem N_breakSeal (h : RelN k mc u) (hk : k + 1 ≤ 2400) (p0 : Int32) (Q : Int32 → Mm → Prop) (X : Nat → Mm → Prop) (hq : tBreak u.1 p0 = 0 → ∀ m1, RelN (k + 1) m1 (svP u (breakF u.1 p0.toNatClampNeg)) → Q (u.1 (10 + p0.toNatClampNeg)) m1) (hx : ¬ tBreak u.1 p0 = 0 → X (tBreak u.1 p0) mc) : w_X9_breakSeal p0 mc Q X := by
  obtain ⟨mm, h1, hA⟩ := h
  have e := hA.1
  refine n_breakSeal (RelN.hy hk h1 hA) p0 Q X ?_ ?_
  · intro ht m1 hK
    have hK := hK _ (hA.deed _)
    rw [e] at ht hK ⊢
    exact hq ht m1 hK
  · intro ht
    rw [e] at ht ⊢
    exact hx ht
theorem N_deposit (h : RelN k mc u) (hk : k + 1 ≤ 2400) (p0 : Int32) (Q : Int32 → Mm → Prop) (X : Nat → Mm → Prop) (hq : tPay u.1 p0 = 0 → ∀ m1, RelN (k + 1) m1 (svP u (payF u.1 p0)) → Q (afterF u.1 p0) m1) (hx : ¬ tPay u.1 p0 = 0 → X (tPay u.1 p0) mc) : w_X9_deposit p0 mc Q X := by
  obtain ⟨mm, h1, hA⟩ := h
  have e := hA.1
  refine n_deposit (RelN.hy hk h1 hA) p0 Q X ?_ ?_
  · intro ht m1 hK
    have hK := hK _ (hA.deed _)
    rw [e] at ht hK ⊢
    exact hq ht m1 hK
  · intro ht
    rw [e] at ht ⊢
    exact hx ht
theorem N_setBond (h : RelN k mc u) (hk : k + 1 ≤ 2400) (p0 : Int32) (Q : Int32 → Mm → Prop) (X : Nat → Mm → Prop) (hq : tBond u.1 p0 = 0 → ∀ m1, RelN (k + 1) m1 (svP u (up u.1 5 p0)) → Q (u.1 5) m1) (hx : ¬ tBond u.1 p0 = 0 → X (tBond u.1 p0) mc) : w_X9_setBond p0 mc Q X := by
  obtain ⟨mm, h1, hA⟩ := h
  have e := hA.1
  refine n_setBond (RelN.hy hk h1 hA) p0 Q X ?_ ?_
  · intro ht m1 hK
    have hK := hK _ (hA.deed _)
    rw [e] at ht hK ⊢
    exact hq ht m1 hK
  · intro ht
    rw [e] at ht ⊢
    exact hx ht
theorem N_setRateByValue (h : RelN k mc u) (hk : k + 1 ≤ 2400) (p0 : Int32) (p1 : Int32) (Q : Int32 → Mm → Prop) (X : Nat → Mm → Prop) (hq : tValue p0 p1 = 0 → ∀ m1, RelN (k + 1) m1 (svP u (up u.1 (20 + p0.toNatClampNeg) p1)) → Q (u.1 (20 + p0.toNatClampNeg)) m1) (hx : ¬ tValue p0 p1 = 0 → X (tValue p0 p1) mc) : w_X9_setRateByValue p0 p1 mc Q X := by
  obtain ⟨mm, h1, hA⟩ := h
  have e := hA.1
  refine n_setRateByValue (RelN.hy hk h1 hA) p0 p1 Q X ?_ ?_
  · intro ht m1 hK
    have hK := hK _ (hA.deed _)
    rw [e] at hK ⊢
    exact hq ht m1 hK
  · intro ht
    exact hx ht
theorem N_setRateByWeight (h : RelN k mc u) (hk : k + 1 ≤ 2400) (p0 : Int32) (p1 : Int32) (Q : Int32 → Mm → Prop) (X : Nat → Mm → Prop) (hq : tWeight p0 p1 = 0 → ∀ m1, RelN (k + 1) m1 (svP u (up u.1 (26 + p0.toNatClampNeg) p1)) → Q (u.1 (26 + p0.toNatClampNeg)) m1) (hx : ¬ tWeight p0 p1 = 0 → X (tWeight p0 p1) mc) : w_X9_setRateByWeight p0 p1 mc Q X := by
  obtain ⟨mm, h1, hA⟩ := h
  have e := hA.1
  refine n_setRateByWeight (RelN.hy hk h1 hA) p0 p1 Q X ?_ ?_
  · intro ht m1 hK
    have hK := hK _ (hA.deed _)
    rw [e] at hK ⊢
    exact hq ht m1 hK
  · intro ht
    exact hx ht
theorem N_pass (h : RelN k mc u) (hk : k + 1 ≤ 2400) (p0 : Int32) (Q : Int32 → Mm → Prop) (X : Nat → Mm → Prop) (hq : tPass u.1 p0 = 0 → ∀ m1, RelN (k + 1) m1 (svP u (passF u.1 p0)) → Q ((psL u.1 p0 (mo u.1)).1) m1) (hx : ¬ tPass u.1 p0 = 0 → X (tPass u.1 p0) mc) : w_X9_pass p0 mc Q X := by
  obtain ⟨mm, h1, hA⟩ := h
  have e := hA.1
  refine n_pass (RelN.hy hk h1 hA) p0 Q X ?_ ?_
  · intro ht m1 hK
    have hK := hK _ (hA.deed _)
    rw [e] at ht hK ⊢
    exact hq ht m1 hK
  · intro ht
    rw [e] at ht ⊢
    exact hx ht
theorem N_undo (h : RelN k mc u) (hk : k + 1 ≤ 2400) (Q : Int32 → Mm → Prop) (X : Nat → Mm → Prop) (hq : tUndo u = 0 → ∀ m1, RelN (k + 1) m1 (unP u) → Q (nI (u.2.1 - 1)) m1) (hx : ¬ tUndo u = 0 → X (tUndo u) mc) : w_X9_undo mc Q X := by
  refine n_undo h hk Q X (fun h0 m1 hR => hq (by unfold tUndo; rw [if_neg (by omega)]) m1 hR) (fun h0 => ?_)
  exact xq hx (by unfold tUndo; rw [if_pos h0]) (by decide)
theorem N_keep (h : RelN k mc u) (hk : k + 1 ≤ 2400) (p0 : Int32) (Q : Int32 → Mm → Prop) (X : Nat → Mm → Prop) (hq : tSlot p0 = 0 → ∀ m1, RelN (k + 1) m1 (kpP u p0.toNatClampNeg) → Q (u.1 117) m1) (hx : ¬ tSlot p0 = 0 → X (tSlot p0) mc) : w_X9_keep p0 mc Q X := by
  exact n_keep h hk p0 Q X hq hx
theorem N_goBack (h : RelN k mc u) (hk : k + 1 ≤ 2400) (p0 : Int32) (Q : Int32 → Mm → Prop) (X : Nat → Mm → Prop) (hq : tBack u p0 = 0 → ∀ m1, RelN (k + 1) m1 (svP u (bkP u p0)) → Q (bkP u p0 117) m1) (hx : ¬ tBack u p0 = 0 → X (tBack u p0) mc) : w_X9_goBack p0 mc Q X := by
  exact n_goBack h hk p0 Q X hq hx
theorem RelN.scr {z : Mm} (h : RelN k mc u) (hz : eq11 z mc) : RelN k z u := by
  obtain ⟨mm, h1, hA⟩ := h
  exact ⟨mm, hz.rel h1, hA⟩
theorem N_savedStates (h : RelN k mc u) (Q : Int32 → Prop) (hq : Q (nI u.2.1)) : w_X9_savedStates mc Q := by
  obtain ⟨mm, h1, hA⟩ := h
  have e : mc.1 12 1 2 = nI u.2.1 := by rw [← h1.2.2.1.2.2.1]; exact hA.2.1
  unfold w_X9_savedStates
  rw [e]
  exact hq
end ANS
