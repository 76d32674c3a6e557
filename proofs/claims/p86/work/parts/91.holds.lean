section LHOLD
variable {a s : Nat} {f : Fn} {u : PS} {o : Bool} {g : Gh} {p1 : Int32} {Q9 : Int32 → Gh → Prop}
/-- what is answered about an open entry -/
theorem a_at (hI : Inv a s u.1) {j : Nat} (hj : j < mo u.1) : y_tryAt (nI j) u = en u.1 j 0 := by
  have h16 := hI.mo16
  unfold y_tryAt tAt
  rw [if_pos ((rng_ix hI.opn (by decide)).mpr ⟨j, hj, rfl⟩), if_pos rfl, rs_tn (by omega)]
theorem a_weight (hJ : JN u.1) {j : Nat} (hj : j < mo u.1) : y_tryWeight (en u.1 j 0) u = en u.1 j 2 := by
  unfold y_tryWeight tEnt
  rw [fi_at hJ hj, if_pos hj, if_pos rfl]
theorem a_kind (hJ : JN u.1) {j : Nat} (hj : j < mo u.1) : y_tryKind (en u.1 j 0) u = en u.1 j 1 := by
  unfold y_tryKind tEnt
  rw [fi_at hJ hj, if_pos hj, if_pos rfl]
theorem a_duty (hJ : JN u.1) {j : Nat} (hj : j < mo u.1) : y_tryDuty (en u.1 j 0) u = dutyAF u.1 j := by
  unfold y_tryDuty tEnt
  rw [fi_at hJ hj, if_pos hj, if_pos rfl]
theorem a_allowed (hJ : JN u.1) {j : Nat} (hj : j < mo u.1) : y_tryAllowed (en u.1 j 0) u = allowF u.1 j := by
  unfold y_tryAllowed tEnt
  rw [fi_at hJ hj, if_pos hj, if_pos rfl]
theorem a_open (hJ : JN u.1) {j : Nat} (hj : j < mo u.1) : v_isOpenEntry (en u.1 j 0) u = 1 := by
  unfold v_isOpenEntry
  rw [fi_at hJ hj, if_pos hj]
theorem a_part (hI : Inv a s u.1) (hJ : JN u.1) {j w : Nat} (hj : j < mo u.1) (h1 : 1 ≤ w) (h2 : w ≤ wN u.1 j) : y_tryPart (en u.1 j 0) (nI w) u = dutyPF u.1 j (nI w) := by
  have e := (hI.ent j hj).ent
  have ht : tPart u.1 (en u.1 j 0) (nI w) = 0 := by
    unfold tPart
    rw [fi_at hJ hj, if_pos hj, e.2.2.1, if_pos ⟨nI_le (a := 1) h1 (by omega), nI_le h2 (by omega)⟩]
  unfold y_tryPart
  rw [ht, fi_at hJ hj, if_pos rfl]
theorem a_charge (hI : Inv a s u.1) (hJ : JN u.1) {j w : Nat} (hj : j < mo u.1) (h2 : w ≤ wN u.1 j) : y_tryCharge (en u.1 j 0) (nI w) u = chargeF u.1 j (nI (wN u.1 j - w - (allowF u.1 j).toNatClampNeg)) := by
  have e := (hI.ent j hj).ent
  have ht : tChg u.1 (en u.1 j 0) (nI w) = 0 := by
    unfold tChg
    rw [fi_at hJ hj, if_pos hj, e.2.2.1, if_pos ⟨nI_le (a := 0) (by omega) (by omega), nI_le h2 (by omega)⟩]
  unfold y_tryCharge
  rw [ht, fi_at hJ hj, if_pos rfl, loss_n hI hj h2]
theorem a_later (hI : Inv a s u.1) (hJ : JN u.1) {j w : Nat} (hj : j < mo u.1) (h2 : w ≤ 365) : y_tryLater (en u.1 j 0) (nI w) u = dutyF u.1 (knd u.1 j) (en u.1 j 3) (en u.1 j 2) (en u.1 j 5 + nI w) := by
  have ht : tLat u.1 (en u.1 j 0) (nI w) = 0 := by
    unfold tLat
    rw [fi_at hJ hj, if_pos hj, if_pos ⟨nI_le (a := 0) (by omega) (by omega), nI_le (b := 365) h2 (by decide)⟩]
  unfold y_tryLater
  rw [ht, fi_at hJ hj, if_pos rfl]
/-- one entry holds -/
theorem H304 (hk : g.2 ≤ 2400) (hI : Inv a s (g.1 o).1) (hJ : JI (g.1 o).1) {j w : Nat} (hj : j < mo (g.1 o).1) (hw : w ≤ wN (g.1 o).1 j) {y9 x109 y110 y : Int32} {K : Int32 → Int32 → Int32 → Int32 → Int32 → Prop} (hK : K x109 (en (g.1 o).1 j 0) y110 1 (y9 + 1)) : w_L_holds_J304 o g y9 (en (g.1 o).1 j 0) (en (g.1 o).1 j 2) (dutyAF (g.1 o).1 j) (nI w) x109 y110 y K y := by
  have e := (hI.ent j hj).ent
  have a1 := a_allowed hJ.1 hj
  have n1 := allow_le (g.1 o).1 j
  have a2 : y_tryCharge (en (g.1 o).1 j 0) (en (g.1 o).1 j 2) (g.1 o) = 0 := by
    rw [e.2.2.1, a_charge hI hJ.1 hj (Nat.le_refl _), show wN (g.1 o).1 j - wN (g.1 o).1 j - (allowF (g.1 o).1 j).toNatClampNeg = 0 by omega]
    exact charge_0 hI hj
  have a3 : y_tryCharge (en (g.1 o).1 j 0) 0 (g.1 o) = _ := a_charge hI hJ.1 hj (Nat.zero_le _)
  have a4 := a_charge hI hJ.1 hj hw
  have n2 := charge_le hI hj (x := wN (g.1 o).1 j - w - (allowF (g.1 o).1 j).toNatClampNeg) (y := wN (g.1 o).1 j - 0 - (allowF (g.1 o).1 j).toNatClampNeg) (by omega) (by omega)
  obtain ⟨b, b1, b2, b3⟩ := (dear_max hI (mo (g.1 o).1) (Nat.le_refl _)).2 (by omega)
  have a5 : v_dearestEntry (g.1 o) = en (g.1 o).1 b 0 := by unfold v_dearestEntry dearF; rw [b1]; rfl
  have a6 := a_duty hJ.1 b2
  have n3 := b3 j hj
  simp only [w_L_holds_J304, a1, n1, a2, a3, a4, n2, a5, a6, n3, hk, z10, z01, implies_true, ne_eq, eq_self, and_self, not_true_eq_false, not_false_eq_true, false_implies, true_implies, true_and, and_true, forall_eq, if_true, if_false, reduceIte]
  exact hK
theorem H286 (hk : g.2 ≤ 2400) (hI : Inv a s (g.1 o).1) (hJ : JI (g.1 o).1) {j w : Nat} (hj : j < mo (g.1 o).1) (hw : w ≤ wN (g.1 o).1 j) {y9 x109 y110 : Int32} {K : Int32 → Int32 → Int32 → Int32 → Int32 → Prop} (hK : K x109 (en (g.1 o).1 j 0) y110 1 (y9 + 1)) : (¬ y_isLate (en (g.1 o).1 j 0) (g.1 o) = 1 → w_L_holds_J286 o g y9 (en (g.1 o).1 j 0) (en (g.1 o).1 j 2) (dutyAF (g.1 o).1 j) (nI w) x109 y110 K 0) ∧ (y_isLate (en (g.1 o).1 j 0) (g.1 o) = 1 → w_L_holds_J286 o g y9 (en (g.1 o).1 j 0) (en (g.1 o).1 j 2) (dutyAF (g.1 o).1 j) (nI w) x109 y110 K 1) := by
  have h304 := fun y => H304 (y := y) (y9 := y9) (x109 := x109) (y110 := y110) hk hI hJ hj hw hK
  have ha := (hI.ent j hj).2.2.2.2.2.1
  have hd := hI.day.2
  have ht : tEnt (g.1 o).1 (en (g.1 o).1 j 0) = 0 := by unfold tEnt; rw [fi_at hJ.1 hj, if_pos hj]
  by_cases z : en (g.1 o).1 j 5 ≤ 200
  · have b1 : y_isLate (en (g.1 o).1 j 0) (g.1 o) = 0 := by unfold y_isLate; rw [ht, fi_at hJ.1 hj, if_pos rfl, if_pos z, if_pos rfl]
    have b2 : ¬ y_tryDays (en (g.1 o).1 j 0) (g.1 o) = 0 := by
      unfold y_tryDays
      rw [ht, fi_at hJ.1 hj, if_pos rfl, if_pos z]
      rw [ha.1] at z ⊢
      have h9 := ha.2
      have z2 := (nI_leI (b := 200) (by omega) (by decide)).mp z
      rw [show (201 : Int32) = nI 201 from rfl, pk_sub (by omega)]
      intro q
      have := (nI_eq (b := 0) (by omega) (by decide)).mp q
      omega
    rw [b1]
    refine ⟨fun _ => ?_, fun q => absurd q (by decide)⟩
    simp only [w_L_holds_J286, b2, hk, z10, z01, implies_true, ne_eq, eq_self, and_self, not_true_eq_false, not_false_eq_true, false_implies, true_implies, true_and, and_true, forall_eq, if_true, if_false, reduceIte]
    exact h304 0
  · have b1 : y_isLate (en (g.1 o).1 j 0) (g.1 o) = 1 := by unfold y_isLate; rw [ht, fi_at hJ.1 hj, if_pos rfl, if_neg z, if_neg (by decide)]
    have b2 : y_tryDays (en (g.1 o).1 j 0) (g.1 o) = 0 := by unfold y_tryDays; rw [ht, fi_at hJ.1 hj, if_pos rfl, if_neg z]
    rw [b1]
    refine ⟨fun q => absurd rfl q, fun _ => ?_⟩
    simp only [w_L_holds_J286, b2, hk, z10, z01, implies_true, ne_eq, eq_self, and_self, not_true_eq_false, not_false_eq_true, false_implies, true_implies, true_and, and_true, forall_eq, if_true, if_false, reduceIte]
    exact h304 1
def laN (f : Fn) (j : Nat) : Int32 := if j = 0 then -1 else en f (j - 1) 0
theorem laN_lt (hI : Inv a s f) (hJ : JN f) {j : Nat} (hj : j < mo f) : ¬ en f j 0 ≤ laN f j := by
  have h1 := num_n hJ hI hj
  unfold laN
  rw [h1.1]
  by_cases z : j = 0
  · rw [if_pos z, Int32.le_iff_toInt_le, nI_toInt (by omega), show (-1 : Int32).toInt = -1 from by decide]
    omega
  · have h2 := num_n hJ hI (e := j - 1) (by omega)
    have h3 := hJ.2 (j - 1) j (by omega) hj
    rw [if_neg z, h2.1, nI_leI (by omega) (by omega)]
    omega
theorem H176 (hk : g.2 ≤ 2400) (hI : Inv a s (g.1 o).1) (hJ : JI (g.1 o).1) {j w : Nat} (hj : j < mo (g.1 o).1) (h1w : 1 ≤ w) (hw : w ≤ wN (g.1 o).1 j) {y9 x109 y110 : Int32} {K : Int32 → Int32 → Int32 → Int32 → Int32 → Prop} (hK : K x109 (en (g.1 o).1 j 0) y110 1 (y9 + 1)) : w_L_holds_J176 o g (laN (g.1 o).1 j) y9 (en (g.1 o).1 j 0) (en (g.1 o).1 j 2) (dutyAF (g.1 o).1 j) (nI w) x109 K y110 := by
  have e := (hI.ent j hj).ent
  have h286 := H286 (y9 := y9) (x109 := x109) (y110 := y110) hk hI hJ hj hw hK
  have n0 := laN_lt hI hJ.1 hj
  have a1 := a_open hJ.1 hj
  have n1 : ¬ en (g.1 o).1 j 2 ≤ 0 := by
    rw [e.2.2.1]
    intro z
    have := (nI_leI (b := 0) (by omega) (by decide)).mp z
    omega
  have n2 : ¬ 999 < en (g.1 o).1 j 2 := by
    rw [e.2.2.1]
    exact nlt_nI (y := 999) (by omega) (by decide) (by omega)
  have a2 : y_tryPart (en (g.1 o).1 j 0) (en (g.1 o).1 j 2) (g.1 o) = dutyAF (g.1 o).1 j := by
    rw [← part_whole hI hj, e.2.2.1]
    exact a_part hI hJ.1 hj (by omega) (Nat.le_refl _)
  have a3 := a_part hI hJ.1 hj h1w hw
  have n3 := part_le_all hI hj hw
  have a4 : y_tryLater (en (g.1 o).1 j 0) 0 (g.1 o) = dutyAF (g.1 o).1 j := by
    rw [show (0 : Int32) = nI 0 from rfl, a_later hI hJ.1 hj (Nat.zero_le _), show nI 0 = 0 from rfl, Int32.add_zero]
    rfl
  have a5 : y_tryLater (en (g.1 o).1 j 0) 365 (g.1 o) = _ := a_later hI hJ.1 hj (Nat.le_refl _)
  have n4 : ¬ dutyF (g.1 o).1 (knd (g.1 o).1 j) (en (g.1 o).1 j 3) (en (g.1 o).1 j 2) (en (g.1 o).1 j 5 + nI 365) < dutyAF (g.1 o).1 j := later_le hI hj
  simp only [w_L_holds_J176, n0, a1, n1, n2, a2, a3, n3, a4, a5, n4, hk, z10, z01, implies_true, ne_eq, eq_self, and_self, not_true_eq_false, not_false_eq_true, false_implies, true_implies, true_and, and_true, forall_eq, if_true, if_false, reduceIte]
  exact h286
/-- one chamber holds -/
theorem H423 (hk : g.2 ≤ 2400) (hI : Inv a s (g.1 o).1) (hJ : JI (g.1 o).1) {c : Nat} (hc : c < 5) {K : Int32 → Int32 → Prop} (hK : K 1 (nI c + 1)) : (¬ y_isLocked (nI c) (g.1 o) = 1 → w_L_holds_J423 o g (nI c) K 0) ∧ (y_isLocked (nI c) (g.1 o) = 1 → w_L_holds_J423 o g (nI c) K 1) := by
  have ht : tCh (nI c) = 0 := by unfold tCh; rw [if_pos ⟨nI_le (a := 0) (by omega) (by omega), nI_le (b := 4) (by omega) (by decide)⟩]
  have hcn : (nI c).toNatClampNeg = c := rs_tn (by omega)
  have hC := hI.cham c hc
  have hr : ¬ y_tryRoom (nI c) (g.1 o) < 0 := by
    unfold y_tryRoom
    rw [ht, if_pos rfl, (room_sq hI (nI c)).1, pk_sub (hJ.2.2.1 c hc)]
    exact nlt_nI (x := 0) (by decide) (by omega) (by omega)
  have hs : y_trySeal (nI c) (g.1 o) = slc ((g.1 o).1 (10 + c)) := by
    unfold y_trySeal
    rw [ht, if_pos rfl, hcn]
  by_cases z : (g.1 o).1 (10 + c) ≤ 0
  · have b1 : y_isLocked (nI c) (g.1 o) = 0 := by unfold y_isLocked; rw [ht, if_pos rfl, hcn, if_pos z, if_pos rfl]
    have b2 : slc ((g.1 o).1 (10 + c)) = -1 := by unfold slc; rw [if_pos z]
    have b3 : y_isBroken (nI c) (g.1 o) = 0 := by unfold y_isBroken; rw [ht, if_pos rfl, hcn, hC.2.2 z, if_pos rfl]
    have b4 : (-1 : Int32) ≤ 0 := by decide
    rw [b1]
    refine ⟨fun _ => ?_, fun q => absurd q (by decide)⟩
    simp only [w_L_holds_J423, w_L_holds_J458, hr, hs, b2, b3, b4, hk, z10, z01, implies_true, ne_eq, eq_self, and_self, not_true_eq_false, not_false_eq_true, false_implies, true_implies, true_and, and_true, forall_eq, if_true, if_false, reduceIte]
    exact hK
  · have b1 : y_isLocked (nI c) (g.1 o) = 1 := by unfold y_isLocked; rw [ht, if_pos rfl, hcn, if_neg z, if_neg (by decide)]
    have b2 : slc ((g.1 o).1 (10 + c)) = (g.1 o).1 (10 + c) := by unfold slc; rw [if_neg z]
    rw [b1]
    refine ⟨fun q => absurd rfl q, fun _ => ?_⟩
    simp only [w_L_holds_J423, w_L_holds_J458, hr, hs, b2, z, hk, z10, z01, implies_true, ne_eq, eq_self, and_self, not_true_eq_false, not_false_eq_true, false_implies, true_implies, true_and, and_true, forall_eq, if_true, if_false, reduceIte]
    exact hK
/-- one kind of goods holds -/
theorem ch_case (hI : Inv a s f) (v : Int32) : (chF f (pC f none v) = none ∧ sq f 1 v = 0) ∨ ∃ q, chF f (pC f none v) = some q ∧ q < mo f ∧ en f q 1 = v ∧ 0 < sq f 1 v := by
  have h := ch_min (f := f) (fun e he => ((hI.ent e he).ent).2.2.2.1) (pC f none v) (mo f) (Nat.le_refl _)
  have e0 : chF f (pC f none v) = fo (chG f (pC f none v)) (mo f) none := rfl
  rw [← e0] at h
  cases hc : chF f (pC f none v) with
  | none =>
    refine Or.inl ⟨rfl, ?_⟩
    have h1 := h.1 hc
    unfold sq
    have e1 : sg (eq1 f 1 v) (mo f) = sg (fun _ => 0) (mo f) := sg_c (fun e he => by
      have h2 := h1 e he
      unfold eq1
      rw [if_neg (fun z => h2 ?_)]
      unfold pC
      simp [z])
    rw [e1]
    have h0 : ∀ n, sg (fun _ => 0) n = 0 := fun n => by
      induction n with
      | zero => rfl
      | succ n ih => exact ih
    exact h0 _
  | some q =>
    obtain ⟨h1, h2, _⟩ := h.2 q hc
    have h3 : en f q 1 = v := by
      unfold pC at h2
      simpa using h2
    refine Or.inr ⟨q, rfl, h1, h3, ?_⟩
    have h4 := sq_ge (q := 1) h1 h3
    have h5 := ((hI.ent q h1).ent).2.2.2.1
    omega
theorem from_1 (hI : Inv a s f) {q : Nat} {v : Int32} (hq : q < mo f) (hc : chF f (pC f none v) = some q) (hs : 0 < sq f 1 v) : fromF f v 1 = dutyPF f q (nI 1) := by
  have h1 := stock_sq hI v
  have h5 := ((hI.ent q hq).ent).2.2.2.1
  have h2 : (1 : Int32) ≤ nI (sq f 1 v) := nI_le (a := 1) hs (by omega)
  unfold fromF
  rw [h1.1, if_pos h2, hc, show (1 : Int32).toNatClampNeg = 1 from rfl]
  obtain ⟨n, hn⟩ : ∃ n, mo f = n + 1 := ⟨mo f - 1, by omega⟩
  rw [hn]
  show (if 1 = 0 then (0 : Int32) else dq f v n (1 - min 1 (wN f q)) (0 + dutyPF f q (nI (min 1 (wN f q)))) (chF f (pC f (some q) v))) = _
  rw [if_neg (by decide), show min 1 (wN f q) = 1 by omega, show 1 - 1 = 0 from rfl, dq_0, Int32.zero_add]
theorem H634 (hk : g.2 ≤ 2400) (hI : Inv a s (g.1 o).1) (hJ : JI (g.1 o).1) {kd : Nat} (hkd : kd < 6) {K : Int32 → Int32 → Prop} (hK : K 1 (nI kd + 1)) : w_L_holds_J634 o g (nI kd) K := by
  have ht : tKd (nI kd) = 0 := by unfold tKd; rw [if_pos ⟨nI_le (a := 0) (by omega) (by omega), nI_le (b := 5) (by omega) (by decide)⟩]
  have hcn : (nI kd).toNatClampNeg = kd := rs_tn (by omega)
  have h := drawn_n hI hJ hkd
  have a1 : y_tryDrawn (nI kd) (g.1 o) = (g.1 o).1 (30 + 6 * kd + 7) := by unfold y_tryDrawn; rw [ht, hcn, if_pos rfl]
  have a2 : y_tryWithdrawn (nI kd) (g.1 o) = (g.1 o).1 (30 + 6 * kd + 3) := by unfold y_tryWithdrawn; rw [ht, hcn, if_pos rfl]
  simp only [w_L_holds_J634, a1, a2, h, hk, z10, z01, implies_true, ne_eq, eq_self, and_self, not_true_eq_false, not_false_eq_true, false_implies, true_implies, true_and, and_true, forall_eq, if_true, if_false, reduceIte]
  exact hK
theorem H491 (hk : g.2 ≤ 2400) (hI : Inv a s (g.1 o).1) (hJ : JI (g.1 o).1) {kd : Nat} (hkd : kd < 6) {K : Int32 → Int32 → Prop} {r1 y5 : Int32} (hK : K 1 (nI kd + 1)) : w_L_holds_B491 o g Q9 r1 y5 K 1 (nI kd) := by
  have h634 := H634 hk hI hJ hkd hK
  have ht : tKd (nI kd) = 0 := by unfold tKd; rw [if_pos ⟨nI_le (a := 0) (by omega) (by omega), nI_le (b := 5) (by omega) (by decide)⟩]
  have hcn : (nI kd).toNatClampNeg = kd := rs_tn (by omega)
  have n6 : ¬ (6 : Int32) ≤ nI kd := fun z => by
    have := (nI_leI (a := 6) (by decide) (by omega)).mp z
    omega
  have hsq := stock_sq hI (nI kd)
  have a1 : y_tryStock (nI kd) (g.1 o) = nI (sq (g.1 o).1 1 (nI kd)) := by unfold y_tryStock; rw [ht, if_pos rfl, hsq.1]
  have a2 : y_tryTotals (nI kd) (g.1 o) = nI (sq (g.1 o).1 1 (nI kd)) := by unfold y_tryTotals; rw [ht, if_pos rfl, hcn, totals_n hI hJ hkd, hsq.1]
  have a3 : y_tryCheapest (nI kd) (g.1 o) = numF (g.1 o).1 (chF (g.1 o).1 (pC (g.1 o).1 none (nI kd))) := by unfold y_tryCheapest; rw [ht, if_pos rfl]
  have hfrom : ∀ w, 1 ≤ w → w ≤ 9999 → y_tryFrom (nI kd) (nI w) (g.1 o) = fromF (g.1 o).1 (nI kd) (nI w) := fun w h1 h2 => by
    have hf : tFrom (nI kd) (nI w) = 0 := by
      unfold tFrom
      rw [if_pos ⟨nI_le (a := 0) (by omega) (by omega), nI_le (b := 5) (by omega) (by decide)⟩, if_pos ⟨nI_le (a := 1) h1 (by omega), nI_le (b := 9999) h2 (by decide)⟩]
    unfold y_tryFrom
    rw [hf, if_pos rfl]
  have a4 : ¬ 9998 < nI (sq (g.1 o).1 1 (nI kd)) → y_tryFrom (nI kd) (nI (sq (g.1 o).1 1 (nI kd)) + 1) (g.1 o) = -1 := fun z => by
    have z2 : sq (g.1 o).1 1 (nI kd) ≤ 9998 := by
      by_cases y : sq (g.1 o).1 1 (nI kd) ≤ 9998
      · exact y
      · exact absurd ((nI_ltI (a := 9998) (by decide) (by omega)).mpr (by omega)) z
    rw [nI_1, hfrom _ (by omega) (by omega)]
    have z3 : ¬ nI (sq (g.1 o).1 1 (nI kd) + 1) ≤ nI (sq (g.1 o).1 1 (nI kd)) := fun q => by
      have := (nI_leI (by omega) (by omega)).mp q
      omega
    unfold fromF
    rw [hsq.1, if_neg z3]
  rcases ch_case hI (nI kd) with ⟨c1, c2⟩ | ⟨q, c1, c2, c3, c4⟩
  · have a5 : numF (g.1 o).1 (chF (g.1 o).1 (pC (g.1 o).1 none (nI kd))) = -1 := by rw [c1]; rfl
    rw [c2] at a1 a2 a4
    have a6 := a4 (by decide)
    have b0 : ¬ 9998 < nI 0 := by decide
    have b1 : nI 0 = 0 := rfl
    rw [b1] at a1 a2 a6 b0
    simp only [w_L_holds_B491, w_L_holds_J553, w_L_holds_J563, w_L_holds_J591, n6, a1, a2, a3, a5, a6, b0, hk, z10, z01, implies_true, ne_eq, eq_self, and_self, not_true_eq_false, not_false_eq_true, false_implies, true_implies, true_and, and_true, forall_eq, if_true, if_false, reduceIte]
    exact h634
  · have a5 : numF (g.1 o).1 (chF (g.1 o).1 (pC (g.1 o).1 none (nI kd))) = en (g.1 o).1 q 0 := by rw [c1]; rfl
    have b5 := num_m1 hJ.1 hI c2
    have b1 : ¬ nI (sq (g.1 o).1 1 (nI kd)) = 0 := fun z => by
      have := (nI_eq (b := 0) (by omega) (by decide)).mp z
      omega
    have b2 : y_tryKind (en (g.1 o).1 q 0) (g.1 o) = nI kd := by rw [a_kind hJ.1 c2, c3]
    have b3 : y_tryFrom (nI kd) 1 (g.1 o) = dutyPF (g.1 o).1 q (nI 1) := by
      have := hfrom 1 (by decide) (by decide)
      rw [show nI 1 = (1 : Int32) from rfl] at this
      rw [this, from_1 hI c2 c1 c4]
    have b4 : y_tryPart (en (g.1 o).1 q 0) 1 (g.1 o) = dutyPF (g.1 o).1 q (nI 1) := a_part (w := 1) hI hJ.1 c2 (Nat.le_refl _) (by have := ((hI.ent q c2).ent).2.2.2.1; omega)
    by_cases z : 9998 < nI (sq (g.1 o).1 1 (nI kd))
    · simp only [w_L_holds_B491, w_L_holds_J553, w_L_holds_J563, w_L_holds_J591, n6, a1, a2, a3, a5, b5, b1, b2, b3, b4, z, hk, z10, z01, implies_true, ne_eq, eq_self, and_self, not_true_eq_false, not_false_eq_true, false_implies, true_implies, true_and, and_true, forall_eq, if_true, if_false, reduceIte]
      exact h634
    · simp only [w_L_holds_B491, w_L_holds_J553, w_L_holds_J563, w_L_holds_J591, n6, a1, a2, a3, a4 z, a5, b5, b1, b2, b3, b4, z, hk, z10, z01, implies_true, ne_eq, eq_self, and_self, not_true_eq_false, not_false_eq_true, false_implies, true_implies, true_and, and_true, forall_eq, if_true, if_false, reduceIte]
      exact h634
theorem next_0 (h : mo f = 0) : numF f (nextF f) = -1 := by
  unfold nextF
  rw [h]
  rfl
theorem H670 (hk : g.2 ≤ 2400) (hI : Inv a s (g.1 o).1) (hJ : JI (g.1 o).1) (h : Q9 1 g) : w_L_holds_J670 o g Q9 (v_entries (g.1 o)) (stakeF (g.1 o).1) 1 := by
  have hd := dear_0 hJ.1 hI
  have a1 : v_dutyAtStake (g.1 o) = stakeF (g.1 o).1 := rfl
  have h0 := hI.opn.1
  have h16 := hI.mo16
  have e0 : v_entries (g.1 o) = nI (mo (g.1 o).1) := h0
  by_cases z : mo (g.1 o).1 = 0
  · have b1 : v_dearestEntry (g.1 o) = -1 := hd.mpr z
    have b2 : v_entries (g.1 o) = 0 := by rw [e0, z]; rfl
    have b3 : v_nextOverdue (g.1 o) = -1 := next_0 z
    have b4 : ¬ (0 : Int32) < 0 := by decide
    simp only [w_L_holds_J670, w_L_holds_J692, w_L_holds_J705, a1, b1, b2, b3, b4, hk, z10, z01, implies_true, ne_eq, eq_self, and_self, not_true_eq_false, not_false_eq_true, false_implies, true_implies, true_and, and_true, forall_eq, if_true, if_false, reduceIte]
    exact h
  · have b1 : ¬ v_dearestEntry (g.1 o) = -1 := fun q => z (hd.mp q)
    have b3 : 0 < v_entries (g.1 o) := by
      rw [e0]
      exact (nI_ltI (a := 0) (by decide) (by omega)).mpr (by omega)
    have b2 : ¬ v_entries (g.1 o) = 0 := fun q => by rw [q] at b3; exact absurd b3 (by decide)
    simp only [w_L_holds_J670, w_L_holds_J692, w_L_holds_J705, a1, b1, b2, b3, hk, z10, z01, implies_true, ne_eq, eq_self, and_self, not_true_eq_false, not_false_eq_true, false_implies, true_implies, true_and, and_true, forall_eq, if_true, if_false, reduceIte]
    exact h
theorem H488 (hk : g.2 ≤ 2400) (hI : Inv a s (g.1 o).1) (hJ : JI (g.1 o).1) (h : Q9 1 g) : w_L_holds_J488 o g Q9 (v_entries (g.1 o)) (stakeF (g.1 o).1) 1 := by
  unfold w_L_holds_J488
  refine loop_for _ 6 (fun j => ((1 : Int32), nI j)) (fun j K hj hK => ?_) (fun K => ?_) 7 (by decide)
  · show w_L_holds_B491 o g Q9 _ _ (fun z0 z1 => K (z0, z1)) 1 (nI j)
    refine H491 hk hI hJ hj ?_
    show K (1, nI j + 1)
    rw [nI_1]
    exact hK
  · show w_L_holds_B491 o g Q9 _ _ (fun z0 z1 => K (z0, z1)) 1 (nI 6)
    have hle : (6 : Int32) ≤ nI 6 := by decide
    simp only [w_L_holds_B491, hle, hk, z10, z01, implies_true, ne_eq, eq_self, and_self, not_true_eq_false, not_false_eq_true, false_implies, true_implies, true_and, and_true, forall_eq, if_true, if_false, reduceIte]
    exact H670 hk hI hJ h
theorem H394 (hk : g.2 ≤ 2400) (hI : Inv a s (g.1 o).1) (hJ : JI (g.1 o).1) (h : Q9 1 g) : w_L_holds_J394 o g Q9 (v_entries (g.1 o)) (stakeF (g.1 o).1) 1 := by
  unfold w_L_holds_J394
  refine loop_for _ 5 (fun j => ((1 : Int32), nI j)) (fun j K hj hK => ?_) (fun K => ?_) 6 (by decide)
  · show w_L_holds_B397 o g Q9 _ _ (fun z0 z1 => K (z0, z1)) 1 (nI j)
    have hlt : ¬ (5 : Int32) ≤ nI j := fun z => by
      have := (nI_leI (a := 5) (by decide) (by omega)).mp z
      omega
    have h423 := H423 (K := fun z0 z1 => K (z0, z1)) hk hI hJ hj (by rw [nI_1]; exact hK)
    simp only [w_L_holds_B397, hlt, hk, z10, z01, implies_true, ne_eq, eq_self, and_self, not_true_eq_false, not_false_eq_true, false_implies, true_implies, true_and, and_true, forall_eq, if_true, if_false, reduceIte]
    exact h423
  · show w_L_holds_B397 o g Q9 _ _ (fun z0 z1 => K (z0, z1)) 1 (nI 5)
    have hle : (5 : Int32) ≤ nI 5 := by decide
    simp only [w_L_holds_B397, hle, hk, z10, z01, implies_true, ne_eq, eq_self, and_self, not_true_eq_false, not_false_eq_true, false_implies, true_implies, true_and, and_true, forall_eq, if_true, if_false, reduceIte]
    exact H488 hk hI hJ h
def moN (f : Fn) (j : Nat) : Int32 := fo (fun e m => if dutyAF f e ≤ m then m else dutyAF f e) j 0
theorem H97 (hk : g.2 ≤ 2400) (hI : Inv a s (g.1 o).1) (hJ : JI (g.1 o).1) {n : Nat} (hn : n < 2147483648) (hp : p1 = nI n) (h : Q9 1 g) : w_L_holds_J97 o p1 g Q9 (v_entries (g.1 o)) 1 := by
  unfold w_L_holds_J97
  have h16 := hI.mo16
  refine loop_for _ (mo (g.1 o).1) (fun j => (fo (fun e s => s + dutyAF (g.1 o).1 e) j 0, laN (g.1 o).1 j, moN (g.1 o).1 j, (1 : Int32), nI j)) (fun j K hj hK => ?_) (fun K => ?_) 17 (by omega)
  · show w_L_holds_B102 o p1 g Q9 _ (fun z0 z1 z2 z3 z4 => K (z0, z1, z2, z3, z4)) (fo (fun e s => s + dutyAF (g.1 o).1 e) j 0) (laN (g.1 o).1 j) (moN (g.1 o).1 j) 1 (nI j)
    have hlt : ¬ v_entries (g.1 o) ≤ nI j := mo_leI hI.opn hj
    have e := (hI.ent j hj).ent
    have hm : p1 - p1 / en (g.1 o).1 j 2 * en (g.1 o).1 j 2 = nI (n % wN (g.1 o).1 j) := by rw [hp, e.2.2.1]; exact rm_n hn e.2.2.2.1 (by omega)
    have hx : 1 + nI (n % wN (g.1 o).1 j) = nI (1 + n % wN (g.1 o).1 j) := nI_add 1 _
    have hmod := Nat.mod_lt n e.2.2.2.1
    have n0 : ¬ en (g.1 o).1 j 2 = 0 := by
      rw [e.2.2.1]
      intro z
      have := (nI_eq (b := 0) (by omega) (by decide)).mp z
      omega
    have h176 := fun y110 (hy : y110 = moN (g.1 o).1 (j + 1)) => H176 (y9 := nI j) (x109 := fo (fun e s => s + dutyAF (g.1 o).1 e) j 0 + dutyAF (g.1 o).1 j) (y110 := y110) (K := fun z0 z1 z2 z3 z4 => K (z0, z1, z2, z3, z4)) hk hI hJ hj (w := 1 + n % wN (g.1 o).1 j) (by omega) (by omega) (by
      rw [nI_1, hy]
      exact hK)
    have hstep : moN (g.1 o).1 (j + 1) = if dutyAF (g.1 o).1 j ≤ moN (g.1 o).1 j then moN (g.1 o).1 j else dutyAF (g.1 o).1 j := rfl
    simp only [w_L_holds_B102, hlt, a_at hI hj, a_weight hJ.1 hj, a_duty hJ.1 hj, n0, hm, hx, hk, z10, z01, implies_true, ne_eq, eq_self, and_self, not_true_eq_false, not_false_eq_true, false_implies, true_implies, true_and, and_true, forall_eq, if_true, if_false, reduceIte]
    exact ⟨fun z => h176 _ (by rw [hstep, if_pos z]), fun z => h176 _ (by rw [hstep, if_neg z])⟩
  · show w_L_holds_B102 o p1 g Q9 _ (fun z0 z1 z2 z3 z4 => K (z0, z1, z2, z3, z4)) (stakeF (g.1 o).1) (laN (g.1 o).1 (mo (g.1 o).1)) (moN (g.1 o).1 (mo (g.1 o).1)) 1 (nI (mo (g.1 o).1))
    have hle : v_entries (g.1 o) ≤ nI (mo (g.1 o).1) := by
      unfold v_entries
      rw [mo_le hI.opn]
      trivial
    have h394 := H394 hk hI hJ h
    simp only [w_L_holds_B102, hle, hk, z10, z01, implies_true, ne_eq, eq_self, and_self, not_true_eq_false, not_false_eq_true, false_implies, true_implies, true_and, and_true, forall_eq, if_true, if_false, reduceIte]
    exact h394
theorem L_holds (hg : GI g) (hk : g.2 ≤ 2400) (hJ : JP (g.1 o)) (hx : 0 ≤ p1) (h : Q9 1 g) : w_L_holds o p1 g Q9 := by
  obtain ⟨n, hn, hp⟩ := nn_of hx
  have hI := hg.inv o
  have hJ1 := hJ.1
  have h97 := H97 (Q9 := Q9) hk hI hJ1 hn hp h
  have b1 : ¬ 16 < v_entries (g.1 o) := by
    have h0 : v_entries (g.1 o) = nI (mo (g.1 o).1) := hI.opn.1
    have h16 := hI.mo16
    rw [h0]
    exact nlt_nI (y := 16) (by omega) (by decide) h16
  have b2 : ¬ 60 < v_entriesMade (g.1 o) := by
    have h0 : v_entriesMade (g.1 o) = nI ((g.1 o).1 1).toNatClampNeg := hI.made.1
    have h60 := hI.m60
    rw [h0]
    exact nlt_nI (y := 60) (by omega) (by decide) h60
  have b3 : v_balance (g.1 o) = v_balanceByTotals (g.1 o) := hJ1.2.1.1
  have b4 : v_balanceByTotals (g.1 o) = v_account (g.1 o) - v_debt (g.1 o) := hJ1.2.1.1.symm
  have b5 : ¬ v_account (g.1 o) < 0 := hI.acct.nn (by have := hI.bnd.1; omega)
  have b6 : ¬ v_debt (g.1 o) < 0 := hI.debt.nn (by decide)
  have b7 : ¬ 12 < v_receipts (g.1 o) := by
    have h0 : v_receipts (g.1 o) = nI (mr (g.1 o).1) := hI.recs.1
    have h12 := hI.mr12
    rw [h0]
    exact nlt_nI (y := 12) (by omega) (by decide) h12
  have h69 : w_L_holds_J69 o p1 g Q9 (v_entries (g.1 o)) := by
    simp only [w_L_holds_J69, b5, b6, b7, hk, z10, z01, implies_true, ne_eq, eq_self, and_self, not_true_eq_false, not_false_eq_true, false_implies, true_implies, true_and, and_true, forall_eq, if_true, if_false, reduceIte]
    exact h97
  by_cases z : v_account (g.1 o) = 0
  · simp only [w_L_holds, b1, b2, b3, b4, if_pos z, hk, z10, z01, implies_true, ne_eq, eq_self, and_self, not_true_eq_false, not_false_eq_true, false_implies, true_implies, true_and, and_true, forall_eq, if_true, if_false, reduceIte]
    exact ⟨fun _ => h69, fun q => absurd z q⟩
  · have z2 : v_debt (g.1 o) = 0 := hJ1.2.1.2.resolve_left z
    simp only [w_L_holds, b1, b2, b3, b4, hk, z10, z01, implies_true, ne_eq, eq_self, and_self, not_true_eq_false, not_false_eq_true, false_implies, true_implies, true_and, and_true, forall_eq, if_true, if_false, reduceIte]
    exact ⟨fun _ => h69, fun _ => ⟨fun q => absurd z2 q, fun _ => h69⟩⟩
end LHOLD
