section ASK
variable {mc : Mm} {a s : Nat} {f : Nat → Int32}
def tEnt (f : Nat → Int32) (p : Int32) : Nat := if fiE f p < mo f then 0 else 1
def tAt (f : Nat → Int32) (p : Int32) : Nat := if 0 ≤ p ∧ p ≤ f 117 - 1 then 0 else 1
def tCh (p : Int32) : Nat := if 0 ≤ p ∧ p ≤ 4 then 0 else 1
def tRec (f : Nat → Int32) (p : Int32) : Nat := if 0 ≤ p ∧ p ≤ f 68 - 1 then 0 else 1
def tKd (p : Int32) : Nat := if 0 ≤ p ∧ p ≤ 5 then 0 else 2
def tEntW (f : Nat → Int32) (p w : Int32) : Nat := if fiE f p < mo f then (if 1 ≤ w ∧ w ≤ 999 then 0 else 2) else 1
def tPart (f : Nat → Int32) (p w : Int32) : Nat := if fiE f p < mo f then (if 1 ≤ w ∧ w ≤ en f (fiE f p) 2 then 0 else 2) else 1
def tChg (f : Nat → Int32) (p w : Int32) : Nat := if fiE f p < mo f then (if 0 ≤ w ∧ w ≤ en f (fiE f p) 2 then 0 else 2) else 1
def tLat (f : Nat → Int32) (p w : Int32) : Nat := if fiE f p < mo f then (if 0 ≤ w ∧ w ≤ 365 then 0 else 2) else 1
def tMv (f : Nat → Int32) (p c : Int32) : Nat := if fiE f p < mo f then (if 0 ≤ c ∧ c ≤ 4 then 0 else 1) else 1
def tRecW (f : Nat → Int32) (p w : Int32) : Nat := if 0 ≤ p ∧ p ≤ f 68 - 1 then (if 1 ≤ w ∧ w ≤ 999 then 0 else 2) else 1
def tFor (f : Nat → Int32) (p w : Int32) : Nat := if 0 ≤ p ∧ p ≤ f 68 - 1 then (if 1 ≤ w ∧ w ≤ rc f p.toNatClampNeg 1 then 0 else 2) else 1
def tFrom (p w : Int32) : Nat := if 0 ≤ p ∧ p ≤ 5 then (if 1 ≤ w ∧ w ≤ 9999 then 0 else 2) else 2
def tNew (k w v c : Int32) : Nat := if (0 ≤ k ∧ k ≤ 5) ∧ (1 ≤ w ∧ w ≤ 999) ∧ (1 ≤ v ∧ v ≤ 9999) ∧ (0 ≤ c ∧ c ≤ 4) then 0 else 2
theorem n_kindOf (hR : RS mc 1 f) (hI : Inv a s f) (p : Int32) (Q : Int32 → Prop) (X : Nat → Mm → Prop) (hq : tEnt f p = 0 → Q (en f (fiE f p) 1)) (hx : ¬ tEnt f p = 0 → X (tEnt f p) mc) : w_X9_kindOf p mc Q X := by
  simp only [w_X9_kindOf, w_X9_entryNumbered, c_findEntry hR hI i1]
  by_cases hF : fiE f p < mo f
  · have h6 : fiE f p < 16 := Nat.lt_of_lt_of_le hF hI.mo16
    have hE := hI.ent _ hF
    have hq := hq (by unfold tEnt; rw [if_pos hF])
    simp only [hF, hR.ne0 h6, hR.oke i1 h6, hR.e1 hF, implies_true, z10, z21, z31, isB0, isB1, and_self, ne_eq, eq_self, not_true_eq_false, not_false_eq_true, false_implies, true_implies, true_and, and_true, forall_eq, if_true, if_false, reduceIte]
    exact hq
  · simp only [hF, implies_true, z10, z21, z31, isB0, isB1, and_self, ne_eq, eq_self, not_true_eq_false, not_false_eq_true, false_implies, true_implies, true_and, and_true, forall_eq, if_true, if_false, reduceIte]
    exact xq hx (by unfold tEnt; rw [if_neg hF]) (by decide)
theorem n_weightOf (hR : RS mc 1 f) (hI : Inv a s f) (p : Int32) (Q : Int32 → Prop) (X : Nat → Mm → Prop) (hq : tEnt f p = 0 → Q (en f (fiE f p) 2)) (hx : ¬ tEnt f p = 0 → X (tEnt f p) mc) : w_X9_weightOf p mc Q X := by
  simp only [w_X9_weightOf, w_X9_entryNumbered, c_findEntry hR hI i1]
  by_cases hF : fiE f p < mo f
  · have h6 : fiE f p < 16 := Nat.lt_of_lt_of_le hF hI.mo16
    have hE := hI.ent _ hF
    have hq := hq (by unfold tEnt; rw [if_pos hF])
    simp only [hF, hR.ne0 h6, hR.oke i1 h6, hR.e2 hF, implies_true, z10, z21, z31, isB0, isB1, and_self, ne_eq, eq_self, not_true_eq_false, not_false_eq_true, false_implies, true_implies, true_and, and_true, forall_eq, if_true, if_false, reduceIte]
    exact hq
  · simp only [hF, implies_true, z10, z21, z31, isB0, isB1, and_self, ne_eq, eq_self, not_true_eq_false, not_false_eq_true, false_implies, true_implies, true_and, and_true, forall_eq, if_true, if_false, reduceIte]
    exact xq hx (by unfold tEnt; rw [if_neg hF]) (by decide)
theorem n_valueOf (hR : RS mc 1 f) (hI : Inv a s f) (p : Int32) (Q : Int32 → Prop) (X : Nat → Mm → Prop) (hq : tEnt f p = 0 → Q (en f (fiE f p) 3)) (hx : ¬ tEnt f p = 0 → X (tEnt f p) mc) : w_X9_valueOf p mc Q X := by
  simp only [w_X9_valueOf, w_X9_entryNumbered, c_findEntry hR hI i1]
  by_cases hF : fiE f p < mo f
  · have h6 : fiE f p < 16 := Nat.lt_of_lt_of_le hF hI.mo16
    have hE := hI.ent _ hF
    have hq := hq (by unfold tEnt; rw [if_pos hF])
    simp only [hF, hR.ne0 h6, hR.oke i1 h6, hR.e3 hF, implies_true, z10, z21, z31, isB0, isB1, and_self, ne_eq, eq_self, not_true_eq_false, not_false_eq_true, false_implies, true_implies, true_and, and_true, forall_eq, if_true, if_false, reduceIte]
    exact hq
  · simp only [hF, implies_true, z10, z21, z31, isB0, isB1, and_self, ne_eq, eq_self, not_true_eq_false, not_false_eq_true, false_implies, true_implies, true_and, and_true, forall_eq, if_true, if_false, reduceIte]
    exact xq hx (by unfold tEnt; rw [if_neg hF]) (by decide)
theorem n_chamberOf (hR : RS mc 1 f) (hI : Inv a s f) (p : Int32) (Q : Int32 → Prop) (X : Nat → Mm → Prop) (hq : tEnt f p = 0 → Q (en f (fiE f p) 4)) (hx : ¬ tEnt f p = 0 → X (tEnt f p) mc) : w_X9_chamberOf p mc Q X := by
  simp only [w_X9_chamberOf, w_X9_entryNumbered, c_findEntry hR hI i1]
  by_cases hF : fiE f p < mo f
  · have h6 : fiE f p < 16 := Nat.lt_of_lt_of_le hF hI.mo16
    have hE := hI.ent _ hF
    have hq := hq (by unfold tEnt; rw [if_pos hF])
    simp only [hF, hR.ne0 h6, hR.oke i1 h6, hR.e4 hF, implies_true, z10, z21, z31, isB0, isB1, and_self, ne_eq, eq_self, not_true_eq_false, not_false_eq_true, false_implies, true_implies, true_and, and_true, forall_eq, if_true, if_false, reduceIte]
    exact hq
  · simp only [hF, implies_true, z10, z21, z31, isB0, isB1, and_self, ne_eq, eq_self, not_true_eq_false, not_false_eq_true, false_implies, true_implies, true_and, and_true, forall_eq, if_true, if_false, reduceIte]
    exact xq hx (by unfold tEnt; rw [if_neg hF]) (by decide)
theorem n_ageOf (hR : RS mc 1 f) (hI : Inv a s f) (p : Int32) (Q : Int32 → Prop) (X : Nat → Mm → Prop) (hq : tEnt f p = 0 → Q (en f (fiE f p) 5)) (hx : ¬ tEnt f p = 0 → X (tEnt f p) mc) : w_X9_ageOf p mc Q X := by
  simp only [w_X9_ageOf, w_X9_entryNumbered, c_findEntry hR hI i1]
  by_cases hF : fiE f p < mo f
  · have h6 : fiE f p < 16 := Nat.lt_of_lt_of_le hF hI.mo16
    have hE := hI.ent _ hF
    have hq := hq (by unfold tEnt; rw [if_pos hF])
    simp only [hF, hR.ne0 h6, hR.oke i1 h6, c_ageNow hR hF, implies_true, z10, z21, z31, isB0, isB1, and_self, ne_eq, eq_self, not_true_eq_false, not_false_eq_true, false_implies, true_implies, true_and, and_true, forall_eq, if_true, if_false, reduceIte]
    exact hq
  · simp only [hF, implies_true, z10, z21, z31, isB0, isB1, and_self, ne_eq, eq_self, not_true_eq_false, not_false_eq_true, false_implies, true_implies, true_and, and_true, forall_eq, if_true, if_false, reduceIte]
    exact xq hx (by unfold tEnt; rw [if_neg hF]) (by decide)
theorem n_dutyOf (hR : RS mc 1 f) (hI : Inv a s f) (p : Int32) (Q : Int32 → Prop) (X : Nat → Mm → Prop) (hq : tEnt f p = 0 → Q (dutyAF f (fiE f p))) (hx : ¬ tEnt f p = 0 → X (tEnt f p) mc) : w_X9_dutyOf p mc Q X := by
  simp only [w_X9_dutyOf, w_X9_entryNumbered, c_findEntry hR hI i1]
  by_cases hF : fiE f p < mo f
  · have h6 : fiE f p < 16 := Nat.lt_of_lt_of_le hF hI.mo16
    have hE := hI.ent _ hF
    have hq := hq (by unfold tEnt; rw [if_pos hF])
    simp only [hF, hR.ne0 h6, hR.oke i1 h6, c_ageNow hR hF, c_wholeDuty hR hI hF, dutyAF, implies_true, z10, z21, z31, isB0, isB1, and_self, ne_eq, eq_self, not_true_eq_false, not_false_eq_true, false_implies, true_implies, true_and, and_true, forall_eq, if_true, if_false, reduceIte]
    exact hq
  · simp only [hF, implies_true, z10, z21, z31, isB0, isB1, and_self, ne_eq, eq_self, not_true_eq_false, not_false_eq_true, false_implies, true_implies, true_and, and_true, forall_eq, if_true, if_false, reduceIte]
    exact xq hx (by unfold tEnt; rw [if_neg hF]) (by decide)
theorem n_allowedWaste (hR : RS mc 1 f) (hI : Inv a s f) (p : Int32) (Q : Int32 → Prop) (X : Nat → Mm → Prop) (hq : tEnt f p = 0 → Q (allowF f (fiE f p))) (hx : ¬ tEnt f p = 0 → X (tEnt f p) mc) : w_X9_allowedWaste p mc Q X := by
  simp only [w_X9_allowedWaste, w_X9_entryNumbered, c_findEntry hR hI i1]
  by_cases hF : fiE f p < mo f
  · have h6 : fiE f p < 16 := Nat.lt_of_lt_of_le hF hI.mo16
    have hE := hI.ent _ hF
    have hq := hq (by unfold tEnt; rw [if_pos hF])
    simp only [hF, hR.ne0 h6, hR.oke i1 h6, c_allowed hR hI hF, implies_true, z10, z21, z31, isB0, isB1, and_self, ne_eq, eq_self, not_true_eq_false, not_false_eq_true, false_implies, true_implies, true_and, and_true, forall_eq, if_true, if_false, reduceIte]
    exact hq
  · simp only [hF, implies_true, z10, z21, z31, isB0, isB1, and_self, ne_eq, eq_self, not_true_eq_false, not_false_eq_true, false_implies, true_implies, true_and, and_true, forall_eq, if_true, if_false, reduceIte]
    exact xq hx (by unfold tEnt; rw [if_neg hF]) (by decide)
theorem n_isProved (hR : RS mc 1 f) (hI : Inv a s f) (p : Int32) (Q : Int32 → Prop) (X : Nat → Mm → Prop) (hq : tEnt f p = 0 → Q (en f (fiE f p) 7)) (hx : ¬ tEnt f p = 0 → X (tEnt f p) mc) : w_X9_isProved p mc Q X := by
  simp only [w_X9_isProved, w_X9_entryNumbered, c_findEntry hR hI i1]
  by_cases hF : fiE f p < mo f
  · have h6 : fiE f p < 16 := Nat.lt_of_lt_of_le hF hI.mo16
    have hE := hI.ent _ hF
    have hq := hq (by unfold tEnt; rw [if_pos hF])
    simp only [hF, hR.ne0 h6, hR.oke i1 h6, hR.e7 hF, implies_true, z10, z21, z31, isB0, isB1, and_self, ne_eq, eq_self, not_true_eq_false, not_false_eq_true, false_implies, true_implies, true_and, and_true, forall_eq, if_true, if_false, reduceIte]
    exact ⟨rng01 hE.2.2.2.2.2.2.2, hq⟩
  · simp only [hF, implies_true, z10, z21, z31, isB0, isB1, and_self, ne_eq, eq_self, not_true_eq_false, not_false_eq_true, false_implies, true_implies, true_and, and_true, forall_eq, if_true, if_false, reduceIte]
    exact xq hx (by unfold tEnt; rw [if_neg hF]) (by decide)
theorem n_isOverdue (hR : RS mc 1 f) (hI : Inv a s f) (p : Int32) (Q : Int32 → Prop) (X : Nat → Mm → Prop) (hq : tEnt f p = 0 → Q (if en f (fiE f p) 5 ≤ 200 then 0 else 1)) (hx : ¬ tEnt f p = 0 → X (tEnt f p) mc) : w_X9_isOverdue p mc Q X := by
  simp only [w_X9_isOverdue, w_X9_entryNumbered, c_findEntry hR hI i1]
  by_cases hF : fiE f p < mo f
  · have h6 : fiE f p < 16 := Nat.lt_of_lt_of_le hF hI.mo16
    have hE := hI.ent _ hF
    have hq := hq (by unfold tEnt; rw [if_pos hF])
    simp only [hF, hR.ne0 h6, hR.oke i1 h6, c_isLate hR hF, implies_true, z10, z21, z31, isB0, isB1, and_self, ne_eq, eq_self, not_true_eq_false, not_false_eq_true, false_implies, true_implies, true_and, and_true, forall_eq, if_true, if_false, reduceIte]
    rw [apply_ite Q] at hq
    exact hq
  · simp only [hF, implies_true, z10, z21, z31, isB0, isB1, and_self, ne_eq, eq_self, not_true_eq_false, not_false_eq_true, false_implies, true_implies, true_and, and_true, forall_eq, if_true, if_false, reduceIte]
    exact xq hx (by unfold tEnt; rw [if_neg hF]) (by decide)
theorem n_daysToOverdue (hR : RS mc 1 f) (hI : Inv a s f) (p : Int32) (Q : Int32 → Prop) (X : Nat → Mm → Prop) (hq : tEnt f p = 0 → Q (if en f (fiE f p) 5 ≤ 200 then 201 - en f (fiE f p) 5 else 0)) (hx : ¬ tEnt f p = 0 → X (tEnt f p) mc) : w_X9_daysToOverdue p mc Q X := by
  simp only [w_X9_daysToOverdue, w_X9_entryNumbered, c_findEntry hR hI i1]
  by_cases hF : fiE f p < mo f
  · have h6 : fiE f p < 16 := Nat.lt_of_lt_of_le hF hI.mo16
    have hE := hI.ent _ hF
    have hq := hq (by unfold tEnt; rw [if_pos hF])
    have ha : rng (en f (fiE f p) 5) 9999 := hE.2.2.2.2.2.1.mono hI.day.2
    simp only [hF, hR.ne0 h6, hR.oke i1 h6, c_ageNow hR hF, d201 ha, implies_true, z10, z21, z31, isB0, isB1, and_self, ne_eq, eq_self, not_true_eq_false, not_false_eq_true, false_implies, true_implies, true_and, and_true, forall_eq, if_true, if_false, reduceIte]
    exact hq
  · simp only [hF, implies_true, z10, z21, z31, isB0, isB1, and_self, ne_eq, eq_self, not_true_eq_false, not_false_eq_true, false_implies, true_implies, true_and, and_true, forall_eq, if_true, if_false, reduceIte]
    exact xq hx (by unfold tEnt; rw [if_neg hF]) (by decide)
theorem n_dutyOfPart (hR : RS mc 1 f) (hI : Inv a s f) (p w : Int32) (Q : Int32 → Prop) (X : Nat → Mm → Prop) (hq : tPart f p w = 0 → Q (dutyPF f (fiE f p) w)) (hx : ¬ tPart f p w = 0 → X (tPart f p w) mc) : w_X9_dutyOfPart p w mc Q X := by
  simp only [w_X9_dutyOfPart, w_X9_entryNumbered, c_findEntry hR hI i1]
  by_cases hF : fiE f p < mo f
  · have h6 : fiE f p < 16 := Nat.lt_of_lt_of_le hF hI.mo16
    have hE := hI.ent _ hF
    by_cases hb : 1 ≤ w ∧ w ≤ en f (fiE f p) 2
    · have hb' := hb
      simp only [hF, hR.ne0 h6, hR.oke i1 h6, reqW, hR.e2 hF, c_dutyNow hR hI hF, hb, implies_true, z10, z21, z31, isB0, isB1, and_self, ne_eq, eq_self, not_true_eq_false, not_false_eq_true, false_implies, true_implies, true_and, and_true, forall_eq, if_true, if_false, reduceIte]
      exact hq (by unfold tPart; rw [if_pos hF, if_pos hb'])
    · simp only [hF, hR.ne0 h6, hR.oke i1 h6, reqW, hR.e2 hF, hb, implies_true, z10, z21, z31, isB0, isB1, and_self, ne_eq, eq_self, not_true_eq_false, not_false_eq_true, false_implies, true_implies, true_and, and_true, forall_eq, if_true, if_false, reduceIte]
      exact xq hx (by unfold tPart; rw [if_pos hF, if_neg hb]) (by decide)
  · simp only [hF, implies_true, z10, z21, z31, isB0, isB1, and_self, ne_eq, eq_self, not_true_eq_false, not_false_eq_true, false_implies, true_implies, true_and, and_true, forall_eq, if_true, if_false, reduceIte]
    exact xq hx (by unfold tPart; rw [if_neg hF]) (by decide)
theorem n_whyNoWithdrawal (hR : RS mc 1 f) (hI : Inv a s f) (p w : Int32) (Q : Int32 → Prop) (X : Nat → Mm → Prop) (hq : tEntW f p w = 0 → Q (whyW f (fiE f p) w)) (hx : ¬ tEntW f p w = 0 → X (tEntW f p w) mc) : w_X9_whyNoWithdrawal p w mc Q X := by
  simp only [w_X9_whyNoWithdrawal, w_X9_entryNumbered, c_findEntry hR hI i1]
  by_cases hF : fiE f p < mo f
  · have h6 : fiE f p < 16 := Nat.lt_of_lt_of_le hF hI.mo16
    have hE := hI.ent _ hF
    by_cases hb : 1 ≤ w ∧ w ≤ 999
    · have hb' := hb
      simp only [hF, hR.ne0 h6, hR.oke i1 h6, reqW, c_whyW hR hI hF, hb, implies_true, z10, z21, z31, isB0, isB1, and_self, ne_eq, eq_self, not_true_eq_false, not_false_eq_true, false_implies, true_implies, true_and, and_true, forall_eq, if_true, if_false, reduceIte]
      exact hq (by unfold tEntW; rw [if_pos hF, if_pos hb'])
    · simp only [hF, hR.ne0 h6, hR.oke i1 h6, reqW, hb, implies_true, z10, z21, z31, isB0, isB1, and_self, ne_eq, eq_self, not_true_eq_false, not_false_eq_true, false_implies, true_implies, true_and, and_true, forall_eq, if_true, if_false, reduceIte]
      exact xq hx (by unfold tEntW; rw [if_pos hF, if_neg hb]) (by decide)
  · simp only [hF, implies_true, z10, z21, z31, isB0, isB1, and_self, ne_eq, eq_self, not_true_eq_false, not_false_eq_true, false_implies, true_implies, true_and, and_true, forall_eq, if_true, if_false, reduceIte]
    exact xq hx (by unfold tEntW; rw [if_neg hF]) (by decide)
theorem n_whyNoExport (hR : RS mc 1 f) (hI : Inv a s f) (p w : Int32) (Q : Int32 → Prop) (X : Nat → Mm → Prop) (hq : tEntW f p w = 0 → Q (whyX f (fiE f p) w)) (hx : ¬ tEntW f p w = 0 → X (tEntW f p w) mc) : w_X9_whyNoExport p w mc Q X := by
  simp only [w_X9_whyNoExport, w_X9_entryNumbered, c_findEntry hR hI i1]
  by_cases hF : fiE f p < mo f
  · have h6 : fiE f p < 16 := Nat.lt_of_lt_of_le hF hI.mo16
    have hE := hI.ent _ hF
    by_cases hb : 1 ≤ w ∧ w ≤ 999
    · have hb' := hb
      simp only [hF, hR.ne0 h6, hR.oke i1 h6, reqW, c_whyX hR hI hF, hb, implies_true, z10, z21, z31, isB0, isB1, and_self, ne_eq, eq_self, not_true_eq_false, not_false_eq_true, false_implies, true_implies, true_and, and_true, forall_eq, if_true, if_false, reduceIte]
      exact hq (by unfold tEntW; rw [if_pos hF, if_pos hb'])
    · simp only [hF, hR.ne0 h6, hR.oke i1 h6, reqW, hb, implies_true, z10, z21, z31, isB0, isB1, and_self, ne_eq, eq_self, not_true_eq_false, not_false_eq_true, false_implies, true_implies, true_and, and_true, forall_eq, if_true, if_false, reduceIte]
      exact xq hx (by unfold tEntW; rw [if_pos hF, if_neg hb]) (by decide)
  · simp only [hF, implies_true, z10, z21, z31, isB0, isB1, and_self, ne_eq, eq_self, not_true_eq_false, not_false_eq_true, false_implies, true_implies, true_and, and_true, forall_eq, if_true, if_false, reduceIte]
    exact xq hx (by unfold tEntW; rw [if_neg hF]) (by decide)
theorem n_chargeIfWeighed (hR : RS mc 1 f) (hI : Inv a s f) (p w : Int32) (Q : Int32 → Prop) (X : Nat → Mm → Prop) (hq : tChg f p w = 0 → Q (chargeF f (fiE f p) (lossF f (fiE f p) w))) (hx : ¬ tChg f p w = 0 → X (tChg f p w) mc) : w_X9_chargeIfWeighed p w mc Q X := by
  simp only [w_X9_chargeIfWeighed, w_X9_entryNumbered, c_findEntry hR hI i1]
  by_cases hF : fiE f p < mo f
  · have h6 : fiE f p < 16 := Nat.lt_of_lt_of_le hF hI.mo16
    have hE := hI.ent _ hF
    by_cases hb : 0 ≤ w ∧ w ≤ en f (fiE f p) 2
    · have hb' := hb
      simp only [hF, hR.ne0 h6, hR.oke i1 h6, reqW, hR.e2 hF, c_lossIf hR hI hF, c_chargeFor hR hI hF, hb, implies_true, z10, z21, z31, isB0, isB1, and_self, ne_eq, eq_self, not_true_eq_false, not_false_eq_true, false_implies, true_implies, true_and, and_true, forall_eq, if_true, if_false, reduceIte]
      exact hq (by unfold tChg; rw [if_pos hF, if_pos hb'])
    · simp only [hF, hR.ne0 h6, hR.oke i1 h6, reqW, hR.e2 hF, hb, implies_true, z10, z21, z31, isB0, isB1, and_self, ne_eq, eq_self, not_true_eq_false, not_false_eq_true, false_implies, true_implies, true_and, and_true, forall_eq, if_true, if_false, reduceIte]
      exact xq hx (by unfold tChg; rw [if_pos hF, if_neg hb]) (by decide)
  · simp only [hF, implies_true, z10, z21, z31, isB0, isB1, and_self, ne_eq, eq_self, not_true_eq_false, not_false_eq_true, false_implies, true_implies, true_and, and_true, forall_eq, if_true, if_false, reduceIte]
    exact xq hx (by unfold tChg; rw [if_neg hF]) (by decide)
theorem n_dutyLater (hR : RS mc 1 f) (hI : Inv a s f) (p w : Int32) (Q : Int32 → Prop) (X : Nat → Mm → Prop) (hq : tLat f p w = 0 → Q (dutyF f (knd f (fiE f p)) (en f (fiE f p) 3) (en f (fiE f p) 2) (en f (fiE f p) 5 + w))) (hx : ¬ tLat f p w = 0 → X (tLat f p w) mc) : w_X9_dutyLater p w mc Q X := by
  simp only [w_X9_dutyLater, w_X9_entryNumbered, c_findEntry hR hI i1]
  by_cases hF : fiE f p < mo f
  · have h6 : fiE f p < 16 := Nat.lt_of_lt_of_le hF hI.mo16
    have hE := hI.ent _ hF
    by_cases hb : 0 ≤ w ∧ w ≤ 365
    · have hb' := hb
      simp only [hF, hR.ne0 h6, hR.oke i1 h6, reqW, c_ageNow hR hF, c_wholeDuty hR hI hF, hb, implies_true, z10, z21, z31, isB0, isB1, and_self, ne_eq, eq_self, not_true_eq_false, not_false_eq_true, false_implies, true_implies, true_and, and_true, forall_eq, if_true, if_false, reduceIte]
      exact hq (by unfold tLat; rw [if_pos hF, if_pos hb'])
    · simp only [hF, hR.ne0 h6, hR.oke i1 h6, reqW, hb, implies_true, z10, z21, z31, isB0, isB1, and_self, ne_eq, eq_self, not_true_eq_false, not_false_eq_true, false_implies, true_implies, true_and, and_true, forall_eq, if_true, if_false, reduceIte]
      exact xq hx (by unfold tLat; rw [if_pos hF, if_neg hb]) (by decide)
  · simp only [hF, implies_true, z10, z21, z31, isB0, isB1, and_self, ne_eq, eq_self, not_true_eq_false, not_false_eq_true, false_implies, true_implies, true_and, and_true, forall_eq, if_true, if_false, reduceIte]
    exact xq hx (by unfold tLat; rw [if_neg hF]) (by decide)
theorem n_whyNoMove (hR : RS mc 1 f) (hI : Inv a s f) (p c : Int32) (Q : Int32 → Prop) (X : Nat → Mm → Prop) (hq : tMv f p c = 0 → Q (whyM f (fiE f p) c)) (hx : ¬ tMv f p c = 0 → X (tMv f p c) mc) : w_X9_whyNoMove p c mc Q X := by
  simp only [w_X9_whyNoMove, w_X9_entryNumbered, c_findEntry hR hI i1]
  by_cases hF : fiE f p < mo f
  · have h6 : fiE f p < 16 := Nat.lt_of_lt_of_le hF hI.mo16
    have hE := hI.ent _ hF
    by_cases hb : 0 ≤ c ∧ c ≤ 4
    · have hb' := hb
      obtain ⟨j, hj, rfl⟩ := (rng_lit 4 (by decide) hb).ex
      have hj5 : j < 5 := by omega
      simp only [hF, hR.ne0 h6, hR.oke i1 h6, reqC, c_whyM hR hI i1 hF hj5, hb, implies_true, z10, z21, z31, isB0, isB1, and_self, ne_eq, eq_self, not_true_eq_false, not_false_eq_true, false_implies, true_implies, true_and, and_true, forall_eq, if_true, if_false, reduceIte]
      exact hq (by unfold tMv; rw [if_pos hF, if_pos hb'])
    · simp only [hF, hR.ne0 h6, hR.oke i1 h6, reqC, hb, implies_true, z10, z21, z31, isB0, isB1, and_self, ne_eq, eq_self, not_true_eq_false, not_false_eq_true, false_implies, true_implies, true_and, and_true, forall_eq, if_true, if_false, reduceIte]
      exact xq hx (by unfold tMv; rw [if_pos hF, if_neg hb]) (by decide)
  · simp only [hF, implies_true, z10, z21, z31, isB0, isB1, and_self, ne_eq, eq_self, not_true_eq_false, not_false_eq_true, false_implies, true_implies, true_and, and_true, forall_eq, if_true, if_false, reduceIte]
    exact xq hx (by unfold tMv; rw [if_neg hF]) (by decide)
theorem n_receiptKind (hR : RS mc 1 f) (hI : Inv a s f) (p : Int32) (Q : Int32 → Prop) (X : Nat → Mm → Prop) (hq : tRec f p = 0 → Q (rc f p.toNatClampNeg 0)) (hx : ¬ tRec f p = 0 → X (tRec f p) mc) : w_X9_receiptKind p mc Q X := by
  simp only [w_X9_receiptKind, w_X9_receiptBack, c_findReceipt hR hI]
  by_cases hF : 0 ≤ p ∧ p ≤ f 68 - 1
  · have hF' := hF
    obtain ⟨r, hr, rfl⟩ := (rng_ix hI.recs (by decide)).mp hF
    have hr : r < mr f := hr
    have hr12 : r < 12 := Nat.lt_of_lt_of_le hr hI.mr12
    have ht : (nI r).toNatClampNeg = r := rs_tn (by omega)
    have hq := hq (by unfold tRec; rw [if_pos hF'])
    rw [ht] at hq
    simp only [hF, ht, hR.nr0 hr12, hR.okr i1 hr12, hR.r0 hr, implies_true, z10, z21, z31, isB0, isB1, and_self, ne_eq, eq_self, not_true_eq_false, not_false_eq_true, false_implies, true_implies, true_and, and_true, forall_eq, if_true, if_false, reduceIte]
    exact hq
  · simp only [hF, implies_true, z10, z21, z31, isB0, isB1, and_self, ne_eq, eq_self, not_true_eq_false, not_false_eq_true, false_implies, true_implies, true_and, and_true, forall_eq, if_true, if_false, reduceIte]
    exact xq hx (by unfold tRec; rw [if_neg hF]) (by decide)
theorem n_receiptWeight (hR : RS mc 1 f) (hI : Inv a s f) (p : Int32) (Q : Int32 → Prop) (X : Nat → Mm → Prop) (hq : tRec f p = 0 → Q (rc f p.toNatClampNeg 1)) (hx : ¬ tRec f p = 0 → X (tRec f p) mc) : w_X9_receiptWeight p mc Q X := by
  simp only [w_X9_receiptWeight, w_X9_receiptBack, c_findReceipt hR hI]
  by_cases hF : 0 ≤ p ∧ p ≤ f 68 - 1
  · have hF' := hF
    obtain ⟨r, hr, rfl⟩ := (rng_ix hI.recs (by decide)).mp hF
    have hr : r < mr f := hr
    have hr12 : r < 12 := Nat.lt_of_lt_of_le hr hI.mr12
    have ht : (nI r).toNatClampNeg = r := rs_tn (by omega)
    have hq := hq (by unfold tRec; rw [if_pos hF'])
    rw [ht] at hq
    simp only [hF, ht, hR.nr0 hr12, hR.okr i1 hr12, hR.r1 hr, implies_true, z10, z21, z31, isB0, isB1, and_self, ne_eq, eq_self, not_true_eq_false, not_false_eq_true, false_implies, true_implies, true_and, and_true, forall_eq, if_true, if_false, reduceIte]
    exact hq
  · simp only [hF, implies_true, z10, z21, z31, isB0, isB1, and_self, ne_eq, eq_self, not_true_eq_false, not_false_eq_true, false_implies, true_implies, true_and, and_true, forall_eq, if_true, if_false, reduceIte]
    exact xq hx (by unfold tRec; rw [if_neg hF]) (by decide)
theorem n_receiptDuty (hR : RS mc 1 f) (hI : Inv a s f) (p : Int32) (Q : Int32 → Prop) (X : Nat → Mm → Prop) (hq : tRec f p = 0 → Q (rc f p.toNatClampNeg 2)) (hx : ¬ tRec f p = 0 → X (tRec f p) mc) : w_X9_receiptDuty p mc Q X := by
  simp only [w_X9_receiptDuty, w_X9_receiptBack, c_findReceipt hR hI]
  by_cases hF : 0 ≤ p ∧ p ≤ f 68 - 1
  · have hF' := hF
    obtain ⟨r, hr, rfl⟩ := (rng_ix hI.recs (by decide)).mp hF
    have hr : r < mr f := hr
    have hr12 : r < 12 := Nat.lt_of_lt_of_le hr hI.mr12
    have ht : (nI r).toNatClampNeg = r := rs_tn (by omega)
    have hq := hq (by unfold tRec; rw [if_pos hF'])
    rw [ht] at hq
    simp only [hF, ht, hR.nr0 hr12, hR.okr i1 hr12, hR.r2 hr, implies_true, z10, z21, z31, isB0, isB1, and_self, ne_eq, eq_self, not_true_eq_false, not_false_eq_true, false_implies, true_implies, true_and, and_true, forall_eq, if_true, if_false, reduceIte]
    exact hq
  · simp only [hF, implies_true, z10, z21, z31, isB0, isB1, and_self, ne_eq, eq_self, not_true_eq_false, not_false_eq_true, false_implies, true_implies, true_and, and_true, forall_eq, if_true, if_false, reduceIte]
    exact xq hx (by unfold tRec; rw [if_neg hF]) (by decide)
theorem n_receiptAge (hR : RS mc 1 f) (hI : Inv a s f) (p : Int32) (Q : Int32 → Prop) (X : Nat → Mm → Prop) (hq : tRec f p = 0 → Q (f 0 - rc f p.toNatClampNeg 3)) (hx : ¬ tRec f p = 0 → X (tRec f p) mc) : w_X9_receiptAge p mc Q X := by
  simp only [w_X9_receiptAge, w_X9_receiptBack, c_findReceipt hR hI]
  by_cases hF : 0 ≤ p ∧ p ≤ f 68 - 1
  · have hF' := hF
    obtain ⟨r, hr, rfl⟩ := (rng_ix hI.recs (by decide)).mp hF
    have hr : r < mr f := hr
    have hr12 : r < 12 := Nat.lt_of_lt_of_le hr hI.mr12
    have ht : (nI r).toNatClampNeg = r := rs_tn (by omega)
    have hq := hq (by unfold tRec; rw [if_pos hF'])
    rw [ht] at hq
    simp only [hF, ht, hR.nr0 hr12, hR.okr i1 hr12, hR.r3 hr, hR.day, implies_true, z10, z21, z31, isB0, isB1, and_self, ne_eq, eq_self, not_true_eq_false, not_false_eq_true, false_implies, true_implies, true_and, and_true, forall_eq, if_true, if_false, reduceIte]
    exact hq
  · simp only [hF, implies_true, z10, z21, z31, isB0, isB1, and_self, ne_eq, eq_self, not_true_eq_false, not_false_eq_true, false_implies, true_implies, true_and, and_true, forall_eq, if_true, if_false, reduceIte]
    exact xq hx (by unfold tRec; rw [if_neg hF]) (by decide)
theorem n_whyNoDrawback (hR : RS mc 1 f) (hI : Inv a s f) (p w : Int32) (Q : Int32 → Prop) (X : Nat → Mm → Prop) (hq : tRecW f p w = 0 → Q (whyD f p.toNatClampNeg w)) (hx : ¬ tRecW f p w = 0 → X (tRecW f p w) mc) : w_X9_whyNoDrawback p w mc Q X := by
  simp only [w_X9_whyNoDrawback, w_X9_receiptBack, c_findReceipt hR hI]
  by_cases hF : 0 ≤ p ∧ p ≤ f 68 - 1
  · have hF' := hF
    obtain ⟨r, hr, rfl⟩ := (rng_ix hI.recs (by decide)).mp hF
    have hr : r < mr f := hr
    have hr12 : r < 12 := Nat.lt_of_lt_of_le hr hI.mr12
    have ht : (nI r).toNatClampNeg = r := rs_tn (by omega)
    by_cases hb : 1 ≤ w ∧ w ≤ 999
    · have hb' := hb
      have hq := hq (by unfold tRecW; rw [if_pos hF', if_pos hb'])
      rw [ht] at hq
      simp only [hF, ht, hR.nr0 hr12, hR.okr i1 hr12, reqW, c_whyD hR hr, hb, implies_true, z10, z21, z31, isB0, isB1, and_self, ne_eq, eq_self, not_true_eq_false, not_false_eq_true, false_implies, true_implies, true_and, and_true, forall_eq, if_true, if_false, reduceIte]
      exact hq
    · simp only [hF, ht, hR.nr0 hr12, hR.okr i1 hr12, reqW, hb, implies_true, z10, z21, z31, isB0, isB1, and_self, ne_eq, eq_self, not_true_eq_false, not_false_eq_true, false_implies, true_implies, true_and, and_true, forall_eq, if_true, if_false, reduceIte]
      exact xq hx (by unfold tRecW; rw [if_pos hF', if_neg hb]) (by decide)
  · simp only [hF, implies_true, z10, z21, z31, isB0, isB1, and_self, ne_eq, eq_self, not_true_eq_false, not_false_eq_true, false_implies, true_implies, true_and, and_true, forall_eq, if_true, if_false, reduceIte]
    exact xq hx (by unfold tRecW; rw [if_neg hF]) (by decide)
theorem n_drawbackFor (hR : RS mc 1 f) (hI : Inv a s f) (p w : Int32) (Q : Int32 → Prop) (X : Nat → Mm → Prop) (hq : tFor f p w = 0 → Q (backF f p.toNatClampNeg w)) (hx : ¬ tFor f p w = 0 → X (tFor f p w) mc) : w_X9_drawbackFor p w mc Q X := by
  simp only [w_X9_drawbackFor, w_X9_receiptBack, c_findReceipt hR hI]
  by_cases hF : 0 ≤ p ∧ p ≤ f 68 - 1
  · have hF' := hF
    obtain ⟨r, hr, rfl⟩ := (rng_ix hI.recs (by decide)).mp hF
    have hr : r < mr f := hr
    have hr12 : r < 12 := Nat.lt_of_lt_of_le hr hI.mr12
    have ht : (nI r).toNatClampNeg = r := rs_tn (by omega)
    by_cases hb : 1 ≤ w ∧ w ≤ rc f r 1
    · have hb' := hb
      have hp : 0 < rc f r 1 := by
        have h1 := hb.1
        have h2 := hb.2
        rw [Int32.le_iff_toInt_le] at h1 h2
        rw [Int32.lt_iff_toInt_lt]
        simp at h1 ⊢
        omega
      have hq := hq (by unfold tFor; rw [if_pos hF', ht, if_pos hb'])
      rw [ht] at hq
      simp only [hF, ht, hR.nr0 hr12, hR.okr i1 hr12, reqW, hR.r1 hr, c_dutyPart hR hr hp, w_X9_paidBackOf, backF, hb, implies_true, z10, z21, z31, isB0, isB1, and_self, ne_eq, eq_self, not_true_eq_false, not_false_eq_true, false_implies, true_implies, true_and, and_true, forall_eq, if_true, if_false, reduceIte]
      exact hq
    · simp only [hF, ht, hR.nr0 hr12, hR.okr i1 hr12, reqW, hR.r1 hr, hb, implies_true, z10, z21, z31, isB0, isB1, and_self, ne_eq, eq_self, not_true_eq_false, not_false_eq_true, false_implies, true_implies, true_and, and_true, forall_eq, if_true, if_false, reduceIte]
      exact xq hx (by unfold tFor; rw [if_pos hF', ht, if_neg hb]) (by decide)
  · simp only [hF, implies_true, z10, z21, z31, isB0, isB1, and_self, ne_eq, eq_self, not_true_eq_false, not_false_eq_true, false_implies, true_implies, true_and, and_true, forall_eq, if_true, if_false, reduceIte]
    exact xq hx (by unfold tFor; rw [if_neg hF]) (by decide)
theorem n_entryAt (hR : RS mc 1 f) (hI : Inv a s f) (p : Int32) (Q : Int32 → Prop) (X : Nat → Mm → Prop) (hq : tAt f p = 0 → Q (en f p.toNatClampNeg 0)) (hx : ¬ tAt f p = 0 → X (tAt f p) mc) : w_X9_entryAt p mc Q X := by
  simp only [w_X9_entryAt, isWithin_iff, hR.opn]
  by_cases hF : 0 ≤ p ∧ p ≤ f 117 - 1
  · have hF' := hF
    obtain ⟨r, hr, rfl⟩ := (rng_ix hI.opn (by decide)).mp hF
    have hr : r < mo f := hr
    have h6 : r < 16 := Nat.lt_of_lt_of_le hr hI.mo16
    have ht : (nI r).toNatClampNeg = r := rs_tn (by omega)
    have hv : vp_in (nI r) 16 := vp_in_nI h6 (by decide)
    have hq := hq (by unfold tAt; rw [if_pos hF'])
    rw [ht] at hq
    simp only [hF, ht, hv, hR.oke i1 h6, hR.e0 hr, implies_true, z10, z21, z31, isB0, isB1, and_self, ne_eq, eq_self, not_true_eq_false, not_false_eq_true, false_implies, true_implies, true_and, and_true, forall_eq, if_true, if_false, reduceIte]
    exact hq
  · simp only [hF, implies_true, z10, z21, z31, isB0, isB1, and_self, ne_eq, eq_self, not_true_eq_false, not_false_eq_true, false_implies, true_implies, true_and, and_true, forall_eq, if_true, if_false, reduceIte]
    exact xq hx (by unfold tAt; rw [if_neg hF]) (by decide)
theorem n_rateByValue (hR : RS mc 1 f) (hI : Inv a s f) (p : Int32) (Q : Int32 → Prop) (X : Nat → Mm → Prop) (hq : tKd p = 0 → Q (f (20 + p.toNatClampNeg))) (hx : ¬ tKd p = 0 → X (tKd p) mc) : w_X9_rateByValue p mc Q X := by
  simp only [w_X9_rateByValue, w_X9_accountOfKind, reqW]
  by_cases hF : 0 ≤ p ∧ p ≤ 5
  · have hF' := hF
    obtain ⟨k, hk, rfl⟩ := (rng_lit 5 (by decide) hF).ex
    have hk6 : k < 6 := by omega
    have ht : (nI k).toNatClampNeg = k := rs_tn (by omega)
    have hv : vp_in (nI k) 6 := vp_in_nI hk6 (by decide)
    have ho : ok 6 (6 * (1 - 1) + k + 1) := by
      show 1 ≤ _ ∧ _ ≤ 54
      omega
    have hq := hq (by unfold tKd; rw [if_pos hF'])
    try rw [ht] at hq
    simp only [hF, ht, hv, ho, hR.k0 hk6, implies_true, z10, z21, z31, isB0, isB1, and_self, ne_eq, eq_self, not_true_eq_false, not_false_eq_true, false_implies, true_implies, true_and, and_true, forall_eq, if_true, if_false, reduceIte]
    exact hq
  · simp only [hF, implies_true, z10, z21, z31, isB0, isB1, and_self, ne_eq, eq_self, not_true_eq_false, not_false_eq_true, false_implies, true_implies, true_and, and_true, forall_eq, if_true, if_false, reduceIte]
    exact xq hx (by unfold tKd; rw [if_neg hF]) (by decide)
theorem n_rateByWeight (hR : RS mc 1 f) (hI : Inv a s f) (p : Int32) (Q : Int32 → Prop) (X : Nat → Mm → Prop) (hq : tKd p = 0 → Q (f (26 + p.toNatClampNeg))) (hx : ¬ tKd p = 0 → X (tKd p) mc) : w_X9_rateByWeight p mc Q X := by
  simp only [w_X9_rateByWeight, w_X9_accountOfKind, reqW]
  by_cases hF : 0 ≤ p ∧ p ≤ 5
  · have hF' := hF
    obtain ⟨k, hk, rfl⟩ := (rng_lit 5 (by decide) hF).ex
    have hk6 : k < 6 := by omega
    have ht : (nI k).toNatClampNeg = k := rs_tn (by omega)
    have hv : vp_in (nI k) 6 := vp_in_nI hk6 (by decide)
    have ho : ok 6 (6 * (1 - 1) + k + 1) := by
      show 1 ≤ _ ∧ _ ≤ 54
      omega
    have hq := hq (by unfold tKd; rw [if_pos hF'])
    try rw [ht] at hq
    simp only [hF, ht, hv, ho, hR.k1 hk6, implies_true, z10, z21, z31, isB0, isB1, and_self, ne_eq, eq_self, not_true_eq_false, not_false_eq_true, false_implies, true_implies, true_and, and_true, forall_eq, if_true, if_false, reduceIte]
    exact hq
  · simp only [hF, implies_true, z10, z21, z31, isB0, isB1, and_self, ne_eq, eq_self, not_true_eq_false, not_false_eq_true, false_implies, true_implies, true_and, and_true, forall_eq, if_true, if_false, reduceIte]
    exact xq hx (by unfold tKd; rw [if_neg hF]) (by decide)
theorem n_entered (hR : RS mc 1 f) (hI : Inv a s f) (p : Int32) (Q : Int32 → Prop) (X : Nat → Mm → Prop) (hq : tKd p = 0 → Q (f (30 + 6 * p.toNatClampNeg + 2))) (hx : ¬ tKd p = 0 → X (tKd p) mc) : w_X9_entered p mc Q X := by
  simp only [w_X9_entered, w_X9_accountOfKind, reqW]
  by_cases hF : 0 ≤ p ∧ p ≤ 5
  · have hF' := hF
    obtain ⟨k, hk, rfl⟩ := (rng_lit 5 (by decide) hF).ex
    have hk6 : k < 6 := by omega
    have ht : (nI k).toNatClampNeg = k := rs_tn (by omega)
    have hv : vp_in (nI k) 6 := vp_in_nI hk6 (by decide)
    have ho : ok 6 (6 * (1 - 1) + k + 1) := by
      show 1 ≤ _ ∧ _ ≤ 54
      omega
    have hq := hq (by unfold tKd; rw [if_pos hF'])
    try rw [ht] at hq
    simp only [hF, ht, hv, ho, hR.k2 hk6, implies_true, z10, z21, z31, isB0, isB1, and_self, ne_eq, eq_self, not_true_eq_false, not_false_eq_true, false_implies, true_implies, true_and, and_true, forall_eq, if_true, if_false, reduceIte]
    exact hq
  · simp only [hF, implies_true, z10, z21, z31, isB0, isB1, and_self, ne_eq, eq_self, not_true_eq_false, not_false_eq_true, false_implies, true_implies, true_and, and_true, forall_eq, if_true, if_false, reduceIte]
    exact xq hx (by unfold tKd; rw [if_neg hF]) (by decide)
theorem n_withdrawn (hR : RS mc 1 f) (hI : Inv a s f) (p : Int32) (Q : Int32 → Prop) (X : Nat → Mm → Prop) (hq : tKd p = 0 → Q (f (30 + 6 * p.toNatClampNeg + 3))) (hx : ¬ tKd p = 0 → X (tKd p) mc) : w_X9_withdrawn p mc Q X := by
  simp only [w_X9_withdrawn, w_X9_accountOfKind, reqW]
  by_cases hF : 0 ≤ p ∧ p ≤ 5
  · have hF' := hF
    obtain ⟨k, hk, rfl⟩ := (rng_lit 5 (by decide) hF).ex
    have hk6 : k < 6 := by omega
    have ht : (nI k).toNatClampNeg = k := rs_tn (by omega)
    have hv : vp_in (nI k) 6 := vp_in_nI hk6 (by decide)
    have ho : ok 6 (6 * (1 - 1) + k + 1) := by
      show 1 ≤ _ ∧ _ ≤ 54
      omega
    have hq := hq (by unfold tKd; rw [if_pos hF'])
    try rw [ht] at hq
    simp only [hF, ht, hv, ho, hR.k3 hk6, implies_true, z10, z21, z31, isB0, isB1, and_self, ne_eq, eq_self, not_true_eq_false, not_false_eq_true, false_implies, true_implies, true_and, and_true, forall_eq, if_true, if_false, reduceIte]
    exact hq
  · simp only [hF, implies_true, z10, z21, z31, isB0, isB1, and_self, ne_eq, eq_self, not_true_eq_false, not_false_eq_true, false_implies, true_implies, true_and, and_true, forall_eq, if_true, if_false, reduceIte]
    exact xq hx (by unfold tKd; rw [if_neg hF]) (by decide)
theorem n_sentAbroad (hR : RS mc 1 f) (hI : Inv a s f) (p : Int32) (Q : Int32 → Prop) (X : Nat → Mm → Prop) (hq : tKd p = 0 → Q (f (30 + 6 * p.toNatClampNeg + 4))) (hx : ¬ tKd p = 0 → X (tKd p) mc) : w_X9_sentAbroad p mc Q X := by
  simp only [w_X9_sentAbroad, w_X9_accountOfKind, reqW]
  by_cases hF : 0 ≤ p ∧ p ≤ 5
  · have hF' := hF
    obtain ⟨k, hk, rfl⟩ := (rng_lit 5 (by decide) hF).ex
    have hk6 : k < 6 := by omega
    have ht : (nI k).toNatClampNeg = k := rs_tn (by omega)
    have hv : vp_in (nI k) 6 := vp_in_nI hk6 (by decide)
    have ho : ok 6 (6 * (1 - 1) + k + 1) := by
      show 1 ≤ _ ∧ _ ≤ 54
      omega
    have hq := hq (by unfold tKd; rw [if_pos hF'])
    try rw [ht] at hq
    simp only [hF, ht, hv, ho, hR.k4 hk6, implies_true, z10, z21, z31, isB0, isB1, and_self, ne_eq, eq_self, not_true_eq_false, not_false_eq_true, false_implies, true_implies, true_and, and_true, forall_eq, if_true, if_false, reduceIte]
    exact hq
  · simp only [hF, implies_true, z10, z21, z31, isB0, isB1, and_self, ne_eq, eq_self, not_true_eq_false, not_false_eq_true, false_implies, true_implies, true_and, and_true, forall_eq, if_true, if_false, reduceIte]
    exact xq hx (by unfold tKd; rw [if_neg hF]) (by decide)
theorem n_wasted (hR : RS mc 1 f) (hI : Inv a s f) (p : Int32) (Q : Int32 → Prop) (X : Nat → Mm → Prop) (hq : tKd p = 0 → Q (f (30 + 6 * p.toNatClampNeg + 5))) (hx : ¬ tKd p = 0 → X (tKd p) mc) : w_X9_wasted p mc Q X := by
  simp only [w_X9_wasted, w_X9_accountOfKind, reqW]
  by_cases hF : 0 ≤ p ∧ p ≤ 5
  · have hF' := hF
    obtain ⟨k, hk, rfl⟩ := (rng_lit 5 (by decide) hF).ex
    have hk6 : k < 6 := by omega
    have ht : (nI k).toNatClampNeg = k := rs_tn (by omega)
    have hv : vp_in (nI k) 6 := vp_in_nI hk6 (by decide)
    have ho : ok 6 (6 * (1 - 1) + k + 1) := by
      show 1 ≤ _ ∧ _ ≤ 54
      omega
    have hq := hq (by unfold tKd; rw [if_pos hF'])
    try rw [ht] at hq
    simp only [hF, ht, hv, ho, hR.k5 hk6, implies_true, z10, z21, z31, isB0, isB1, and_self, ne_eq, eq_self, not_true_eq_false, not_false_eq_true, false_implies, true_implies, true_and, and_true, forall_eq, if_true, if_false, reduceIte]
    exact hq
  · simp only [hF, implies_true, z10, z21, z31, isB0, isB1, and_self, ne_eq, eq_self, not_true_eq_false, not_false_eq_true, false_implies, true_implies, true_and, and_true, forall_eq, if_true, if_false, reduceIte]
    exact xq hx (by unfold tKd; rw [if_neg hF]) (by decide)
theorem n_lost (hR : RS mc 1 f) (hI : Inv a s f) (p : Int32) (Q : Int32 → Prop) (X : Nat → Mm → Prop) (hq : tKd p = 0 → Q (f (30 + 6 * p.toNatClampNeg + 6))) (hx : ¬ tKd p = 0 → X (tKd p) mc) : w_X9_lost p mc Q X := by
  simp only [w_X9_lost, w_X9_accountOfKind, reqW]
  by_cases hF : 0 ≤ p ∧ p ≤ 5
  · have hF' := hF
    obtain ⟨k, hk, rfl⟩ := (rng_lit 5 (by decide) hF).ex
    have hk6 : k < 6 := by omega
    have ht : (nI k).toNatClampNeg = k := rs_tn (by omega)
    have hv : vp_in (nI k) 6 := vp_in_nI hk6 (by decide)
    have ho : ok 6 (6 * (1 - 1) + k + 1) := by
      show 1 ≤ _ ∧ _ ≤ 54
      omega
    have hq := hq (by unfold tKd; rw [if_pos hF'])
    try rw [ht] at hq
    simp only [hF, ht, hv, ho, hR.k6 hk6, implies_true, z10, z21, z31, isB0, isB1, and_self, ne_eq, eq_self, not_true_eq_false, not_false_eq_true, false_implies, true_implies, true_and, and_true, forall_eq, if_true, if_false, reduceIte]
    exact hq
  · simp only [hF, implies_true, z10, z21, z31, isB0, isB1, and_self, ne_eq, eq_self, not_true_eq_false, not_false_eq_true, false_implies, true_implies, true_and, and_true, forall_eq, if_true, if_false, reduceIte]
    exact xq hx (by unfold tKd; rw [if_neg hF]) (by decide)
theorem n_drawnBack (hR : RS mc 1 f) (hI : Inv a s f) (p : Int32) (Q : Int32 → Prop) (X : Nat → Mm → Prop) (hq : tKd p = 0 → Q (f (30 + 6 * p.toNatClampNeg + 7))) (hx : ¬ tKd p = 0 → X (tKd p) mc) : w_X9_drawnBack p mc Q X := by
  simp only [w_X9_drawnBack, w_X9_accountOfKind, reqW]
  by_cases hF : 0 ≤ p ∧ p ≤ 5
  · have hF' := hF
    obtain ⟨k, hk, rfl⟩ := (rng_lit 5 (by decide) hF).ex
    have hk6 : k < 6 := by omega
    have ht : (nI k).toNatClampNeg = k := rs_tn (by omega)
    have hv : vp_in (nI k) 6 := vp_in_nI hk6 (by decide)
    have ho : ok 6 (6 * (1 - 1) + k + 1) := by
      show 1 ≤ _ ∧ _ ≤ 54
      omega
    have hq := hq (by unfold tKd; rw [if_pos hF'])
    try rw [ht] at hq
    simp only [hF, ht, hv, ho, hR.k7 hk6, implies_true, z10, z21, z31, isB0, isB1, and_self, ne_eq, eq_self, not_true_eq_false, not_false_eq_true, false_implies, true_implies, true_and, and_true, forall_eq, if_true, if_false, reduceIte]
    exact hq
  · simp only [hF, implies_true, z10, z21, z31, isB0, isB1, and_self, ne_eq, eq_self, not_true_eq_false, not_false_eq_true, false_implies, true_implies, true_and, and_true, forall_eq, if_true, if_false, reduceIte]
    exact xq hx (by unfold tKd; rw [if_neg hF]) (by decide)
theorem n_stockByTotals (hR : RS mc 1 f) (hI : Inv a s f) (p : Int32) (Q : Int32 → Prop) (X : Nat → Mm → Prop) (hq : tKd p = 0 → Q (f (30 + 6 * p.toNatClampNeg + 2) - f (30 + 6 * p.toNatClampNeg + 3) - f (30 + 6 * p.toNatClampNeg + 4) - f (30 + 6 * p.toNatClampNeg + 5) - f (30 + 6 * p.toNatClampNeg + 6))) (hx : ¬ tKd p = 0 → X (tKd p) mc) : w_X9_stockByTotals p mc Q X := by
  simp only [w_X9_stockByTotals, w_X9_accountOfKind, reqW]
  by_cases hF : 0 ≤ p ∧ p ≤ 5
  · have hF' := hF
    obtain ⟨k, hk, rfl⟩ := (rng_lit 5 (by decide) hF).ex
    have hk6 : k < 6 := by omega
    have ht : (nI k).toNatClampNeg = k := rs_tn (by omega)
    have hv : vp_in (nI k) 6 := vp_in_nI hk6 (by decide)
    have ho : ok 6 (6 * (1 - 1) + k + 1) := by
      show 1 ≤ _ ∧ _ ≤ 54
      omega
    have hq := hq (by unfold tKd; rw [if_pos hF'])
    try rw [ht] at hq
    simp only [hF, ht, hv, ho, hR.k2 hk6, hR.k3 hk6, hR.k4 hk6, hR.k5 hk6, hR.k6 hk6, implies_true, z10, z21, z31, isB0, isB1, and_self, ne_eq, eq_self, not_true_eq_false, not_false_eq_true, false_implies, true_implies, true_and, and_true, forall_eq, if_true, if_false, reduceIte]
    exact hq
  · simp only [hF, implies_true, z10, z21, z31, isB0, isB1, and_self, ne_eq, eq_self, not_true_eq_false, not_false_eq_true, false_implies, true_implies, true_and, and_true, forall_eq, if_true, if_false, reduceIte]
    exact xq hx (by unfold tKd; rw [if_neg hF]) (by decide)
theorem n_stockByEntries (hR : RS mc 1 f) (hI : Inv a s f) (p : Int32) (Q : Int32 → Prop) (X : Nat → Mm → Prop) (hq : tKd p = 0 → Q (stockF f p)) (hx : ¬ tKd p = 0 → X (tKd p) mc) : w_X9_stockByEntries p mc Q X := by
  simp only [w_X9_stockByEntries, reqW]
  by_cases hF : 0 ≤ p ∧ p ≤ 5
  · have hF' := hF
    obtain ⟨k, hk, rfl⟩ := (rng_lit 5 (by decide) hF).ex
    have hk6 : k < 6 := by omega
    have ht : (nI k).toNatClampNeg = k := rs_tn (by omega)
    have hv : vp_in (nI k) 6 := vp_in_nI hk6 (by decide)
    have ho : ok 6 (6 * (1 - 1) + k + 1) := by
      show 1 ≤ _ ∧ _ ≤ 54
      omega
    have hq := hq (by unfold tKd; rw [if_pos hF'])
    try rw [ht] at hq
    simp only [hF, ht, hv, ho, c_stockOf hR hI i1, implies_true, z10, z21, z31, isB0, isB1, and_self, ne_eq, eq_self, not_true_eq_false, not_false_eq_true, false_implies, true_implies, true_and, and_true, forall_eq, if_true, if_false, reduceIte]
    exact hq
  · simp only [hF, implies_true, z10, z21, z31, isB0, isB1, and_self, ne_eq, eq_self, not_true_eq_false, not_false_eq_true, false_implies, true_implies, true_and, and_true, forall_eq, if_true, if_false, reduceIte]
    exact xq hx (by unfold tKd; rw [if_neg hF]) (by decide)
theorem n_isLocked (hR : RS mc 1 f) (hI : Inv a s f) (p : Int32) (Q : Int32 → Prop) (X : Nat → Mm → Prop) (hq : tCh p = 0 → Q (if f (10 + p.toNatClampNeg) ≤ 0 then 0 else 1)) (hx : ¬ tCh p = 0 → X (tCh p) mc) : w_X9_isLocked p mc Q X := by
  simp only [w_X9_isLocked, w_X9_chamberNumbered, reqC]
  by_cases hF : 0 ≤ p ∧ p ≤ 4
  · have hF' := hF
    obtain ⟨k, hk, rfl⟩ := (rng_lit 4 (by decide) hF).ex
    have hk5 : k < 5 := by omega
    have ht : (nI k).toNatClampNeg = k := rs_tn (by omega)
    have hv : vp_in (nI k) 5 := vp_in_nI hk5 (by decide)
    have ho : ok 5 (5 * (1 - 1) + k + 1) := by
      show 1 ≤ _ ∧ _ ≤ 45
      omega
    have hq := hq (by unfold tCh; rw [if_pos hF'])
    try rw [ht] at hq
    simp only [hF, ht, hv, ho, c_isSealed hR hk5, implies_true, z10, z21, z31, isB0, isB1, and_self, ne_eq, eq_self, not_true_eq_false, not_false_eq_true, false_implies, true_implies, true_and, and_true, forall_eq, if_true, if_false, reduceIte]
    rw [apply_ite Q] at hq
    exact hq
  · simp only [hF, implies_true, z10, z21, z31, isB0, isB1, and_self, ne_eq, eq_self, not_true_eq_false, not_false_eq_true, false_implies, true_implies, true_and, and_true, forall_eq, if_true, if_false, reduceIte]
    exact xq hx (by unfold tCh; rw [if_neg hF]) (by decide)
theorem n_sealOf (hR : RS mc 1 f) (hI : Inv a s f) (p : Int32) (Q : Int32 → Prop) (X : Nat → Mm → Prop) (hq : tCh p = 0 → Q (slc (f (10 + p.toNatClampNeg)))) (hx : ¬ tCh p = 0 → X (tCh p) mc) : w_X9_sealOf p mc Q X := by
  simp only [w_X9_sealOf, w_X9_chamberNumbered, reqC]
  by_cases hF : 0 ≤ p ∧ p ≤ 4
  · have hF' := hF
    obtain ⟨k, hk, rfl⟩ := (rng_lit 4 (by decide) hF).ex
    have hk5 : k < 5 := by omega
    have ht : (nI k).toNatClampNeg = k := rs_tn (by omega)
    have hv : vp_in (nI k) 5 := vp_in_nI hk5 (by decide)
    have ho : ok 5 (5 * (1 - 1) + k + 1) := by
      show 1 ≤ _ ∧ _ ≤ 45
      omega
    have hq := hq (by unfold tCh; rw [if_pos hF'])
    try rw [ht] at hq
    simp only [hF, ht, hv, ho, hR.seal hk5, implies_true, z10, z21, z31, isB0, isB1, and_self, ne_eq, eq_self, not_true_eq_false, not_false_eq_true, false_implies, true_implies, true_and, and_true, forall_eq, if_true, if_false, reduceIte]
    exact hq
  · simp only [hF, implies_true, z10, z21, z31, isB0, isB1, and_self, ne_eq, eq_self, not_true_eq_false, not_false_eq_true, false_implies, true_implies, true_and, and_true, forall_eq, if_true, if_false, reduceIte]
    exact xq hx (by unfold tCh; rw [if_neg hF]) (by decide)
theorem n_isSealBroken (hR : RS mc 1 f) (hI : Inv a s f) (p : Int32) (Q : Int32 → Prop) (X : Nat → Mm → Prop) (hq : tCh p = 0 → Q (f (15 + p.toNatClampNeg))) (hx : ¬ tCh p = 0 → X (tCh p) mc) : w_X9_isSealBroken p mc Q X := by
  simp only [w_X9_isSealBroken, w_X9_chamberNumbered, reqC]
  by_cases hF : 0 ≤ p ∧ p ≤ 4
  · have hF' := hF
    obtain ⟨k, hk, rfl⟩ := (rng_lit 4 (by decide) hF).ex
    have hk5 : k < 5 := by omega
    have ht : (nI k).toNatClampNeg = k := rs_tn (by omega)
    have hv : vp_in (nI k) 5 := vp_in_nI hk5 (by decide)
    have ho : ok 5 (5 * (1 - 1) + k + 1) := by
      show 1 ≤ _ ∧ _ ≤ 45
      omega
    have hq := hq (by unfold tCh; rw [if_pos hF'])
    try rw [ht] at hq
    simp only [hF, ht, hv, ho, hR.brok hk5, implies_true, z10, z21, z31, isB0, isB1, and_self, ne_eq, eq_self, not_true_eq_false, not_false_eq_true, false_implies, true_implies, true_and, and_true, forall_eq, if_true, if_false, reduceIte]
    exact ⟨rng01 (hI.cham k hk5).2.1, hq⟩
  · simp only [hF, implies_true, z10, z21, z31, isB0, isB1, and_self, ne_eq, eq_self, not_true_eq_false, not_false_eq_true, false_implies, true_implies, true_and, and_true, forall_eq, if_true, if_false, reduceIte]
    exact xq hx (by unfold tCh; rw [if_neg hF]) (by decide)
theorem n_roomIn (hR : RS mc 1 f) (hI : Inv a s f) (p : Int32) (Q : Int32 → Prop) (X : Nat → Mm → Prop) (hq : tCh p = 0 → Q (roomF f p)) (hx : ¬ tCh p = 0 → X (tCh p) mc) : w_X9_roomIn p mc Q X := by
  simp only [w_X9_roomIn, reqC]
  by_cases hF : 0 ≤ p ∧ p ≤ 4
  · have hF' := hF
    obtain ⟨k, hk, rfl⟩ := (rng_lit 4 (by decide) hF).ex
    have hk5 : k < 5 := by omega
    have ht : (nI k).toNatClampNeg = k := rs_tn (by omega)
    have hv : vp_in (nI k) 5 := vp_in_nI hk5 (by decide)
    have ho : ok 5 (5 * (1 - 1) + k + 1) := by
      show 1 ≤ _ ∧ _ ≤ 45
      omega
    have hq := hq (by unfold tCh; rw [if_pos hF'])
    try rw [ht] at hq
    simp only [hF, ht, hv, ho, c_roomLeft hR hI i1, implies_true, z10, z21, z31, isB0, isB1, and_self, ne_eq, eq_self, not_true_eq_false, not_false_eq_true, false_implies, true_implies, true_and, and_true, forall_eq, if_true, if_false, reduceIte]
    exact hq
  · simp only [hF, implies_true, z10, z21, z31, isB0, isB1, and_self, ne_eq, eq_self, not_true_eq_false, not_false_eq_true, false_implies, true_implies, true_and, and_true, forall_eq, if_true, if_false, reduceIte]
    exact xq hx (by unfold tCh; rw [if_neg hF]) (by decide)
theorem n_whyNoEntry (hR : RS mc 1 f) (hI : Inv a s f) (k w v c : Int32) (Q : Int32 → Prop) (X : Nat → Mm → Prop) (hq : tNew k w v c = 0 → Q (whyE f k.toNatClampNeg w v c)) (hx : ¬ tNew k w v c = 0 → X (tNew k w v c) mc) : w_X9_whyNoEntry k w v c mc Q X := by
  simp only [w_X9_whyNoEntry, c_goods]
  by_cases hg : gds k w v c
  · obtain ⟨g1, g2, g3, g4⟩ := id hg
    have hg' : (0 ≤ k ∧ k ≤ 5) ∧ (1 ≤ w ∧ w ≤ 999) ∧ (1 ≤ v ∧ v ≤ 9999) ∧ (0 ≤ c ∧ c ≤ 4) := hg
    obtain ⟨k, hk, rfl⟩ := (rng_lit 5 (by decide) g1).ex
    obtain ⟨c, hc, rfl⟩ := (rng_lit 4 (by decide) g4).ex
    have ht : (nI k).toNatClampNeg = k := rs_tn (by omega)
    have hq := hq (by unfold tNew; rw [if_pos hg'])
    rw [ht] at hq
    simp only [hg, c_whyE hR hI i1 (show k < 6 by omega) (show c < 5 by omega), false_and, or_false, implies_true, z10, z21, z31, isB0, isB1, and_self, ne_eq, eq_self, not_true_eq_false, not_false_eq_true, false_implies, true_implies, true_and, and_true, forall_eq, if_true, if_false, reduceIte]
    exact hq
  · have hg' : ¬ ((0 ≤ k ∧ k ≤ 5) ∧ (1 ≤ w ∧ w ≤ 999) ∧ (1 ≤ v ∧ v ≤ 9999) ∧ (0 ≤ c ∧ c ≤ 4)) := hg
    simp only [hg, false_and, false_or, implies_true, z10, z21, z31, isB0, isB1, and_self, ne_eq, eq_self, not_true_eq_false, not_false_eq_true, false_implies, true_implies, true_and, and_true, forall_eq, if_true, if_false, reduceIte]
    exact xq hx (by unfold tNew; rw [if_neg hg']) (by decide)
theorem n_cheapestEntry (hR : RS mc 1 f) (hI : Inv a s f) (p : Int32) (Q : Int32 → Mm → Prop) (X : Nat → Mm → Prop) (hq : tKd p = 0 → ∀ z, eq11 z mc → Q (numF f (chF f (pC f none p))) z) (hx : ¬ tKd p = 0 → X (tKd p) mc) : w_X9_cheapestEntry p mc Q X := by
  simp only [w_X9_cheapestEntry, reqW]
  by_cases hF : 0 ≤ p ∧ p ≤ 5
  · have hE := tl_eq f 1 mc (mo f)
    have hR2 := hE.1.rs hR
    have hT := hE.2
    have hq := hq (by unfold tKd; rw [if_pos hF]) _ hE.1
    simp only [c_tell hR hI i1, hF, not_true_eq_false, not_false_eq_true, false_implies, true_implies, true_and, and_true, forall_eq, if_true, if_false, reduceIte]
    generalize fo (tlG f 1) (mo f) mc = z at *
    have hb := c_behind hR2 hI i1 hT none (fun k q => by cases q) p
    rw [eo_n] at hb
    have hnB := c_numberB hR2 hI i1 (chF f (pC f none p)) (fun k q => fo_lt (chG_ok f (pC f none p)) _ k q)
    simp only [hb, hnB, not_true_eq_false, not_false_eq_true, false_implies, true_implies, true_and, and_true, forall_eq, if_true, if_false, reduceIte]
    exact hq
  · simp only [hF, not_true_eq_false, not_false_eq_true, false_implies, true_implies, true_and, and_true, forall_eq, if_true, if_false, reduceIte]
    exact xq hx (by unfold tKd; rw [if_neg hF]) (by decide)
def fromF (f : Nat → Int32) (p w : Int32) : Int32 := if w ≤ stockF f p then dq f p (mo f) w.toNatClampNeg 0 (chF f (pC f none p)) else -1
theorem n_dutyFromCheapest (hR : RS mc 1 f) (hI : Inv a s f) (p w : Int32) (Q : Int32 → Mm → Prop) (X : Nat → Mm → Prop) (hq : tFrom p w = 0 → ∀ z, eq11 z mc → Q (fromF f p w) z) (hx : ¬ tFrom p w = 0 → X (tFrom p w) mc) : w_X9_dutyFromCheapest p w mc Q X := by
  simp only [w_X9_dutyFromCheapest, reqW]
  by_cases hF : 0 ≤ p ∧ p ≤ 5
  · by_cases hG : 1 ≤ w ∧ w ≤ 9999
    · have hq := hq (by unfold tFrom; rw [if_pos hF, if_pos hG])
      have hw0 : rng w 9999 := rng_lit 9999 (by decide) ⟨Int32.le_trans (by decide) hG.1, hG.2⟩
      obtain ⟨w, hw, rfl⟩ := hw0.ex
      have hwt : (nI w).toNatClampNeg = w := rs_tn (by omega)
      unfold fromF at hq
      rw [hwt] at hq
      simp only [hF, hG, w_X8_dutyOfCheapest, c_stockOf hR hI i1, c_tell hR hI i1, not_true_eq_false, not_false_eq_true, false_implies, true_implies, true_and, and_true, forall_eq, if_true, if_false, reduceIte]
      by_cases hst : nI w ≤ stockF f p
      · have hE := tl_eq f 1 mc (mo f)
        have hR2 := hE.1.rs hR
        have hT := hE.2
        rw [if_pos hst] at hq
        have hq := hq _ hE.1
        simp only [hst, not_true_eq_false, not_false_eq_true, false_implies, true_implies, true_and, and_true, forall_eq, if_true, if_false, reduceIte]
        generalize fo (tlG f 1) (mo f) mc = z at *
        have hb := c_behind hR2 hI i1 hT none (fun k q => by cases q) p
        rw [eo_n] at hb
        simp only [hb]
        exact c_dfcL hR2 hI i1 hT p _ (mo f) 0 w 0 _ (by omega) hw (fun k q => fo_lt (chG_ok _ _) _ k q) hq
      · rw [if_neg hst] at hq
        simp only [hst, not_true_eq_false, not_false_eq_true, false_implies, true_implies, true_and, and_true, forall_eq, if_true, if_false, reduceIte]
        exact hq mc ⟨fun _ _ _ _ => rfl, rfl⟩
    · simp only [hF, hG, not_true_eq_false, not_false_eq_true, false_implies, true_implies, true_and, and_true, forall_eq, if_true, if_false, reduceIte]
      exact xq hx (by unfold tFrom; rw [if_pos hF, if_neg hG]) (by decide)
  · simp only [hF, not_true_eq_false, not_false_eq_true, false_implies, true_implies, true_and, and_true, forall_eq, if_true, if_false, reduceIte]
    exact xq hx (by unfold tFrom; rw [if_neg hF]) (by decide)
theorem n_day (hR : RS mc 1 f) (hI : Inv a s f) (Q : Int32 → Prop) (hq : Q (f 0)) : w_X9_day mc Q := by
  simp only [w_X9_day, hR.day]
  exact hq
theorem n_entries (hR : RS mc 1 f) (hI : Inv a s f) (Q : Int32 → Prop) (hq : Q (f 117)) : w_X9_entries mc Q := by
  simp only [w_X9_entries, hR.opn]
  exact hq
theorem n_entriesMade (hR : RS mc 1 f) (hI : Inv a s f) (Q : Int32 → Prop) (hq : Q (f 1)) : w_X9_entriesMade mc Q := by
  simp only [w_X9_entriesMade, hR.made]
  exact hq
theorem n_receipts (hR : RS mc 1 f) (hI : Inv a s f) (Q : Int32 → Prop) (hq : Q (f 68)) : w_X9_receipts mc Q := by
  simp only [w_X9_receipts, hR.recs]
  exact hq
theorem n_bond (hR : RS mc 1 f) (hI : Inv a s f) (Q : Int32 → Prop) (hq : Q (f 5)) : w_X9_bond mc Q := by
  simp only [w_X9_bond, hR.bond]
  exact hq
theorem n_account (hR : RS mc 1 f) (hI : Inv a s f) (Q : Int32 → Prop) (hq : Q (f 3)) : w_X9_account mc Q := by
  simp only [w_X9_account, hR.acct]
  exact hq
theorem n_debt (hR : RS mc 1 f) (hI : Inv a s f) (Q : Int32 → Prop) (hq : Q (f 4)) : w_X9_debt mc Q := by
  simp only [w_X9_debt, hR.debt]
  exact hq
theorem n_charges (hR : RS mc 1 f) (hI : Inv a s f) (Q : Int32 → Prop) (hq : Q (f 8)) : w_X9_charges mc Q := by
  simp only [w_X9_charges, hR.chgs]
  exact hq
theorem n_drawbacks (hR : RS mc 1 f) (hI : Inv a s f) (Q : Int32 → Prop) (hq : Q (f 9)) : w_X9_drawbacks mc Q := by
  simp only [w_X9_drawbacks, hR.drws]
  exact hq
theorem n_balance (hR : RS mc 1 f) (hI : Inv a s f) (Q : Int32 → Prop) (hq : Q (f 3 - f 4)) : w_X9_balance mc Q := by
  simp only [w_X9_balance, hR.acct, hR.debt]
  exact hq
theorem n_balanceByTotals (hR : RS mc 1 f) (hI : Inv a s f) (Q : Int32 → Prop) (hq : Q (f 6 + f 9 - f 7 - f 8)) : w_X9_balanceByTotals mc Q := by
  simp only [w_X9_balanceByTotals, hR.deps, hR.duts, hR.chgs, hR.drws]
  exact hq
theorem n_dutyAtStake (hR : RS mc 1 f) (hI : Inv a s f) (Q : Int32 → Prop) (hq : Q (stakeF f)) : w_X9_dutyAtStake mc Q := by
  simp only [w_X9_dutyAtStake, c_stake hR hI i1]
  exact hq
theorem n_nextOverdue (hR : RS mc 1 f) (hI : Inv a s f) (Q : Int32 → Prop) (hq : Q (numF f (nextF f))) : w_X9_nextOverdue mc Q := by
  simp only [w_X9_nextOverdue, c_nextLate hR hI i1, c_numberB hR hI i1 (nextF f) (fun k q => fo_lt (nextG_ok _) _ k q), forall_eq]
  exact hq
theorem n_isOpenEntry (hR : RS mc 1 f) (hI : Inv a s f) (p : Int32) (Q : Int32 → Prop) (hq : Q (if fiE f p < mo f then 1 else 0)) : w_X9_isOpenEntry p mc Q := by
  simp only [w_X9_isOpenEntry, c_findEntry hR hI i1, forall_eq]
  by_cases hF : fiE f p < mo f
  · have h6 : fiE f p < 16 := Nat.lt_of_lt_of_le hF hI.mo16
    rw [if_pos hF] at hq
    simp only [hF, hR.ne0 h6, implies_true, z10, z21, z31, isB0, isB1, and_self, ne_eq, eq_self, not_true_eq_false, not_false_eq_true, false_implies, true_implies, true_and, and_true, forall_eq, if_true, if_false, reduceIte]
    exact hq
  · rw [if_neg hF] at hq
    simp only [hF, implies_true, z10, z21, z31, isB0, isB1, and_self, ne_eq, eq_self, not_true_eq_false, not_false_eq_true, false_implies, true_implies, true_and, and_true, forall_eq, if_true, if_false, reduceIte]
    exact hq
theorem n_dearestEntry (hR : RS mc 1 f) (hI : Inv a s f) (Q : Int32 → Mm → Prop) (hq : ∀ z, eq11 z mc → Q (numF f (dearF f)) z) : w_X9_dearestEntry mc Q := by
  have hE := tl_eq f 1 mc (mo f)
  have hR2 := hE.1.rs hR
  have hT := hE.2
  have hq := hq _ hE.1
  simp only [w_X9_dearestEntry, w_X8_dearest, c_tell hR hI i1]
  generalize fo (tlG f 1) (mo f) mc = z at *
  simp only [c_dearL hR2 hI hT, c_numberB hR2 hI i1 (dearF f) (fun k q => fo_lt (dearG_ok _) _ k q), forall_eq]
  exact hq
end ASK
