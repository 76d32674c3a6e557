section SEM1
def en (f : Nat → Int32) (e q : Nat) : Int32 := f (118 + 8 * e + q)
def rc (f : Nat → Int32) (r q : Nat) : Int32 := f (69 + 4 * r + q)
def mo (f : Nat → Int32) : Nat := (f 117).toNatClampNeg
def mr (f : Nat → Int32) : Nat := (f 68).toNatClampNeg
def up (f : Nat → Int32) (j : Nat) (v : Int32) : Nat → Int32 := fun k => if k = j then v else f k
/-- what is so of an entry -/
def EI (f : Nat → Int32) (e : Nat) : Prop := rng (en f e 1) 5 ∧ rng (en f e 2) 999 ∧ 1 ≤ (en f e 2).toNatClampNeg ∧ rng (en f e 3) 659880 ∧ rng (en f e 4) 4 ∧ rng (en f e 5) (f 0).toNatClampNeg ∧ rng (en f e 6) (f 0).toNatClampNeg ∧ rng (en f e 7) 1
def RI (f : Nat → Int32) (r : Nat) : Prop := rng (rc f r 0) 5 ∧ rng (rc f r 1) 999 ∧ rng (rc f r 2) 440000
/-- goods and their worth, of the first entries -/
def gs (f : Nat → Int32) : Nat → Nat
  | 0 => 0
  | n + 1 => gs f n + ((en f n 3).toNatClampNeg + (en f n 2).toNatClampNeg)
/-- what is so of every state: a bounds the account, s the seals -/
def Inv (a s : Nat) (f : Nat → Int32) : Prop :=
  rng (f 0) 9999 ∧ rng (f 1) 60 ∧ rng (f 2) s ∧ rng (f 3) a ∧ rng (f 4) 8000000 ∧ rng (f 5) 50000 ∧ rng (f 68) 12 ∧ rng (f 117) 16 ∧
  (∀ c, c < 5 → rng (f (10 + c)) (f 2).toNatClampNeg ∧ rng (f (15 + c)) 1 ∧ (f (10 + c) ≤ 0 → f (15 + c) = 0)) ∧
  (∀ k, k < 6 → rng (f (20 + k)) 60 ∧ rng (f (26 + k)) 80) ∧
  (∀ e, e < mo f → EI f e) ∧
  (∀ r, r < mr f → RI f r) ∧
  (f 4).toNatClampNeg + 12 * gs f (mo f) ≤ 131976 * (f 1).toNatClampNeg ∧ (a < 1000000000 ∧ s < 1000000)
theorem Inv.day {a s : Nat} {f : Nat → Int32} (h : Inv a s f) : rng (f 0) 9999 := h.1
theorem Inv.made {a s : Nat} {f : Nat → Int32} (h : Inv a s f) : rng (f 1) 60 := h.2.1
theorem Inv.seals {a s : Nat} {f : Nat → Int32} (h : Inv a s f) : rng (f 2) s := h.2.2.1
theorem Inv.acct {a s : Nat} {f : Nat → Int32} (h : Inv a s f) : rng (f 3) a := h.2.2.2.1
theorem Inv.debt {a s : Nat} {f : Nat → Int32} (h : Inv a s f) : rng (f 4) 8000000 := h.2.2.2.2.1
theorem Inv.bond {a s : Nat} {f : Nat → Int32} (h : Inv a s f) : rng (f 5) 50000 := h.2.2.2.2.2.1
theorem Inv.recs {a s : Nat} {f : Nat → Int32} (h : Inv a s f) : rng (f 68) 12 := h.2.2.2.2.2.2.1
theorem Inv.opn {a s : Nat} {f : Nat → Int32} (h : Inv a s f) : rng (f 117) 16 := h.2.2.2.2.2.2.2.1
theorem Inv.cham {a s : Nat} {f : Nat → Int32} (h : Inv a s f) : ∀ c, c < 5 → rng (f (10 + c)) (f 2).toNatClampNeg ∧ rng (f (15 + c)) 1 ∧ (f (10 + c) ≤ 0 → f (15 + c) = 0) := h.2.2.2.2.2.2.2.2.1
theorem Inv.kinds {a s : Nat} {f : Nat → Int32} (h : Inv a s f) : ∀ k, k < 6 → rng (f (20 + k)) 60 ∧ rng (f (26 + k)) 80 := h.2.2.2.2.2.2.2.2.2.1
theorem Inv.ent {a s : Nat} {f : Nat → Int32} (h : Inv a s f) : ∀ e, e < mo f → EI f e := h.2.2.2.2.2.2.2.2.2.2.1
theorem Inv.rec {a s : Nat} {f : Nat → Int32} (h : Inv a s f) : ∀ r, r < mr f → RI f r := h.2.2.2.2.2.2.2.2.2.2.2.1
theorem Inv.pot {a s : Nat} {f : Nat → Int32} (h : Inv a s f) : (f 4).toNatClampNeg + 12 * gs f (mo f) ≤ 131976 * (f 1).toNatClampNeg := h.2.2.2.2.2.2.2.2.2.2.2.2.1
theorem Inv.bnd {a s : Nat} {f : Nat → Int32} (h : Inv a s f) : a < 1000000000 ∧ s < 1000000 := h.2.2.2.2.2.2.2.2.2.2.2.2.2
theorem Inv.mo16 {a s : Nat} {f : Nat → Int32} (h : Inv a s f) : mo f ≤ 16 := h.opn.2
theorem Inv.mr12 {a s : Nat} {f : Nat → Int32} (h : Inv a s f) : mr f ≤ 12 := h.recs.2
theorem mo_nI {f : Nat → Int32} (h : rng (f 117) 16) : f 117 = nI (mo f) := h.1
theorem mo_lt {f : Nat → Int32} {j : Nat} (h : rng (f 117) 16) (hj : j < mo f) : (f 117 ≤ nI j) = False := by
  have h2 := h.2
  have h3 : mo f ≤ 16 := h2
  rw [mo_nI h, nI_leI (by omega) (by omega)]
  simp only [eq_iff_iff, iff_false]
  omega
theorem mo_le {f : Nat → Int32} (h : rng (f 117) 16) : (f 117 ≤ nI (mo f)) = True := by
  rw [mo_nI h]
  simp only [eq_iff_iff, iff_true]
  rw [← mo_nI h]
  exact Int32.le_refl _
theorem ix3 {a b : Nat} : (nI a + (8 : Int32) * nI b) = nI (a + 8 * b) := by
  rw [show (8 : Int32) = nI 8 from rfl, pk_mul, nI_add]
theorem m_of {e q : Nat} (he : e < 16) (hq : q < 8) (mm : Mm) (Q : Int32 → Prop) : w_X10_of (nI e) (nI q) mm Q ↔ Q (en (mm.1 32 1) e q) := by
  unfold w_X10_of en
  rw [show (118 : Int32) = nI 118 from rfl, ix3, nI_add, rs_tn (by omega)]
  exact ⟨fun h => h.2, fun h => ⟨vp_in_nI (by omega) (by omega), h⟩⟩
theorem m_of0 {e : Nat} (he : e < 16) (mm : Mm) (Q : Int32 → Prop) : w_X10_of (nI e) 0 mm Q ↔ Q (en (mm.1 32 1) e 0) := m_of (q := 0) he (by decide) mm Q
theorem m_of1 {e : Nat} (he : e < 16) (mm : Mm) (Q : Int32 → Prop) : w_X10_of (nI e) 1 mm Q ↔ Q (en (mm.1 32 1) e 1) := m_of (q := 1) he (by decide) mm Q
theorem m_of2 {e : Nat} (he : e < 16) (mm : Mm) (Q : Int32 → Prop) : w_X10_of (nI e) 2 mm Q ↔ Q (en (mm.1 32 1) e 2) := m_of (q := 2) he (by decide) mm Q
theorem m_of3 {e : Nat} (he : e < 16) (mm : Mm) (Q : Int32 → Prop) : w_X10_of (nI e) 3 mm Q ↔ Q (en (mm.1 32 1) e 3) := m_of (q := 3) he (by decide) mm Q
theorem m_of4 {e : Nat} (he : e < 16) (mm : Mm) (Q : Int32 → Prop) : w_X10_of (nI e) 4 mm Q ↔ Q (en (mm.1 32 1) e 4) := m_of (q := 4) he (by decide) mm Q
theorem m_of5 {e : Nat} (he : e < 16) (mm : Mm) (Q : Int32 → Prop) : w_X10_of (nI e) 5 mm Q ↔ Q (en (mm.1 32 1) e 5) := m_of (q := 5) he (by decide) mm Q
theorem m_of6 {e : Nat} (he : e < 16) (mm : Mm) (Q : Int32 → Prop) : w_X10_of (nI e) 6 mm Q ↔ Q (en (mm.1 32 1) e 6) := m_of (q := 6) he (by decide) mm Q
theorem m_of7 {e : Nat} (he : e < 16) (mm : Mm) (Q : Int32 → Prop) : w_X10_of (nI e) 7 mm Q ↔ Q (en (mm.1 32 1) e 7) := m_of (q := 7) he (by decide) mm Q
def sumF (f : Nat → Int32) (k : Nat) (worth weight : Int32) : Int32 := (worth * f (20 + k) + 99) / 100 + (weight * f (26 + k) + 99) / 100
def dutyF (f : Nat → Int32) (k : Nat) (worth weight age : Int32) : Int32 := if age ≤ 200 then sumF f k worth weight else sumF f k worth weight + (sumF f k worth weight + 9) / 10
def shareF (f : Nat → Int32) (e : Nat) (w : Int32) : Int32 := en f e 3 * w / en f e 2
def knd (f : Nat → Int32) (e : Nat) : Nat := (en f e 1).toNatClampNeg
def dutyPF (f : Nat → Int32) (e : Nat) (w : Int32) : Int32 := dutyF f (knd f e) (shareF f e w) w (en f e 5)
def dutyAF (f : Nat → Int32) (e : Nat) : Int32 := dutyF f (knd f e) (en f e 3) (en f e 2) (en f e 5)
def stakeF (f : Nat → Int32) : Int32 := fo (fun e s => s + dutyAF f e) (mo f) 0
def roomF (f : Nat → Int32) (c : Int32) : Int32 := fo (fun e s => if en f e 4 = c then s - en f e 2 else s) (mo f) 2000
def stockF (f : Nat → Int32) (k : Int32) : Int32 := fo (fun e s => if en f e 1 = k then s + en f e 2 else s) (mo f) 0
def countF (f : Nat → Int32) (c : Int32) : Int32 := fo (fun e s => if en f e 4 = c then s + 1 else s) (mo f) 0
def fiE (f : Nat → Int32) (p : Int32) : Nat := fnd (fun e => decide (en f e 0 = p)) (mo f) 0
theorem add_m1 (x : Int32) : x + 100 - 1 = x + 99 := by
  rw [Int32.sub_eq_add_neg, Int32.add_assoc]
  rfl
theorem add_m1' (x : Int32) : x + 10 - 1 = x + 9 := by
  rw [Int32.sub_eq_add_neg, Int32.add_assoc]
  rfl
theorem m_up100 (x : Int32) (mm : Mm) (Q : Int32 → Prop) : w_X10_up x 100 mm Q ↔ Q ((x + 99) / 100) := by
  unfold w_X10_up
  rw [add_m1]
  exact ⟨fun h => h.2, fun h => ⟨by decide, h⟩⟩
theorem m_up10 (x : Int32) (mm : Mm) (Q : Int32 → Prop) : w_X10_up x 10 mm Q ↔ Q ((x + 9) / 10) := by
  unfold w_X10_up
  rw [add_m1']
  exact ⟨fun h => h.2, fun h => ⟨by decide, h⟩⟩
theorem ix1 {a b : Nat} : nI a + nI b = nI (a + b) := nI_add a b
theorem m_duty0 {k : Nat} (hk : k < 6) (worth weight : Int32) (mm : Mm) (Q : Int32 → Prop) : w_X10_duty (nI k) worth weight 0 mm Q ↔ Q (sumF (mm.1 32 1) k worth weight) := by
  unfold w_X10_duty sumF
  rw [show (20 : Int32) = nI 20 from rfl, show (26 : Int32) = nI 26 from rfl, nI_add, nI_add, rs_tn (by omega), rs_tn (by omega)]
  have h1 : vp_in (nI (20 + k)) 246 := vp_in_nI (by omega) (by omega)
  have h2 : vp_in (nI (26 + k)) 246 := vp_in_nI (by omega) (by omega)
  simp only [h1, h2, m_up100, not_true_eq_false, not_false_eq_true, false_implies, true_implies, true_and, and_true, forall_eq, if_true, if_false, reduceIte]
theorem m_duty1 {k : Nat} (hk : k < 6) (worth weight : Int32) (mm : Mm) (Q : Int32 → Prop) : w_X10_duty (nI k) worth weight 1 mm Q ↔ Q (sumF (mm.1 32 1) k worth weight + (sumF (mm.1 32 1) k worth weight + 9) / 10) := by
  unfold w_X10_duty sumF
  rw [show (20 : Int32) = nI 20 from rfl, show (26 : Int32) = nI 26 from rfl, nI_add, nI_add, rs_tn (by omega), rs_tn (by omega)]
  have h1 : vp_in (nI (20 + k)) 246 := vp_in_nI (by omega) (by omega)
  have h2 : vp_in (nI (26 + k)) 246 := vp_in_nI (by omega) (by omega)
  simp only [h1, h2, m_up100, m_up10, z10, not_true_eq_false, not_false_eq_true, false_implies, true_implies, true_and, and_true, forall_eq, if_true, if_false, reduceIte]
theorem m_share {e : Nat} {w : Int32} (he : e < 16) {mm : Mm} (hw : ¬ en (mm.1 32 1) e 2 = 0) (Q : Int32 → Prop) : w_X10_share (nI e) w mm Q ↔ Q (shareF (mm.1 32 1) e w) := by
  unfold w_X10_share shareF
  simp only [m_of3 he, m_of2 he, hw, not_true_eq_false, not_false_eq_true, false_implies, true_implies, true_and, and_true, forall_eq, if_true, if_false, reduceIte]
theorem m_isLate {e : Nat} (he : e < 16) (mm : Mm) (Q : Int32 → Prop) : w_X10_isLate (nI e) mm Q ↔ if en (mm.1 32 1) e 5 ≤ 200 then Q 0 else Q 1 := by
  unfold w_X10_isLate
  simp only [m_of5 he]
  exact bri inferInstance
theorem EI.w0 {f : Nat → Int32} {e : Nat} (h : EI f e) : ¬ en f e 2 = 0 := by
  rw [h.2.1.1]
  have h1 := h.2.1.2
  have h2 := h.2.2.1
  exact nI_ne0 (by omega) (by omega)
theorem EI.k {f : Nat → Int32} {e : Nat} (h : EI f e) : en f e 1 = nI (knd f e) ∧ knd f e < 6 := ⟨h.1.1, Nat.lt_succ_of_le h.1.2⟩
theorem m_dutyPart {e : Nat} (he : e < 16) {mm : Mm} (h : EI (mm.1 32 1) e) (w : Int32) (Q : Int32 → Prop) : w_X10_dutyPart (nI e) w mm Q ↔ Q (dutyPF (mm.1 32 1) e w) := by
  unfold w_X10_dutyPart dutyPF dutyF
  simp only [m_of1 he, m_share he h.w0, m_isLate he]
  rw [h.k.1]
  by_cases hl : en (mm.1 32 1) e 5 ≤ 200
  · simp only [hl, m_duty0 h.k.2, not_true_eq_false, not_false_eq_true, false_implies, true_implies, true_and, and_true, forall_eq, if_true, if_false, reduceIte]
  · simp only [hl, m_duty1 h.k.2, not_true_eq_false, not_false_eq_true, false_implies, true_implies, true_and, and_true, forall_eq, if_true, if_false, reduceIte]
theorem share_all {f : Nat → Int32} {e : Nat} (h : EI f e) : shareF f e (en f e 2) = en f e 3 := by
  unfold shareF
  have a1 := h.2.1.2
  have a2 := h.2.2.1
  have a3 := h.2.2.2.1.2
  rw [h.2.1.1, h.2.2.2.1.1, pk_mul]
  have h5 : (en f e 3).toNatClampNeg * (en f e 2).toNatClampNeg ≤ 659880 * 999 := Nat.mul_le_mul a3 a1
  rw [pk_div (by omega) (by omega) (by omega), Nat.mul_div_cancel _ (by omega)]
theorem m_dutyAll {e : Nat} (he : e < 16) {mm : Mm} (h : EI (mm.1 32 1) e) (Q : Int32 → Prop) : w_X10_dutyAll (nI e) mm Q ↔ Q (dutyAF (mm.1 32 1) e) := by
  unfold w_X10_dutyAll
  simp only [m_of2 he, m_dutyPart he h]
  unfold dutyPF dutyAF
  rw [share_all h]
variable {a s : Nat}
theorem m_stake {mm : Mm} (hI : Inv a s (mm.1 32 1)) (Q : Int32 → Prop) : w_X10_stake mm Q ↔ Q (stakeF (mm.1 32 1)) := by
  unfold w_X10_stake stakeF
  refine itr_for _ (fun j s => (s, nI j)) (mo (mm.1 32 1)) (fun e s => s + dutyAF (mm.1 32 1) e) 0 _ (fun K j hj => ?_) (fun K => ?_)
  · have he : j < 16 := Nat.lt_of_lt_of_le hj hI.mo16
    simp only [w_X10_stake_B4, mo_lt hI.opn hj, m_dutyAll he (hI.ent j hj), nI_1, fo, not_true_eq_false, not_false_eq_true, false_implies, true_implies, true_and, and_true, forall_eq, if_true, if_false, reduceIte]
  · simp only [w_X10_stake_B4, mo_le hI.opn, not_true_eq_false, not_false_eq_true, false_implies, true_implies, true_and, and_true, forall_eq, if_true, if_false, reduceIte]
theorem m_room {mm : Mm} (hI : Inv a s (mm.1 32 1)) (c : Int32) (Q : Int32 → Prop) : w_X10_room c mm Q ↔ Q (roomF (mm.1 32 1) c) := by
  unfold w_X10_room roomF
  refine itr_for _ (fun j s => (s, nI j)) (mo (mm.1 32 1)) (fun e s => if en (mm.1 32 1) e 4 = c then s - en (mm.1 32 1) e 2 else s) 2000 _ (fun K j hj => ?_) (fun K => ?_)
  · have he : j < 16 := Nat.lt_of_lt_of_le hj hI.mo16
    by_cases hc : en (mm.1 32 1) j 4 = c
    · simp only [w_X10_room_B6, mo_lt hI.opn hj, m_of4 he, m_of2 he, hc, nI_1, fo, not_true_eq_false, not_false_eq_true, false_implies, true_implies, true_and, and_true, forall_eq, if_true, if_false, reduceIte]
    · simp only [w_X10_room_B6, mo_lt hI.opn hj, m_of4 he, m_of2 he, hc, nI_1, fo, Int32.sub_zero, not_true_eq_false, not_false_eq_true, false_implies, true_implies, true_and, and_true, forall_eq, if_true, if_false, reduceIte]
  · simp only [w_X10_room_B6, mo_le hI.opn, not_true_eq_false, not_false_eq_true, false_implies, true_implies, true_and, and_true, forall_eq, if_true, if_false, reduceIte]
theorem m_stock {mm : Mm} (hI : Inv a s (mm.1 32 1)) (c : Int32) (Q : Int32 → Prop) : w_X10_stock c mm Q ↔ Q (stockF (mm.1 32 1) c) := by
  unfold w_X10_stock stockF
  refine itr_for _ (fun j s => (s, nI j)) (mo (mm.1 32 1)) (fun e s => if en (mm.1 32 1) e 1 = c then s + en (mm.1 32 1) e 2 else s) 0 _ (fun K j hj => ?_) (fun K => ?_)
  · have he : j < 16 := Nat.lt_of_lt_of_le hj hI.mo16
    by_cases hc : en (mm.1 32 1) j 1 = c
    · simp only [w_X10_stock_B4, mo_lt hI.opn hj, m_of1 he, m_of2 he, hc, nI_1, fo, not_true_eq_false, not_false_eq_true, false_implies, true_implies, true_and, and_true, forall_eq, if_true, if_false, reduceIte]
    · simp only [w_X10_stock_B4, mo_lt hI.opn hj, m_of1 he, m_of2 he, hc, nI_1, fo, Int32.add_zero, not_true_eq_false, not_false_eq_true, false_implies, true_implies, true_and, and_true, forall_eq, if_true, if_false, reduceIte]
  · simp only [w_X10_stock_B4, mo_le hI.opn, not_true_eq_false, not_false_eq_true, false_implies, true_implies, true_and, and_true, forall_eq, if_true, if_false, reduceIte]
theorem m_find {mm : Mm} (hI : Inv a s (mm.1 32 1)) (p : Int32) (Q : Int32 → Prop) : w_X10_find p mm Q ↔ if fiE (mm.1 32 1) p < mo (mm.1 32 1) then Q (nI (fiE (mm.1 32 1) p)) else Q (-1) := by
  unfold w_X10_find fiE
  refine itr_find _ (fun j => nI j) (mo (mm.1 32 1)) (fun e => decide (en (mm.1 32 1) e 0 = p)) (fun e => Q (nI e)) (Q (-1)) (fun K j hj => ?_) (fun K => ?_)
  · have he : j < 16 := Nat.lt_of_lt_of_le hj hI.mo16
    by_cases hc : en (mm.1 32 1) j 0 = p
    · simp only [w_X10_find_B2, mo_lt hI.opn hj, m_of0 he, hc, nI_1, decide_true, not_true_eq_false, not_false_eq_true, false_implies, true_implies, true_and, and_true, forall_eq, if_true, if_false, reduceIte]
    · simp only [w_X10_find_B2, mo_lt hI.opn hj, m_of0 he, hc, nI_1, decide_false, Bool.false_eq_true, not_true_eq_false, not_false_eq_true, false_implies, true_implies, true_and, and_true, forall_eq, if_true, if_false, reduceIte]
  · simp only [w_X10_find_B2, mo_le hI.opn, not_true_eq_false, not_false_eq_true, false_implies, true_implies, true_and, and_true, forall_eq, if_true, if_false, reduceIte]
theorem m_isShut {c : Nat} (hc : c < 5) (mm : Mm) (Q : Int32 → Prop) : w_X10_isShut (nI c) mm Q ↔ if (mm.1 32 1 (10 + c)) ≤ 0 then Q 0 else Q 1 := by
  unfold w_X10_isShut
  rw [show (10 : Int32) = nI 10 from rfl, nI_add, rs_tn (by omega)]
  have h1 : vp_in (nI (10 + c)) 246 := vp_in_nI (by omega) (by omega)
  simp only [h1, not_true_eq_false, not_false_eq_true, false_implies, true_implies, true_and, and_true, forall_eq, if_true, if_false, reduceIte]
  exact bri inferInstance
theorem m_isKind (p : Int32) (mm : Mm) (Q : Int32 → Prop) : w_X10_isKind p mm Q ↔ if 0 ≤ p ∧ p ≤ 5 then Q 1 else Q 0 := by
  unfold w_X10_isKind
  rw [w_in (A := 0) (B := 5) p 0 5 rfl rfl]
  simp only [isB0, isB1, not_true_eq_false, not_false_eq_true, false_implies, true_implies, true_and, and_true, forall_eq, if_true, if_false, reduceIte]
theorem m_isChamber (p : Int32) (mm : Mm) (Q : Int32 → Prop) : w_X10_isChamber p mm Q ↔ if 0 ≤ p ∧ p ≤ 4 then Q 1 else Q 0 := by
  unfold w_X10_isChamber
  rw [w_in (A := 0) (B := 4) p 0 4 rfl rfl]
  simp only [isB0, isB1, not_true_eq_false, not_false_eq_true, false_implies, true_implies, true_and, and_true, forall_eq, if_true, if_false, reduceIte]
theorem m_isWeight (p : Int32) (mm : Mm) (Q : Int32 → Prop) : w_X10_isWeight p mm Q ↔ if 1 ≤ p ∧ p ≤ 999 then Q 1 else Q 0 := by
  unfold w_X10_isWeight
  rw [w_in (A := 1) (B := 999) p 1 999 rfl rfl]
  simp only [isB0, isB1, not_true_eq_false, not_false_eq_true, false_implies, true_implies, true_and, and_true, forall_eq, if_true, if_false, reduceIte]
end SEM1

