section SEM2
def slc (x : Int32) : Int32 := if x ≤ 0 then -1 else x
def kix (k q : Nat) : Nat := if q = 0 then 20 + k else if q = 1 then 26 + k else 30 + 6 * k + q
def mix (q : Nat) : Nat := if q = 0 then 5 else if q = 1 then 3 else if q = 2 then 4 else 3 + q
def six (q : Nat) : Nat := if q = 0 then 0 else if q = 1 then 117 else if q = 2 then 1 else if q = 3 then 2 else 68
def ev (f : Nat → Int32) (e q : Nat) : Int32 := if q = 5 ∨ q = 6 then f 0 - en f e q else en f e q
def RSs (m : Mm) (i : Nat) (f : Nat → Int32) : Prop := ∀ q, q < 5 → m.1 1 i q = f (six q)
def RSm (m : Mm) (i : Nat) (f : Nat → Int32) : Prop := ∀ q, q < 7 → m.1 2 i q = f (mix q)
def RSc (m : Mm) (i : Nat) (f : Nat → Int32) : Prop := ∀ c, c < 5 → m.1 5 (5 * (i - 1) + c + 1) 0 = slc (f (10 + c)) ∧ m.1 5 (5 * (i - 1) + c + 1) 1 = f (15 + c)
def RSk (m : Mm) (i : Nat) (f : Nat → Int32) : Prop := ∀ k, k < 6 → ∀ q, q < 8 → m.1 6 (6 * (i - 1) + k + 1) q = f (kix k q)
def RSe (m : Mm) (i : Nat) (f : Nat → Int32) : Prop := ∀ e, e < mo f → ∀ q, q < 8 → m.1 3 (m.2 7 i e) q = ev f e q
def RSr (m : Mm) (i : Nat) (f : Nat → Int32) : Prop := ∀ r, r < mr f → ∀ q, q < 4 → m.1 4 (m.2 8 i r) q = rc f r q
def RSp (m : Mm) (i : Nat) : Prop := (∀ j, j < 16 → 16 * (i - 1) < m.2 7 i j ∧ m.2 7 i j ≤ 16 * i) ∧ (∀ j k, j < 16 → k < 16 → m.2 7 i j = m.2 7 i k → j = k) ∧ (∀ j, j < 12 → 12 * (i - 1) < m.2 8 i j ∧ m.2 8 i j ≤ 12 * i) ∧ (∀ j k, j < 12 → k < 12 → m.2 8 i j = m.2 8 i k → j = k)
/-- the state i of the class holds the row f -/
def RS (m : Mm) (i : Nat) (f : Nat → Int32) : Prop := RSs m i f ∧ RSm m i f ∧ RSc m i f ∧ RSk m i f ∧ RSe m i f ∧ RSr m i f ∧ RSp m i
variable {m : Mm} {i a s : Nat} {f : Nat → Int32}
theorem RS.day (h : RS m i f) : m.1 1 i 0 = f 0 := h.1 0 (by decide)
theorem RS.opn (h : RS m i f) : m.1 1 i 1 = f 117 := h.1 1 (by decide)
theorem RS.made (h : RS m i f) : m.1 1 i 2 = f 1 := h.1 2 (by decide)
theorem RS.seals (h : RS m i f) : m.1 1 i 3 = f 2 := h.1 3 (by decide)
theorem RS.recs (h : RS m i f) : m.1 1 i 4 = f 68 := h.1 4 (by decide)
theorem RS.bond (h : RS m i f) : m.1 2 i 0 = f 5 := h.2.1 0 (by decide)
theorem RS.acct (h : RS m i f) : m.1 2 i 1 = f 3 := h.2.1 1 (by decide)
theorem RS.debt (h : RS m i f) : m.1 2 i 2 = f 4 := h.2.1 2 (by decide)
theorem RS.deps (h : RS m i f) : m.1 2 i 3 = f 6 := h.2.1 3 (by decide)
theorem RS.duts (h : RS m i f) : m.1 2 i 4 = f 7 := h.2.1 4 (by decide)
theorem RS.chgs (h : RS m i f) : m.1 2 i 5 = f 8 := h.2.1 5 (by decide)
theorem RS.drws (h : RS m i f) : m.1 2 i 6 = f 9 := h.2.1 6 (by decide)
theorem RS.seal (h : RS m i f) {c : Nat} (hc : c < 5) : m.1 5 (5 * (i - 1) + c + 1) 0 = slc (f (10 + c)) := (h.2.2.1 c hc).1
theorem RS.brok (h : RS m i f) {c : Nat} (hc : c < 5) : m.1 5 (5 * (i - 1) + c + 1) 1 = f (15 + c) := (h.2.2.1 c hc).2
theorem RS.k0 (h : RS m i f) {k : Nat} (hk : k < 6) : m.1 6 (6 * (i - 1) + k + 1) 0 = f (20 + k) := h.2.2.2.1 k hk 0 (by decide)
theorem RS.k1 (h : RS m i f) {k : Nat} (hk : k < 6) : m.1 6 (6 * (i - 1) + k + 1) 1 = f (26 + k) := h.2.2.2.1 k hk 1 (by decide)
theorem RS.k2 (h : RS m i f) {k : Nat} (hk : k < 6) : m.1 6 (6 * (i - 1) + k + 1) 2 = f (30 + 6 * k + 2) := h.2.2.2.1 k hk 2 (by decide)
theorem RS.k3 (h : RS m i f) {k : Nat} (hk : k < 6) : m.1 6 (6 * (i - 1) + k + 1) 3 = f (30 + 6 * k + 3) := h.2.2.2.1 k hk 3 (by decide)
theorem RS.k4 (h : RS m i f) {k : Nat} (hk : k < 6) : m.1 6 (6 * (i - 1) + k + 1) 4 = f (30 + 6 * k + 4) := h.2.2.2.1 k hk 4 (by decide)
theorem RS.k5 (h : RS m i f) {k : Nat} (hk : k < 6) : m.1 6 (6 * (i - 1) + k + 1) 5 = f (30 + 6 * k + 5) := h.2.2.2.1 k hk 5 (by decide)
theorem RS.k6 (h : RS m i f) {k : Nat} (hk : k < 6) : m.1 6 (6 * (i - 1) + k + 1) 6 = f (30 + 6 * k + 6) := h.2.2.2.1 k hk 6 (by decide)
theorem RS.k7 (h : RS m i f) {k : Nat} (hk : k < 6) : m.1 6 (6 * (i - 1) + k + 1) 7 = f (30 + 6 * k + 7) := h.2.2.2.1 k hk 7 (by decide)
theorem RS.e0 (h : RS m i f) {e : Nat} (he : e < mo f) : m.1 3 (m.2 7 i e) 0 = en f e 0 := h.2.2.2.2.1 e he 0 (by decide)
theorem RS.e1 (h : RS m i f) {e : Nat} (he : e < mo f) : m.1 3 (m.2 7 i e) 1 = en f e 1 := h.2.2.2.2.1 e he 1 (by decide)
theorem RS.e2 (h : RS m i f) {e : Nat} (he : e < mo f) : m.1 3 (m.2 7 i e) 2 = en f e 2 := h.2.2.2.2.1 e he 2 (by decide)
theorem RS.e3 (h : RS m i f) {e : Nat} (he : e < mo f) : m.1 3 (m.2 7 i e) 3 = en f e 3 := h.2.2.2.2.1 e he 3 (by decide)
theorem RS.e4 (h : RS m i f) {e : Nat} (he : e < mo f) : m.1 3 (m.2 7 i e) 4 = en f e 4 := h.2.2.2.2.1 e he 4 (by decide)
theorem RS.e5 (h : RS m i f) {e : Nat} (he : e < mo f) : m.1 3 (m.2 7 i e) 5 = f 0 - en f e 5 := h.2.2.2.2.1 e he 5 (by decide)
theorem RS.e6 (h : RS m i f) {e : Nat} (he : e < mo f) : m.1 3 (m.2 7 i e) 6 = f 0 - en f e 6 := h.2.2.2.2.1 e he 6 (by decide)
theorem RS.e7 (h : RS m i f) {e : Nat} (he : e < mo f) : m.1 3 (m.2 7 i e) 7 = en f e 7 := h.2.2.2.2.1 e he 7 (by decide)
theorem RS.r0 (h : RS m i f) {r : Nat} (hr : r < mr f) : m.1 4 (m.2 8 i r) 0 = rc f r 0 := h.2.2.2.2.2.1 r hr 0 (by decide)
theorem RS.r1 (h : RS m i f) {r : Nat} (hr : r < mr f) : m.1 4 (m.2 8 i r) 1 = rc f r 1 := h.2.2.2.2.2.1 r hr 1 (by decide)
theorem RS.r2 (h : RS m i f) {r : Nat} (hr : r < mr f) : m.1 4 (m.2 8 i r) 2 = rc f r 2 := h.2.2.2.2.2.1 r hr 2 (by decide)
theorem RS.r3 (h : RS m i f) {r : Nat} (hr : r < mr f) : m.1 4 (m.2 8 i r) 3 = rc f r 3 := h.2.2.2.2.2.1 r hr 3 (by decide)
theorem RS.oke (h : RS m i f) (hi : 1 ≤ i ∧ i ≤ 9) {e : Nat} (he : e < 16) : ok 3 (m.2 7 i e) := by
  have h1 := h.2.2.2.2.2.2.1 e he
  show 1 ≤ _ ∧ _ ≤ 144
  omega
theorem RS.okr (h : RS m i f) (hi : 1 ≤ i ∧ i ≤ 9) {e : Nat} (he : e < 12) : ok 4 (m.2 8 i e) := by
  have h1 := h.2.2.2.2.2.2.2.2.1 e he
  show 1 ≤ _ ∧ _ ≤ 108
  omega
theorem RS.ne0 (h : RS m i f) {e : Nat} (he : e < 16) : ¬ m.2 7 i e = 0 := by
  have h1 := h.2.2.2.2.2.2.1 e he
  omega
theorem RS.nr0 (h : RS m i f) {e : Nat} (he : e < 12) : ¬ m.2 8 i e = 0 := by
  have h1 := h.2.2.2.2.2.2.2.2.1 e he
  omega
theorem ssub (x y : Int32) : x - (x - y) = y := by
  rw [Int32.sub_eq_add_neg, Int32.sub_eq_add_neg, Int32.neg_add, Int32.sub_eq_add_neg, Int32.neg_neg, ← Int32.add_assoc, Int32.add_right_neg, Int32.zero_add]
theorem i1 : 1 ≤ 1 ∧ 1 ≤ 9 := by decide
theorem c_isSealed {c : Nat} (hR : RS m i f) (hc : c < 5) (Q : Int32 → Prop) : w_X0_isSealed (5 * (i - 1) + c + 1) m Q ↔ if f (10 + c) ≤ 0 then Q 0 else Q 1 := by
  unfold w_X0_isSealed
  rw [hR.seal hc]
  unfold slc
  by_cases h : f (10 + c) ≤ 0
  · simp only [h, not_true_eq_false, not_false_eq_true, false_implies, true_implies, true_and, and_true, forall_eq, if_true, if_false, reduceIte]
  · have h2 : ¬ f (10 + c) = -1 := fun e => h (by rw [e]; decide)
    simp only [h, h2, not_true_eq_false, not_false_eq_true, false_implies, true_implies, true_and, and_true, forall_eq, if_true, if_false, reduceIte]
theorem c_hasPlace (hR : RS m i f) (Q : Int32 → Prop) : w_X8_hasPlace i m Q ↔ if 16 ≤ f 117 then Q 0 else if 60 ≤ f 1 then Q 0 else Q 1 := by
  unfold w_X8_hasPlace
  rw [hR.opn, hR.made]
  by_cases h1 : 16 ≤ f 117
  · simp only [h1, not_true_eq_false, not_false_eq_true, false_implies, true_implies, true_and, and_true, forall_eq, if_true, if_false, reduceIte]
  · by_cases h2 : 60 ≤ f 1 <;> simp only [h1, h2, not_true_eq_false, not_false_eq_true, false_implies, true_implies, true_and, and_true, forall_eq, if_true, if_false, reduceIte]
theorem c_ageNow (hR : RS m i f) {e : Nat} (he : e < mo f) (Q : Int32 → Prop) : w_X8_ageNow i (m.2 7 i e) m Q ↔ Q (en f e 5) := by
  unfold w_X8_ageNow
  rw [hR.day, hR.e5 he, ssub]
theorem c_dutyOn (hR : RS m i f) {k : Nat} (hk : k < 6) (x y z : Int32) (Q : Int32 → Prop) : w_X5_dutyOn (6 * (i - 1) + k + 1) x y z m Q ↔ Q (dutyF f k x y z) := by
  unfold w_X5_dutyOn dutyF sumF
  rw [hR.k0 hk, hR.k1 hk]
  simp only [forall_eq]
  by_cases h : z ≤ 200 <;> simp only [h, not_true_eq_false, not_false_eq_true, false_implies, true_implies, true_and, and_true, forall_eq, if_true, if_false, reduceIte]
theorem c_wholeDuty (hR : RS m i f) (hI : Inv a s f) {e : Nat} (he : e < mo f) (z : Int32) (Q : Int32 → Prop) : w_X8_wholeDuty i (m.2 7 i e) z m Q ↔ Q (dutyF f (knd f e) (en f e 3) (en f e 2) z) := by
  have hE := hI.ent e he
  unfold w_X8_wholeDuty
  rw [hR.e1 he, hR.e2 he, hR.e3 he]
  have h1 : vp_in (en f e 1) 6 := hE.1.vp (by decide) (by decide)
  have h2 := c_dutyOn hR hE.k.2 (en f e 3) (en f e 2) z Q
  simp only [h1, true_and]
  exact h2
theorem c_isLate (hR : RS m i f) {e : Nat} (he : e < mo f) (Q : Int32 → Prop) : w_X8_isLate i (m.2 7 i e) m Q ↔ if en f e 5 ≤ 200 then Q 0 else Q 1 := by
  unfold w_X8_isLate
  simp only [c_ageNow hR he]
  exact bri inferInstance
theorem c_shareOf (hR : RS m i f) (hI : Inv a s f) {e : Nat} (he : e < mo f) (w : Int32) (Q : Int32 → Prop) : w_X2_shareOf (m.2 7 i e) w m Q ↔ Q (shareF f e w) := by
  have hE := hI.ent e he
  unfold w_X2_shareOf shareF
  rw [hR.e2 he, hR.e3 he]
  have h0 := hE.w0
  have h1 : 0 < en f e 2 := by
    have h2 := hE.2.1.2
    have h3 := hE.2.2.1
    rw [hE.2.1.1, show (0 : Int32) = nI 0 from rfl]
    exact nI_lt (by omega) (by omega)
  simp only [h0, h1, not_true_eq_false, not_false_eq_true, false_implies, true_implies, true_and, and_true, forall_eq, if_true, if_false, reduceIte]
theorem c_dutyNow (hR : RS m i f) (hI : Inv a s f) {e : Nat} (he : e < mo f) (w : Int32) (Q : Int32 → Prop) : w_X8_dutyNow i (m.2 7 i e) w m Q ↔ Q (dutyPF f e w) := by
  have hE := hI.ent e he
  unfold w_X8_dutyNow
  simp only [c_shareOf hR hI he, c_ageNow hR he]
  rw [hR.e1 he]
  have h1 : vp_in (en f e 1) 6 := hE.1.vp (by decide) (by decide)
  have h2 := c_dutyOn hR hE.k.2 (shareF f e w) w (en f e 5) Q
  simp only [h1, true_and]
  exact h2
theorem c_stake (hR : RS m i f) (hI : Inv a s f) (hi : 1 ≤ i ∧ i ≤ 9) (Q : Int32 → Prop) : w_X8_stake i m Q ↔ Q (stakeF f) := by
  unfold w_X8_stake stakeF
  refine itr_for _ (fun j s => (s, nI j)) (mo f) (fun e s => s + dutyAF f e) 0 _ (fun K j hj => ?_) (fun K => ?_)
  · have he : j < 16 := Nat.lt_of_lt_of_le hj hI.mo16
    have hv : vp_in (nI j) 16 := vp_in_nI he (by decide)
    have ht : (nI j).toNatClampNeg = j := rs_tn (by omega)
    have hE := hI.ent j hj
    simp only [w_X8_stake_B4, c_ageNow hR hj, c_wholeDuty hR hI hj, hR.opn, mo_lt hI.opn hj, hv, ht, hR.oke hi he, nI_1, fo, not_true_eq_false, not_false_eq_true, false_implies, true_implies, true_and, and_true, forall_eq, if_true, if_false, reduceIte]
    rfl
  · simp only [w_X8_stake_B4, hR.opn, mo_le hI.opn, not_true_eq_false, not_false_eq_true, false_implies, true_implies, true_and, and_true, forall_eq, if_true, if_false, reduceIte]
theorem c_roomLeft (hR : RS m i f) (hI : Inv a s f) (hi : 1 ≤ i ∧ i ≤ 9) (c : Int32) (Q : Int32 → Prop) : w_X8_roomLeft i c m Q ↔ Q (roomF f c) := by
  unfold w_X8_roomLeft roomF
  refine itr_for _ (fun j s => (s, nI j)) (mo f) (fun e s => if en f e 4 = c then s - en f e 2 else s) 2000 _ (fun K j hj => ?_) (fun K => ?_)
  · have he : j < 16 := Nat.lt_of_lt_of_le hj hI.mo16
    have hv : vp_in (nI j) 16 := vp_in_nI he (by decide)
    have ht : (nI j).toNatClampNeg = j := rs_tn (by omega)
    by_cases hc : en f j 4 = c
    · simp only [w_X8_roomLeft_B6, hR.e4 hj, hR.e2 hj, hc, hR.opn, mo_lt hI.opn hj, hv, ht, hR.oke hi he, nI_1, fo, not_true_eq_false, not_false_eq_true, false_implies, true_implies, true_and, and_true, forall_eq, if_true, if_false, reduceIte]
    · simp only [w_X8_roomLeft_B6, hR.e4 hj, hR.e2 hj, hc, hR.opn, mo_lt hI.opn hj, hv, ht, hR.oke hi he, nI_1, fo, not_true_eq_false, not_false_eq_true, false_implies, true_implies, true_and, and_true, forall_eq, if_true, if_false, reduceIte]
  · simp only [w_X8_roomLeft_B6, hR.opn, mo_le hI.opn, not_true_eq_false, not_false_eq_true, false_implies, true_implies, true_and, and_true, forall_eq, if_true, if_false, reduceIte]
theorem c_countIn (hR : RS m i f) (hI : Inv a s f) (hi : 1 ≤ i ∧ i ≤ 9) (c : Int32) (Q : Int32 → Prop) : w_X8_countIn i c m Q ↔ Q (countF f c) := by
  unfold w_X8_countIn countF
  refine itr_for _ (fun j s => (s, nI j)) (mo f) (fun e s => if en f e 4 = c then s + 1 else s) 0 _ (fun K j hj => ?_) (fun K => ?_)
  · have he : j < 16 := Nat.lt_of_lt_of_le hj hI.mo16
    have hv : vp_in (nI j) 16 := vp_in_nI he (by decide)
    have ht : (nI j).toNatClampNeg = j := rs_tn (by omega)
    by_cases hc : en f j 4 = c
    · simp only [w_X8_countIn_B4, hR.e4 hj, hc, hR.opn, mo_lt hI.opn hj, hv, ht, hR.oke hi he, nI_1, fo, not_true_eq_false, not_false_eq_true, false_implies, true_implies, true_and, and_true, forall_eq, if_true, if_false, reduceIte]
    · simp only [w_X8_countIn_B4, hR.e4 hj, hc, hR.opn, mo_lt hI.opn hj, hv, ht, hR.oke hi he, nI_1, fo, not_true_eq_false, not_false_eq_true, false_implies, true_implies, true_and, and_true, forall_eq, if_true, if_false, reduceIte]
  · simp only [w_X8_countIn_B4, hR.opn, mo_le hI.opn, not_true_eq_false, not_false_eq_true, false_implies, true_implies, true_and, and_true, forall_eq, if_true, if_false, reduceIte]
theorem c_stockOf (hR : RS m i f) (hI : Inv a s f) (hi : 1 ≤ i ∧ i ≤ 9) (c : Int32) (Q : Int32 → Prop) : w_X8_stockOf i c m Q ↔ Q (stockF f c) := by
  unfold w_X8_stockOf stockF
  refine itr_for _ (fun j s => (s, nI j)) (mo f) (fun e s => if en f e 1 = c then s + en f e 2 else s) 0 _ (fun K j hj => ?_) (fun K => ?_)
  · have he : j < 16 := Nat.lt_of_lt_of_le hj hI.mo16
    have hv : vp_in (nI j) 16 := vp_in_nI he (by decide)
    have ht : (nI j).toNatClampNeg = j := rs_tn (by omega)
    by_cases hc : en f j 1 = c
    · simp only [w_X8_stockOf_B4, hR.e1 hj, hR.e2 hj, hc, hR.opn, mo_lt hI.opn hj, hv, ht, hR.oke hi he, nI_1, fo, not_true_eq_false, not_false_eq_true, false_implies, true_implies, true_and, and_true, forall_eq, if_true, if_false, reduceIte]
    · simp only [w_X8_stockOf_B4, hR.e1 hj, hR.e2 hj, hc, hR.opn, mo_lt hI.opn hj, hv, ht, hR.oke hi he, nI_1, fo, not_true_eq_false, not_false_eq_true, false_implies, true_implies, true_and, and_true, forall_eq, if_true, if_false, reduceIte]
  · simp only [w_X8_stockOf_B4, hR.opn, mo_le hI.opn, not_true_eq_false, not_false_eq_true, false_implies, true_implies, true_and, and_true, forall_eq, if_true, if_false, reduceIte]
theorem c_findEntry (hR : RS m i f) (hI : Inv a s f) (hi : 1 ≤ i ∧ i ≤ 9) (p : Int32) (Q : Nat → Prop) : w_X8_findEntry i p m Q ↔ if fiE f p < mo f then Q (m.2 7 i (fiE f p)) else Q 0 := by
  unfold w_X8_findEntry fiE
  refine itr_find _ (fun j => nI j) (mo f) (fun e => decide (en f e 0 = p)) (fun e => Q (m.2 7 i e)) (Q 0) (fun K j hj => ?_) (fun K => ?_)
  · have he : j < 16 := Nat.lt_of_lt_of_le hj hI.mo16
    have hv : vp_in (nI j) 16 := vp_in_nI he (by decide)
    have ht : (nI j).toNatClampNeg = j := rs_tn (by omega)
    by_cases hc : en f j 0 = p
    · simp only [w_X8_findEntry_B2, hR.e0 hj, hc, decide_true, hR.opn, mo_lt hI.opn hj, hv, ht, hR.oke hi he, nI_1, not_true_eq_false, not_false_eq_true, false_implies, true_implies, true_and, and_true, forall_eq, if_true, if_false, reduceIte]
    · simp only [w_X8_findEntry_B2, hR.e0 hj, hc, decide_false, Bool.false_eq_true, hR.opn, mo_lt hI.opn hj, hv, ht, hR.oke hi he, nI_1, not_true_eq_false, not_false_eq_true, false_implies, true_implies, true_and, and_true, forall_eq, if_true, if_false, reduceIte]
  · simp only [w_X8_findEntry_B2, hR.opn, mo_le hI.opn, not_true_eq_false, not_false_eq_true, false_implies, true_implies, true_and, and_true, forall_eq, if_true, if_false, reduceIte]
/-! reasons -/
def whyE (f : Nat → Int32) (k : Nat) (w v c : Int32) : Int32 :=
  if f 4 ≤ 0 then (if f (10 + c.toNatClampNeg) ≤ 0 then (if w ≤ roomF f c then (if 16 ≤ f 117 then 4 else if 60 ≤ f 1 then 4 else if stakeF f + dutyF f k v w 0 ≤ f 5 then 0 else 5) else 3) else 2) else 1
theorem c_whyE (hR : RS m i f) (hI : Inv a s f) (hi : 1 ≤ i ∧ i ≤ 9) {k c : Nat} (hk : k < 6) (hc : c < 5) (w v : Int32) (Q : Int32 → Prop) : w_X8_reasonAgainstEntry i (nI k) w v (nI c) m Q ↔ Q (whyE f k w v (nI c)) := by
  have h1 : vp_in (nI c) 5 := vp_in_nI hc (by decide)
  have h2 : vp_in (nI k) 6 := vp_in_nI hk (by decide)
  unfold w_X8_reasonAgainstEntry whyE
  simp only [rs_tn (show c < 2147483648 by omega), rs_tn (show k < 2147483648 by omega), h1, h2, c_isSealed hR hc, c_roomLeft hR hI hi, c_hasPlace hR, c_stake hR hI hi, c_dutyOn hR hk, hR.debt, hR.bond, true_and]
  by_cases b1 : f 4 ≤ 0
  · by_cases b2 : f (10 + c) ≤ 0
    · by_cases b3 : w ≤ roomF f (nI c)
      · by_cases b4 : 16 ≤ f 117
        · simp only [b1, b2, b3, b4, z10, not_true_eq_false, not_false_eq_true, false_implies, true_implies, true_and, and_true, forall_eq, if_true, if_false, reduceIte]
        · by_cases b5 : 60 ≤ f 1
          · simp only [b1, b2, b3, b4, b5, z10, not_true_eq_false, not_false_eq_true, false_implies, true_implies, true_and, and_true, forall_eq, if_true, if_false, reduceIte]
          · by_cases b6 : stakeF f + dutyF f k v w 0 ≤ f 5 <;> simp only [b1, b2, b3, b4, b5, b6, z10, not_true_eq_false, not_false_eq_true, false_implies, true_implies, true_and, and_true, forall_eq, if_true, if_false, reduceIte]
      · simp only [b1, b2, b3, not_true_eq_false, not_false_eq_true, false_implies, true_implies, true_and, and_true, forall_eq, if_true, if_false, reduceIte]
    · simp only [b1, b2, z10, not_true_eq_false, not_false_eq_true, false_implies, true_implies, true_and, and_true, forall_eq, if_true, if_false, reduceIte]
  · simp only [b1, not_true_eq_false, not_false_eq_true, false_implies, true_implies, true_and, and_true, forall_eq, if_true, if_false, reduceIte]
def whyL (f : Nat → Int32) (e : Nat) (w : Int32) : Int32 :=
  if f 4 ≤ 0 then (if f (10 + (en f e 4).toNatClampNeg) ≤ 0 then (if en f e 7 = 0 then 3 else if w ≤ en f e 2 then 0 else 4) else 2) else 1
theorem EI.c {f : Nat → Int32} {e : Nat} (h : EI f e) : en f e 4 = nI (en f e 4).toNatClampNeg ∧ (en f e 4).toNatClampNeg < 5 := ⟨h.2.2.2.2.1.1, Nat.lt_succ_of_le h.2.2.2.2.1.2⟩
theorem c_whyL (hR : RS m i f) (hI : Inv a s f) {e : Nat} (he : e < mo f) (w : Int32) (Q : Int32 → Prop) : w_X8_reasonAgainstLeaving i (m.2 7 i e) w m Q ↔ Q (whyL f e w) := by
  have hE := hI.ent e he
  have h1 : vp_in (en f e 4) 5 := hE.2.2.2.2.1.vp (by decide) (by decide)
  unfold w_X8_reasonAgainstLeaving whyL
  simp only [hR.e4 he, hR.e7 he, hR.e2 he, c_isSealed hR hE.c.2, hR.debt, h1, true_and]
  by_cases b1 : f 4 ≤ 0
  · by_cases b2 : f (10 + (en f e 4).toNatClampNeg) ≤ 0
    · by_cases b3 : en f e 7 = 0
      · simp only [b1, b2, b3, not_true_eq_false, not_false_eq_true, false_implies, true_implies, true_and, and_true, forall_eq, if_true, if_false, reduceIte]
      · by_cases b4 : w ≤ en f e 2 <;> simp only [b1, b2, b3, b4, not_true_eq_false, not_false_eq_true, false_implies, true_implies, true_and, and_true, forall_eq, if_true, if_false, reduceIte]
    · simp only [b1, b2, z10, not_true_eq_false, not_false_eq_true, false_implies, true_implies, true_and, and_true, forall_eq, if_true, if_false, reduceIte]
  · simp only [b1, not_true_eq_false, not_false_eq_true, false_implies, true_implies, true_and, and_true, forall_eq, if_true, if_false, reduceIte]
def whyW (f : Nat → Int32) (e : Nat) (w : Int32) : Int32 := if whyL f e w = 0 then (if dutyPF f e w ≤ f 3 then 0 else 5) else whyL f e w
def whyX (f : Nat → Int32) (e : Nat) (w : Int32) : Int32 := if whyL f e w = 0 then (if en f e 5 ≤ 200 then 0 else 5) else whyL f e w
theorem c_whyW (hR : RS m i f) (hI : Inv a s f) {e : Nat} (he : e < mo f) (w : Int32) (Q : Int32 → Prop) : w_X8_reasonAgainstWithdrawal i (m.2 7 i e) w m Q ↔ Q (whyW f e w) := by
  unfold w_X8_reasonAgainstWithdrawal whyW
  simp only [c_whyL hR hI he, c_dutyNow hR hI he, hR.acct]
  by_cases b1 : whyL f e w = 0
  · by_cases b2 : dutyPF f e w ≤ f 3 <;> simp only [b1, b2, not_true_eq_false, not_false_eq_true, false_implies, true_implies, true_and, and_true, forall_eq, if_true, if_false, reduceIte]
  · simp only [b1, not_true_eq_false, not_false_eq_true, false_implies, true_implies, true_and, and_true, forall_eq, if_true, if_false, reduceIte]
theorem c_whyX (hR : RS m i f) (hI : Inv a s f) {e : Nat} (he : e < mo f) (w : Int32) (Q : Int32 → Prop) : w_X8_reasonAgainstExport i (m.2 7 i e) w m Q ↔ Q (whyX f e w) := by
  unfold w_X8_reasonAgainstExport whyX
  simp only [c_whyL hR hI he, c_isLate hR he]
  by_cases b1 : whyL f e w = 0
  · by_cases b2 : en f e 5 ≤ 200 <;> simp only [b1, b2, z10, not_true_eq_false, not_false_eq_true, false_implies, true_implies, true_and, and_true, forall_eq, if_true, if_false, reduceIte]
  · simp only [b1, not_true_eq_false, not_false_eq_true, false_implies, true_implies, true_and, and_true, forall_eq, if_true, if_false, reduceIte]
def whyM (f : Nat → Int32) (e : Nat) (c : Int32) : Int32 :=
  if en f e 4 = c then 1 else if f (10 + (en f e 4).toNatClampNeg) ≤ 0 then (if en f e 7 = 0 then 3 else if f (10 + c.toNatClampNeg) ≤ 0 then (if en f e 2 ≤ roomF f c then 0 else 5) else 4) else 2
theorem c_whyM (hR : RS m i f) (hI : Inv a s f) (hi : 1 ≤ i ∧ i ≤ 9) {e c : Nat} (he : e < mo f) (hc : c < 5) (Q : Int32 → Prop) : w_X8_reasonAgainstMove i (m.2 7 i e) (nI c) m Q ↔ Q (whyM f e (nI c)) := by
  have hE := hI.ent e he
  have h1 : vp_in (en f e 4) 5 := hE.2.2.2.2.1.vp (by decide) (by decide)
  have h2 : vp_in (nI c) 5 := vp_in_nI hc (by decide)
  unfold w_X8_reasonAgainstMove whyM
  simp only [hR.e4 he, hR.e7 he, hR.e2 he, c_isSealed hR hE.c.2, rs_tn (show c < 2147483648 by omega), c_isSealed hR hc, c_roomLeft hR hI hi, h1, h2, true_and]
  by_cases b1 : en f e 4 = nI c
  · simp only [b1, not_true_eq_false, not_false_eq_true, false_implies, true_implies, true_and, and_true, forall_eq, if_true, if_false, reduceIte]
  · by_cases b2 : f (10 + (en f e 4).toNatClampNeg) ≤ 0
    · by_cases b3 : en f e 7 = 0
      · simp only [b1, b2, b3, not_true_eq_false, not_false_eq_true, false_implies, true_implies, true_and, and_true, forall_eq, if_true, if_false, reduceIte]
      · by_cases b4 : f (10 + c) ≤ 0
        · by_cases b5 : en f e 2 ≤ roomF f (nI c) <;> simp only [b1, b2, b3, b4, b5, not_true_eq_false, not_false_eq_true, false_implies, true_implies, true_and, and_true, forall_eq, if_true, if_false, reduceIte]
        · simp only [b1, b2, b3, b4, z10, not_true_eq_false, not_false_eq_true, false_implies, true_implies, true_and, and_true, forall_eq, if_true, if_false, reduceIte]
    · simp only [b1, b2, z10, not_true_eq_false, not_false_eq_true, false_implies, true_implies, true_and, and_true, forall_eq, if_true, if_false, reduceIte]
def whyD (f : Nat → Int32) (r : Nat) (w : Int32) : Int32 := if f 4 ≤ 0 then (if f 0 - rc f r 3 ≤ 60 then (if w ≤ rc f r 1 then 0 else 3) else 2) else 1
theorem c_whyD (hR : RS m i f) {r : Nat} (hr : r < mr f) (w : Int32) (Q : Int32 → Prop) : w_X8_reasonAgainstDrawback i (m.2 8 i r) w m Q ↔ Q (whyD f r w) := by
  unfold w_X8_reasonAgainstDrawback whyD
  simp only [hR.r3 hr, hR.r1 hr, hR.debt, hR.day]
  by_cases b1 : f 4 ≤ 0
  · by_cases b2 : f 0 - rc f r 3 ≤ 60
    · by_cases b3 : w ≤ rc f r 1 <;> simp only [b1, b2, b3, not_true_eq_false, not_false_eq_true, false_implies, true_implies, true_and, and_true, forall_eq, if_true, if_false, reduceIte]
    · simp only [b1, b2, not_true_eq_false, not_false_eq_true, false_implies, true_implies, true_and, and_true, forall_eq, if_true, if_false, reduceIte]
  · simp only [b1, not_true_eq_false, not_false_eq_true, false_implies, true_implies, true_and, and_true, forall_eq, if_true, if_false, reduceIte]
def canJ (f : Nat → Int32) (e d : Nat) : Prop := en f e 1 = en f d 1 ∧ en f e 4 = en f d 4 ∧ f (10 + (en f e 4).toNatClampNeg) ≤ 0 ∧ ¬ en f e 7 = 0 ∧ ¬ en f d 7 = 0 ∧ ¬ 999 < en f e 2 + en f d 2
theorem c_canJoin (hR : RS m i f) (hI : Inv a s f) {e d : Nat} (he : e < mo f) (hd : d < mo f) (Q : Int32 → Prop) : w_X8_canJoin i (m.2 7 i e) (m.2 7 i d) m Q ↔ (canJ f e d ∧ Q 1) ∨ (¬ canJ f e d ∧ Q 0) := by
  have hE := hI.ent e he
  have h1 : vp_in (en f e 4) 5 := hE.2.2.2.2.1.vp (by decide) (by decide)
  have h1' : en f e 4 = en f d 4 → vp_in (en f d 4) 5 := fun q => q ▸ h1
  unfold w_X8_canJoin canJ
  simp only [hR.e1 he, hR.e1 hd, hR.e4 he, hR.e4 hd, hR.e7 he, hR.e7 hd, hR.e2 he, hR.e2 hd, c_isSealed hR hE.c.2, h1, true_and]
  by_cases b1 : en f e 1 = en f d 1
  · by_cases b2 : en f e 4 = en f d 4
    · by_cases b3 : f (10 + (en f e 4).toNatClampNeg) ≤ 0
      · by_cases b4 : en f e 7 = 0
        · simp [b1, b2, b3, b4, show f (10 + (en f d 4).toNatClampNeg) ≤ 0 from b2 ▸ b3]
        · by_cases b5 : en f d 7 = 0
          · simp [b1, b2, b4, b5, show f (10 + (en f d 4).toNatClampNeg) ≤ 0 from b2 ▸ b3]
          · by_cases b6 : 999 < en f e 2 + en f d 2 <;> simp [b1, b2, b4, b5, b6, show f (10 + (en f d 4).toNatClampNeg) ≤ 0 from b2 ▸ b3]
      · have b3' : ¬ f (10 + (en f d 4).toNatClampNeg) ≤ 0 := b2 ▸ b3
        simp [b1, b2, b3']
    · simp [b1, b2]
  · simp [b1]
end SEM2

