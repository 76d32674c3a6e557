section SEM9
variable {a s : Nat} {mm : Mm}
theorem en_lo (f : Nat → Int32) {e q J : Nat} (v : Int32) (h : J < 118) : en (up f J v) e q = en f e q := en_up f v (by omega)
theorem en_ot (f : Nat → Int32) {e q q' : Nat} (v : Int32) (hq : q < 8) (hq' : q' < 8) (h : ¬ q = q') : en (up f (118 + 8 * e + q') v) e q = en f e q := en_up f v (by omega)
theorem en_oe (f : Nat → Int32) {e e' q q' : Nat} (v : Int32) (hq : q < 8) (hq' : q' < 8) (h : ¬ e = e') : en (up f (118 + 8 * e' + q') v) e q = en f e q := en_up f v (by omega)
theorem en_tot (f : Nat → Int32) {e q k p : Nat} (w : Int32) (hk : k < 6) (hp : p < 6) : en (totF f k p w) e q = en f e q := en_lo f _ (by omega)
theorem files_hi (f : Nat → Int32) (h12 : mr f ≤ 12) {kd w d : Int32} {k : Nat} (hk : 117 ≤ k ∨ k < 68) : filesF f kd w d k = f k := by
  unfold filesF mr1
  have : (if mr f < 12 then mr f + 1 else mr f) ≤ 12 := by split <;> omega
  rw [if_neg (by omega), if_neg (by omega), if_neg (by omega), if_neg (by omega), if_neg (by omega), if_neg (by omega)]
theorem en_files (f : Nat → Int32) (h12 : mr f ≤ 12) {kd w d : Int32} {e q : Nat} : en (filesF f kd w d) e q = en f e q := files_hi f h12 (by omega)
theorem mr_le {f : Nat → Int32} (h : rng (f 68) 12) : mr f ≤ 12 := h.2
theorem m_totalE {f : Nat → Int32} {e : Nat} (hE : EI f e) {p : Nat} (hp : p < 6) (w : Int32) (mm : Mm) (Q : Mm → Prop) : w_X10_total (en f e 1) (nI p) w mm Q ↔ Q (st mm (totF (mm.1 32 1) (knd f e) p w)) := by
  rw [hE.k.1]
  exact m_total hE.k.2 hp w mm Q
theorem m_totalE0 {f : Nat → Int32} {e : Nat} (hE : EI f e) (w : Int32) (mm : Mm) (Q : Mm → Prop) : w_X10_total (en f e 1) 0 w mm Q ↔ Q (st mm (totF (mm.1 32 1) (knd f e) 0 w)) := m_totalE hE (p := 0) (by decide) w mm Q
theorem m_totalE1 {f : Nat → Int32} {e : Nat} (hE : EI f e) (w : Int32) (mm : Mm) (Q : Mm → Prop) : w_X10_total (en f e 1) 1 w mm Q ↔ Q (st mm (totF (mm.1 32 1) (knd f e) 1 w)) := m_totalE hE (p := 1) (by decide) w mm Q
theorem m_totalE2 {f : Nat → Int32} {e : Nat} (hE : EI f e) (w : Int32) (mm : Mm) (Q : Mm → Prop) : w_X10_total (en f e 1) 2 w mm Q ↔ Q (st mm (totF (mm.1 32 1) (knd f e) 2 w)) := m_totalE hE (p := 2) (by decide) w mm Q
theorem m_totalE3 {f : Nat → Int32} {e : Nat} (hE : EI f e) (w : Int32) (mm : Mm) (Q : Mm → Prop) : w_X10_total (en f e 1) 3 w mm Q ↔ Q (st mm (totF (mm.1 32 1) (knd f e) 3 w)) := m_totalE hE (p := 3) (by decide) w mm Q
theorem m_totalE4 {f : Nat → Int32} {e : Nat} (hE : EI f e) (w : Int32) (mm : Mm) (Q : Mm → Prop) : w_X10_total (en f e 1) 4 w mm Q ↔ Q (st mm (totF (mm.1 32 1) (knd f e) 4 w)) := m_totalE hE (p := 4) (by decide) w mm Q
theorem m_totalE5 {f : Nat → Int32} {e : Nat} (hE : EI f e) (w : Int32) (mm : Mm) (Q : Mm → Prop) : w_X10_total (en f e 1) 5 w mm Q ↔ Q (st mm (totF (mm.1 32 1) (knd f e) 5 w)) := m_totalE hE (p := 5) (by decide) w mm Q
def wdF (f : Nat → Int32) (e : Nat) (w : Int32) : Nat → Int32 := totF (filesF (up (up f 3 (f 3 - dutyPF f e w)) 7 (f 7 + dutyPF f e w)) (en f e 1) w (dutyPF f e w)) (knd f e) 1 w
def withdrawF (f : Nat → Int32) (e : Nat) (w : Int32) : Nat → Int32 := goesF (wdF f e w) e w
theorem wd_hi (f : Nat → Int32) (h12 : mr f ≤ 12) {e : Nat} {w : Int32} (hk : knd f e < 6) {k : Nat} (h : 117 ≤ k) : wdF f e w k = f k := by
  unfold wdF totF
  rw [up_ne _ _ (by omega), files_hi _ (by rw [mr_up _ _ (by omega), mr_up _ _ (by omega)]; exact h12) (by omega), up_ne _ _ (by omega), up_ne _ _ (by omega)]
theorem m_withdrawOn (hI : Inv a s (mm.1 32 1)) {e : Nat} (he : e < mo (mm.1 32 1)) (w : Int32) (Q : Int32 → Mm → Prop) : w_X10_withdrawOn (nI e) w mm Q ↔ Q (dutyPF (mm.1 32 1) e w) (st mm (withdrawF (mm.1 32 1) e w)) := by
  have h6 : e < 16 := Nat.lt_of_lt_of_le he hI.mo16
  have hE := hI.ent e he
  have h12 := mr_le hI.recs
  have hhi := fun k (h : 117 ≤ k) => wd_hi (mm.1 32 1) h12 (w := w) hE.k.2 h
  unfold w_X10_withdrawOn withdrawF
  have hf := m_files (mm := st mm (up (up (mm.1 32 1) 3 (mm.1 32 1 3 - dutyPF (mm.1 32 1) e w)) 7 (mm.1 32 1 7 + dutyPF (mm.1 32 1) e w))) (by
    rw [st_now, up_ne _ _ (by decide), up_ne _ _ (by decide)]
    exact hI.recs)
  simp only [st_now, st_st] at hf
  have e7 : up (mm.1 32 1) 3 (mm.1 32 1 3 - dutyPF (mm.1 32 1) e w) 7 = mm.1 32 1 7 := up_ne _ _ (by decide)
  have h12b : mr (up (up (mm.1 32 1) 3 (mm.1 32 1 3 - dutyPF (mm.1 32 1) e w)) 7 (mm.1 32 1 7 + dutyPF (mm.1 32 1) e w)) ≤ 12 := by
    rw [mr_up _ _ (by decide), mr_up _ _ (by decide)]
    exact h12
  have hg := m_goes (mm := st mm (wdF (mm.1 32 1) e w)) (e := e) (w := w) (by rw [st_now, hhi _ (by omega)]; exact hI.opn) (by
    rw [st_now]
    unfold mo
    rw [hhi _ (by omega)]
    exact he) (by
    rw [st_now]
    unfold en
    rw [hhi _ (by omega)]
    exact hE.w0)
  simp only [st_now, st_st] at hg
  simp only [m_dutyPart h6 hE, forall_eq, st_sI, st_now, st_st, e7, m_of1 h6, en_lo _ _ (show 7 < 118 by decide), en_lo _ _ (show 3 < 118 by decide), hf, en_files _ h12b, m_totalE1 hE]
  exact hg _
def sendF (f : Nat → Int32) (e : Nat) (w : Int32) : Nat → Int32 := goesF (totF f (knd f e) 2 w) e w
theorem m_sendOn (hI : Inv a s (mm.1 32 1)) {e : Nat} (he : e < mo (mm.1 32 1)) (w : Int32) (Q : Int32 → Mm → Prop) : w_X10_sendOn (nI e) w mm Q ↔ Q (en (mm.1 32 1) e 2 - w) (st mm (sendF (mm.1 32 1) e w)) := by
  have h6 : e < 16 := Nat.lt_of_lt_of_le he hI.mo16
  have hE := hI.ent e he
  have hk := hE.k.2
  unfold w_X10_sendOn sendF
  have hg := m_goes (mm := st mm (totF (mm.1 32 1) (knd (mm.1 32 1) e) 2 w)) (e := e) (w := w) (by rw [st_now]; unfold totF; rw [up_ne _ _ (by omega)]; exact hI.opn) (by rw [st_now]; unfold totF; rw [mo_up _ _ (by omega)]; exact he) (by rw [st_now, en_tot _ _ hk (by decide)]; exact hE.w0)
  simp only [st_now, st_st] at hg
  simp only [m_of2 h6, m_of1 h6, forall_eq, m_totalE2 hE, hg]
def drawF (f : Nat → Int32) (r : Nat) (w : Int32) : Nat → Int32 := up (up (totF (up (up f 3 (f 3 + backF f r w)) 9 (f 9 + backF f r w)) (rc f r 0).toNatClampNeg 5 w) (69 + 4 * r + 1) (rc f r 1 - w)) (69 + 4 * r + 2) (rc f r 2 - partF f r w)
theorem rcix {r q : Nat} (hr : r < 12) (hq : q < 4) : ((69 : Int32) + 4 * nI r + nI q).toNatClampNeg = 69 + 4 * r + q ∧ vp_in ((69 : Int32) + 4 * nI r + nI q) 246 := by
  rw [show (69 : Int32) = nI 69 from rfl, show (4 : Int32) = nI 4 from rfl, pk_mul, nI_add, nI_add, rs_tn (by omega)]
  exact ⟨rfl, vp_in_nI (by omega) (by omega)⟩
theorem rcix0 {r : Nat} (hr : r < 12) : ((69 : Int32) + 4 * nI r).toNatClampNeg = 69 + 4 * r + 0 ∧ vp_in ((69 : Int32) + 4 * nI r) 246 := by
  rw [show (69 : Int32) = nI 69 from rfl, show (4 : Int32) = nI 4 from rfl, pk_mul, nI_add, rs_tn (by omega)]
  exact ⟨rfl, vp_in_nI (by omega) (by omega)⟩
theorem rcix1 {r : Nat} (hr : r < 12) : ((69 : Int32) + 4 * nI r + 1).toNatClampNeg = 69 + 4 * r + 1 ∧ vp_in ((69 : Int32) + 4 * nI r + 1) 246 := rcix hr (q := 1) (by decide)
theorem rcix2 {r : Nat} (hr : r < 12) : ((69 : Int32) + 4 * nI r + 2).toNatClampNeg = 69 + 4 * r + 2 ∧ vp_in ((69 : Int32) + 4 * nI r + 2) 246 := rcix hr (q := 2) (by decide)
theorem m_drawOn (hI : Inv a s (mm.1 32 1)) {r : Nat} (hr : r < mr (mm.1 32 1)) (h0 : ¬ rc (mm.1 32 1) r 1 = 0) (w : Int32) (Q : Int32 → Mm → Prop) : w_X10_drawOn (nI r) w mm Q ↔ Q (backF (mm.1 32 1) r w) (st mm (drawF (mm.1 32 1) r w)) := by
  have h12 := mr_le hI.recs
  have hr12 : r < 12 := by omega
  have hR := hI.rec r hr
  have hk : (rc (mm.1 32 1) r 0).toNatClampNeg < 6 := Nat.lt_succ_of_le hR.1.2
  have e9 : ∀ x, up (mm.1 32 1) 3 x 9 = mm.1 32 1 9 := fun x => up_ne _ _ (by decide)
  have e0 : ∀ x y, up (up (mm.1 32 1) 3 x) 9 y (69 + 4 * r + 0) = rc (mm.1 32 1) r 0 := fun x y => by rw [up_ne _ _ (by omega), up_ne _ _ (by omega)]; rfl
  have e1 : ∀ x y, totF (up (up (mm.1 32 1) 3 x) 9 y) (rc (mm.1 32 1) r 0).toNatClampNeg 5 w (69 + 4 * r + 1) = rc (mm.1 32 1) r 1 := fun x y => by
    unfold totF
    rw [up_ne _ _ (by omega), up_ne _ _ (by omega), up_ne _ _ (by omega)]
    rfl
  have e2 : ∀ x y z, up (totF (up (up (mm.1 32 1) 3 x) 9 y) (rc (mm.1 32 1) r 0).toNatClampNeg 5 w) (69 + 4 * r + 1) z (69 + 4 * r + 2) = rc (mm.1 32 1) r 2 := fun x y z => by
    unfold totF
    rw [up_ne _ _ (by omega), up_ne _ _ (by omega), up_ne _ _ (by omega), up_ne _ _ (by omega)]
    rfl
  have ht := m_total5 hk
  rw [← hR.1.1] at ht
  unfold w_X10_drawOn drawF
  simp only [m_partOf hr12 h0, m_backOf hr12 h0, forall_eq, st_sI, st_now, st_st, e9, rcix0 hr12, rcix1 hr12, rcix2 hr12, e0, ht, e1, e2, true_and]
def moveF (f : Nat → Int32) (e : Nat) (c : Int32) : Nat → Int32 := up f (118 + 8 * e + 4) c
theorem m_room0 {mm : Mm} (ho : rng (mm.1 32 1 117) 16) (c : Int32) (Q : Int32 → Prop) : w_X10_room c mm Q ↔ Q (roomF (mm.1 32 1) c) := by
  unfold w_X10_room roomF
  refine itr_for _ (fun j s => (s, nI j)) (mo (mm.1 32 1)) (fun e s => if en (mm.1 32 1) e 4 = c then s - en (mm.1 32 1) e 2 else s) 2000 _ (fun K j hj => ?_) (fun K => ?_)
  · have he : j < 16 := Nat.lt_of_lt_of_le hj ho.2
    by_cases hc : en (mm.1 32 1) j 4 = c
    · simp only [w_X10_room_B6, mo_lt ho hj, m_of4 he, m_of2 he, hc, nI_1, fo, not_true_eq_false, not_false_eq_true, false_implies, true_implies, true_and, and_true, forall_eq, if_true, if_false, reduceIte]
    · simp only [w_X10_room_B6, mo_lt ho hj, m_of4 he, m_of2 he, hc, nI_1, fo, Int32.sub_zero, not_true_eq_false, not_false_eq_true, false_implies, true_implies, true_and, and_true, forall_eq, if_true, if_false, reduceIte]
  · simp only [w_X10_room_B6, mo_le ho, not_true_eq_false, not_false_eq_true, false_implies, true_implies, true_and, and_true, forall_eq, if_true, if_false, reduceIte]
theorem m_moveOn (hI : Inv a s (mm.1 32 1)) {e : Nat} (he : e < mo (mm.1 32 1)) (c : Int32) (Q : Int32 → Mm → Prop) : w_X10_moveOn (nI e) c mm Q ↔ Q (roomF (moveF (mm.1 32 1) e c) c) (st mm (moveF (mm.1 32 1) e c)) := by
  have h6 : e < 16 := Nat.lt_of_lt_of_le he hI.mo16
  unfold w_X10_moveOn moveF
  have hr := m_room0 (mm := st mm (up (mm.1 32 1) (118 + 8 * e + 4) c)) (by rw [st_now, up_ne _ _ (by omega)]; exact hI.opn) c
  rw [st_now] at hr
  simp only [m_put4 h6, hr]
def wgP (f : Nat → Int32) (x : Int32) : Int32 := if x < f 3 then x else f 3
def wgF (f : Nat → Int32) (e : Nat) (w : Int32) : Nat → Int32 :=
  up (up (totF (totF (up (up (up f 3 (f 3 - wgP f (chargeF f e (lossF f e w)))) 4 (f 4 + (chargeF f e (lossF f e w) - wgP f (chargeF f e (lossF f e w))))) 8 (f 8 + chargeF f e (lossF f e w))) (knd f e) 3 (en f e 2 - w - lossF f e w)) (knd f e) 4 (lossF f e w)) (118 + 8 * e + 7) 1) (118 + 8 * e + 6) 0
def weighF (f : Nat → Int32) (e : Nat) (w : Int32) : Nat → Int32 := goesF (wgF f e w) e (en f e 2 - w)
theorem wg_at (f : Nat → Int32) {e : Nat} {w : Int32} (hk : knd f e < 6) {k : Nat} (h : k = 117 ∨ (118 + 8 * e ≤ k ∧ k < 118 + 8 * e + 6)) : wgF f e w k = f k := by
  unfold wgF totF
  rw [up_ne _ _ (by omega), up_ne _ _ (by omega), up_ne _ _ (by omega), up_ne _ _ (by omega), up_ne _ _ (by omega), up_ne _ _ (by omega), up_ne _ _ (by omega)]
theorem m_weighOn (hI : Inv a s (mm.1 32 1)) {e : Nat} (he : e < mo (mm.1 32 1)) {w : Int32} (hw : rng w (en (mm.1 32 1) e 2).toNatClampNeg) (Q : Int32 → Mm → Prop) : w_X10_weighOn (nI e) w mm Q ↔ Q (chargeF (mm.1 32 1) e (lossF (mm.1 32 1) e w)) (st mm (weighF (mm.1 32 1) e w)) := by
  have h6 : e < 16 := Nat.lt_of_lt_of_le he hI.mo16
  have hE := hI.ent e he
  have hk := hE.k.2
  unfold w_X10_weighOn
  simp only [m_chargeBy h6 hE hI.day hw, m_lostBy h6 hE hI.day hw, m_of2 h6, forall_eq]
  have key : ∀ y, y = wgP (mm.1 32 1) (chargeF (mm.1 32 1) e (lossF (mm.1 32 1) e w)) → (w_X10_weighOn_J45 (nI e) mm Q (chargeF (mm.1 32 1) e (lossF (mm.1 32 1) e w)) (lossF (mm.1 32 1) e w) (en (mm.1 32 1) e 2 - w) y ↔ Q (chargeF (mm.1 32 1) e (lossF (mm.1 32 1) e w)) (st mm (weighF (mm.1 32 1) e w))) := by
    intro y hy
    subst hy
    unfold w_X10_weighOn_J45 weighF
    have hg := m_goes (mm := st mm (wgF (mm.1 32 1) e w)) (e := e) (w := en (mm.1 32 1) e 2 - w) (by rw [st_now, wg_at _ hk (by omega)]; exact hI.opn) (by
      rw [st_now]
      unfold mo
      rw [wg_at _ hk (by omega)]
      exact he) (by
      rw [st_now]
      unfold en
      rw [wg_at _ hk (by omega)]
      exact hE.w0)
    simp only [st_now, st_st] at hg
    have e4 : ∀ x, up (mm.1 32 1) 3 x 4 = mm.1 32 1 4 := fun x => up_ne _ _ (by decide)
    have e8 : ∀ x y, up (up (mm.1 32 1) 3 x) 4 y 8 = mm.1 32 1 8 := fun x y => by rw [up_ne _ _ (by decide), up_ne _ _ (by decide)]
    simp only [forall_eq, st_sI, st_now, st_st, e4, e8, m_of1 h6, en_lo _ _ (show 3 < 118 by decide), en_lo _ _ (show 4 < 118 by decide), en_lo _ _ (show 8 < 118 by decide), m_totalE3 hE, m_totalE4 hE, en_tot _ _ hk (show 3 < 6 by decide), m_put7 h6, m_put6 h6]
    exact hg _
  have e1 := @Int32.le_iff_toInt_le (mm.1 32 1 3) (chargeF (mm.1 32 1) e (lossF (mm.1 32 1) e w))
  have e2 := @Int32.lt_iff_toInt_lt (chargeF (mm.1 32 1) e (lossF (mm.1 32 1) e w)) (mm.1 32 1 3)
  by_cases h : mm.1 32 1 3 ≤ chargeF (mm.1 32 1) e (lossF (mm.1 32 1) e w)
  · have h' : ¬ chargeF (mm.1 32 1) e (lossF (mm.1 32 1) e w) < mm.1 32 1 3 := fun q => by have := e1.mp h; have := e2.mp q; omega
    simp only [h, not_true_eq_false, not_false_eq_true, false_implies, true_implies, true_and, and_true, forall_eq, if_true, if_false, reduceIte]
    exact key _ (by unfold wgP; rw [if_neg h'])
  · have h' : chargeF (mm.1 32 1) e (lossF (mm.1 32 1) e w) < mm.1 32 1 3 := e2.mpr (by have := mt e1.mpr h; omega)
    simp only [h, not_true_eq_false, not_false_eq_true, false_implies, true_implies, true_and, and_true, forall_eq, if_true, if_false, reduceIte]
    exact key _ (by unfold wgP; rw [if_pos h'])
def lockF (f : Nat → Int32) (c : Nat) : Nat → Int32 := up (up (up f 2 (f 2 + 1)) (10 + c) (f 2 + 1)) (15 + c) 0
theorem cix10 {c : Nat} (hc : c < 5) : ((10 : Int32) + nI c).toNatClampNeg = 10 + c ∧ vp_in ((10 : Int32) + nI c) 246 := by
  rw [show (10 : Int32) = nI 10 from rfl, nI_add, rs_tn (by omega)]
  exact ⟨rfl, vp_in_nI (by omega) (by omega)⟩
theorem cix15 {c : Nat} (hc : c < 5) : ((15 : Int32) + nI c).toNatClampNeg = 15 + c ∧ vp_in ((15 : Int32) + nI c) 246 := by
  rw [show (15 : Int32) = nI 15 from rfl, nI_add, rs_tn (by omega)]
  exact ⟨rfl, vp_in_nI (by omega) (by omega)⟩
theorem m_lockOn {c : Nat} (hc : c < 5) (mm : Mm) (Q : Int32 → Mm → Prop) : w_X10_lockOn (nI c) mm Q ↔ Q (mm.1 32 1 2 + 1) (st mm (lockF (mm.1 32 1) c)) := by
  unfold w_X10_lockOn lockF
  have e2 : ∀ x y z, up (up (up (mm.1 32 1) 2 x) (10 + c) y) (15 + c) z 2 = x := fun x y z => by rw [up_ne _ _ (by omega), up_ne _ _ (by omega), up_eq]
  simp only [cix10 hc, cix15 hc, forall_eq, st_sI, st_now, st_st, up_eq, e2, true_and]
def breakF (f : Nat → Int32) (c : Nat) : Nat → Int32 := up f (15 + c) 1
theorem m_breakOn {c : Nat} (hc : c < 5) (mm : Mm) (Q : Int32 → Mm → Prop) : w_X10_breakOn (nI c) mm Q ↔ Q (mm.1 32 1 (10 + c)) (st mm (breakF (mm.1 32 1) c)) := by
  unfold w_X10_breakOn breakF
  have e2 : ∀ x, up (mm.1 32 1) (15 + c) x (10 + c) = mm.1 32 1 (10 + c) := fun x => up_ne _ _ (by omega)
  simp only [cix10 hc, cix15 hc, forall_eq, st_sI, st_now, e2, true_and]
def pyP (f : Nat → Int32) (x : Int32) : Int32 := if x < f 4 then x else f 4
def payF (f : Nat → Int32) (x : Int32) : Nat → Int32 := up (up (up f 4 (f 4 - pyP f x)) 3 (f 3 + (x - pyP f x))) 6 (f 6 + x)
theorem m_payOn (x : Int32) (mm : Mm) (Q : Int32 → Mm → Prop) : w_X10_payOn x mm Q ↔ Q (mm.1 32 1 3 + (x - pyP (mm.1 32 1) x)) (st mm (payF (mm.1 32 1) x)) := by
  have key : ∀ y, y = pyP (mm.1 32 1) x → (w_X10_payOn_J20 x mm Q y ↔ Q (mm.1 32 1 3 + (x - pyP (mm.1 32 1) x)) (st mm (payF (mm.1 32 1) x))) := by
    intro y hy
    subst hy
    unfold w_X10_payOn_J20 payF
    have e3 : ∀ x, up (mm.1 32 1) 4 x 3 = mm.1 32 1 3 := fun x => up_ne _ _ (by decide)
    have e6 : ∀ x y, up (up (mm.1 32 1) 4 x) 3 y 6 = mm.1 32 1 6 := fun x y => by rw [up_ne _ _ (by decide), up_ne _ _ (by decide)]
    have e33 : ∀ x y z, up (up (up (mm.1 32 1) 4 x) 3 y) 6 z 3 = y := fun x y z => by rw [up_ne _ _ (by decide), up_eq]
    simp only [forall_eq, st_sI, st_now, st_st, e3, e6, e33]
  unfold w_X10_payOn
  have e1 := @Int32.le_iff_toInt_le (mm.1 32 1 4) x
  have e2 := @Int32.lt_iff_toInt_lt x (mm.1 32 1 4)
  by_cases h : mm.1 32 1 4 ≤ x
  · have h' : ¬ x < mm.1 32 1 4 := fun q => by have := e1.mp h; have := e2.mp q; omega
    simp only [h, not_true_eq_false, not_false_eq_true, false_implies, true_implies, true_and, and_true, forall_eq, if_true, if_false, reduceIte]
    exact key _ (by unfold pyP; rw [if_neg h'])
  · have h' : x < mm.1 32 1 4 := e2.mpr (by have := mt e1.mpr h; omega)
    simp only [h, not_true_eq_false, not_false_eq_true, false_implies, true_implies, true_and, and_true, forall_eq, if_true, if_false, reduceIte]
    exact key _ (by unfold pyP; rw [if_pos h'])
/-- the account after a deposit -/
def afterF (f : Nat → Int32) (x : Int32) : Int32 := f 3 + x - pyP f x
theorem after_eq (f : Nat → Int32) (x : Int32) : f 3 + (x - pyP f x) = afterF f x := by
  unfold afterF
  rw [Int32.sub_eq_add_neg, Int32.sub_eq_add_neg, Int32.add_assoc]
theorem m_canPay (x : Int32) (mm : Mm) (Q : Int32 → Prop) : w_X10_canPay x mm Q ↔ if afterF (mm.1 32 1) x ≤ 99999 then Q 1 else Q 0 := by
  have key : ∀ y, mm.1 32 1 3 + y = afterF (mm.1 32 1) x → (w_X10_canPay_J22 mm Q y ↔ if afterF (mm.1 32 1) x ≤ 99999 then Q 1 else Q 0) := by
    intro y hy
    unfold w_X10_canPay_J22
    rw [hy]
    have e1 := @Int32.le_iff_toInt_le (afterF (mm.1 32 1) x) 99999
    have e2 := @Int32.lt_iff_toInt_lt 99999 (afterF (mm.1 32 1) x)
    by_cases h : afterF (mm.1 32 1) x ≤ 99999
    · have h' : ¬ 99999 < afterF (mm.1 32 1) x := fun q => by have := e1.mp h; have := e2.mp q; omega
      simp only [h, h', not_true_eq_false, not_false_eq_true, false_implies, true_implies, true_and, and_true, forall_eq, if_true, if_false, reduceIte]
    · have h' : 99999 < afterF (mm.1 32 1) x := e2.mpr (by have := mt e1.mpr h; omega)
      simp only [h, h', not_true_eq_false, not_false_eq_true, false_implies, true_implies, true_and, and_true, forall_eq, if_true, if_false, reduceIte]
  unfold w_X10_canPay
  have e1 := @Int32.le_iff_toInt_le x (mm.1 32 1 4)
  have e2 := @Int32.lt_iff_toInt_lt x (mm.1 32 1 4)
  by_cases h : x ≤ mm.1 32 1 4
  · simp only [h, not_true_eq_false, not_false_eq_true, false_implies, true_implies, true_and, and_true, forall_eq, if_true, if_false, reduceIte]
    refine key 0 ?_
    unfold afterF pyP
    by_cases h2 : x < mm.1 32 1 4
    · rw [if_pos h2, Int32.add_sub_cancel, Int32.add_zero]
    · rw [if_neg h2]
      have : x = mm.1 32 1 4 := Int32.toInt_inj.mp (by have := e1.mp h; have := mt e2.mpr h2; omega)
      rw [← this, Int32.add_sub_cancel, Int32.add_zero]
  · simp only [h, not_true_eq_false, not_false_eq_true, false_implies, true_implies, true_and, and_true, forall_eq, if_true, if_false, reduceIte]
    refine key _ ?_
    unfold afterF pyP
    have h2 : ¬ x < mm.1 32 1 4 := fun q => by have := e2.mp q; have := mt e1.mpr h; omega
    rw [if_neg h2, Int32.sub_eq_add_neg, Int32.sub_eq_add_neg, Int32.add_assoc]
/-! a chamber is made open -/
def opV (b : Bool) (x : Int32) : Int32 := if b = true then 0 else x
theorem opV1 (x : Int32) : opV true x = 0 := if_pos rfl
theorem opV0 (x : Int32) : opV false x = x := if_neg (by decide)
def opG (b : Bool) (c : Int32) (e : Nat) (z : Int32 × (Nat → Int32)) : Int32 × (Nat → Int32) :=
  if en z.2 e 4 = c then (z.1 + (1 - opV b (en z.2 e 7)), up z.2 (118 + 8 * e + 7) (opV b (en z.2 e 7))) else z
theorem op_at (b : Bool) (c : Int32) (g : Nat → Int32) : ∀ j k, (¬ ∃ e, e < j ∧ k = 118 + 8 * e + 7) → (fo (opG b c) j (0, g)).2 k = g k := by
  intro j
  induction j with
  | zero => intro k _; rfl
  | succ j ih =>
    intro k hk
    show (opG b c j (fo (opG b c) j (0, g))).2 k = g k
    have h1 := ih k (fun ⟨e, h1, h2⟩ => hk ⟨e, by omega, h2⟩)
    generalize fo (opG b c) j (0, g) = z at *
    by_cases h4 : en z.2 j 4 = c
    · rw [show opG b c j z = (z.1 + (1 - opV b (en z.2 j 7)), up z.2 (118 + 8 * j + 7) (opV b (en z.2 j 7))) from if_pos h4]
      show up z.2 (118 + 8 * j + 7) _ k = _
      rw [up_ne _ _ (fun h => hk ⟨j, by omega, h⟩)]
      exact h1
    · rw [show opG b c j z = z from if_neg h4]
      exact h1
def opL (f : Nat → Int32) (c j : Nat) : Int32 × (Nat → Int32) := fo (opG (decide (f (15 + c) = 1)) (nI c)) j (0, up (up f (10 + c) 0) (15 + c) 0)
def opF (f : Nat → Int32) (c : Nat) : Int32 × (Nat → Int32) := opL f c (mo f)
theorem m_openJ88 {e : Nat} (h6 : e < 16) (y6 : Int32) (g : Nat → Int32) (K : Int32 → Int32 → Mm → Prop) (v : Int32) : w_X10_openOn_J88 y6 (nI e) (st mm g) K v ↔ K (y6 + (1 - v)) (nI (e + 1)) (st mm (up g (118 + 8 * e + 7) v)) := by
  unfold w_X10_openOn_J88
  simp only [m_put7 h6, st_now, st_st, m_of7 h6, en_up_e, forall_eq, nI_1]
theorem m_openOn (hI : Inv a s (mm.1 32 1)) {c : Nat} (hc : c < 5) (Q : Int32 → Mm → Prop) : w_X10_openOn (nI c) mm Q ↔ Q (opF (mm.1 32 1) c).1 (st mm (opF (mm.1 32 1) c).2) := by
  unfold w_X10_openOn
  have key : ∀ y : Int32, (¬ y = 0 ↔ mm.1 32 1 (15 + c) = 1) → (w_X10_openOn_J18 (nI c) mm Q y ↔ Q (opF (mm.1 32 1) c).1 (st mm (opF (mm.1 32 1) c).2)) := by
    intro y hy
    unfold w_X10_openOn_J18
    simp only [cix10 hc, cix15 hc, forall_eq, st_sI, st_now, st_st, true_and]
    unfold opF
    have ho : ∀ j, (opL (mm.1 32 1) c j).2 117 = mm.1 32 1 117 := fun j => by
      unfold opL
      rw [op_at _ _ _ _ _ (fun ⟨e, _, h⟩ => by omega), up_ne _ _ (by omega), up_ne _ _ (by omega)]
    refine itr_for (α := Int32 × Int32 × Mm) _ (fun j z => (z.1, nI j, st mm z.2)) (mo (mm.1 32 1)) (opG (decide (mm.1 32 1 (15 + c) = 1)) (nI c)) (0, up (up (mm.1 32 1) (10 + c) 0) (15 + c) 0) _ (fun K j hj => ?_) (fun K => ?_)
    · have he : j < 16 := Nat.lt_of_lt_of_le hj hI.mo16
      have hoj := ho j
      show w_X10_openOn_B44 (nI c) Q y (fun z0 z1 z2 => K (z0, z1, z2)) (opL (mm.1 32 1) c j).1 (nI j) (st mm (opL (mm.1 32 1) c j).2) ↔ K ((opG (decide (mm.1 32 1 (15 + c) = 1)) (nI c) j (opL (mm.1 32 1) c j)).1, nI (j + 1), st mm (opG (decide (mm.1 32 1 (15 + c) = 1)) (nI c) j (opL (mm.1 32 1) c j)).2)
      generalize opL (mm.1 32 1) c j = z at *
      have hlt : (z.2 117 ≤ nI j) = False := by rw [hoj]; exact mo_lt hI.opn hj
      by_cases h4 : en z.2 j 4 = nI c
      · by_cases hb : mm.1 32 1 (15 + c) = 1
        · have hy0 : ¬ y = 0 := hy.mpr hb
          simp only [w_X10_openOn_B44, st_now, hlt, m_of4 he, h4, hy0, m_openJ88 he, opG, opV1, hb, decide_true, not_true_eq_false, not_false_eq_true, false_implies, true_implies, true_and, and_true, forall_eq, if_true, if_false, reduceIte]
        · have hy0 : y = 0 := Classical.byContradiction fun q => hb (hy.mp q)
          simp only [w_X10_openOn_B44, st_now, hlt, m_of4 he, m_of7 he, h4, hy0, m_openJ88 he, opG, opV0, hb, decide_false, Bool.false_eq_true, not_true_eq_false, not_false_eq_true, false_implies, true_implies, true_and, and_true, forall_eq, if_true, if_false, reduceIte]
      · simp only [w_X10_openOn_B44, st_now, hlt, m_of4 he, h4, opG, nI_1, not_true_eq_false, not_false_eq_true, false_implies, true_implies, true_and, and_true, forall_eq, if_true, if_false, reduceIte]
    · have hoj := ho (mo (mm.1 32 1))
      show w_X10_openOn_B44 (nI c) Q y (fun z0 z1 z2 => K (z0, z1, z2)) (opL (mm.1 32 1) c (mo (mm.1 32 1))).1 (nI (mo (mm.1 32 1))) (st mm (opL (mm.1 32 1) c (mo (mm.1 32 1))).2) ↔ _
      generalize opL (mm.1 32 1) c (mo (mm.1 32 1)) = z at *
      have hlt : (z.2 117 ≤ nI (mo (mm.1 32 1))) = True := by rw [hoj]; exact mo_le hI.opn
      simp only [w_X10_openOn_B44, st_now, hlt, not_true_eq_false, not_false_eq_true, false_implies, true_implies, true_and, and_true, forall_eq, if_true, if_false, reduceIte]
  simp only [cix15 hc, true_and]
  by_cases hb : mm.1 32 1 (15 + c) = 1
  · simp only [hb, not_true_eq_false, not_false_eq_true, false_implies, true_implies, true_and, and_true, forall_eq, if_true, if_false, reduceIte]
    exact key 1 (by simp [hb])
  · simp only [hb, not_true_eq_false, not_false_eq_true, false_implies, true_implies, true_and, and_true, forall_eq, if_true, if_false, reduceIte]
    exact key 0 (by simp [hb])
/-! days pass -/
def psG (d : Int32) (e : Nat) (z : Int32 × (Nat → Int32)) : Int32 × (Nat → Int32) :=
  (z.1 + (if en z.2 e 5 ≤ 200 then (if en z.2 e 5 + d ≤ 200 then 0 else 1) else 0), up (up z.2 (118 + 8 * e + 5) (en z.2 e 5 + d)) (118 + 8 * e + 6) (en z.2 e 6 + d))
def psL (f : Nat → Int32) (d : Int32) (j : Nat) : Int32 × (Nat → Int32) := fo (psG d) j (0, f)
def passF (f : Nat → Int32) (d : Int32) : Nat → Int32 := up (psL f d (mo f)).2 0 (f 0 + d)
theorem ps_at (f : Nat → Int32) (d : Int32) : ∀ j k, (psL f d j).2 k = if ∃ e, e < j ∧ (k = 118 + 8 * e + 5 ∨ k = 118 + 8 * e + 6) then f k + d else f k := by
  intro j
  induction j with
  | zero => intro k; rw [if_neg (fun ⟨e, h, _⟩ => by omega)]; rfl
  | succ j ih =>
    intro k
    show (psG d j (psL f d j)).2 k = _
    have e5 := ih (118 + 8 * j + 5)
    have e6 := ih (118 + 8 * j + 6)
    rw [if_neg (fun ⟨e, h1, h2⟩ => by omega)] at e5 e6
    have hk := ih k
    unfold psG en
    show up (up _ _ _) _ _ k = _
    rw [e5, e6]
    by_cases h6 : k = 118 + 8 * j + 6
    · subst h6
      rw [up_eq, if_pos ⟨j, by omega, Or.inr rfl⟩]
    · rw [up_ne _ _ h6]
      by_cases h5 : k = 118 + 8 * j + 5
      · subst h5
        rw [up_eq, if_pos ⟨j, by omega, Or.inl rfl⟩]
      · rw [up_ne _ _ h5, hk]
        by_cases h : ∃ e, e < j ∧ (k = 118 + 8 * e + 5 ∨ k = 118 + 8 * e + 6)
        · rw [if_pos h, if_pos]
          obtain ⟨e, h1, h2⟩ := h
          exact ⟨e, by omega, h2⟩
        · rw [if_neg h, if_neg]
          rintro ⟨e, h1, h2⟩
          by_cases hej : e = j
          · subst hej
            rcases h2 with h2 | h2
            · exact h5 h2
            · exact h6 h2
          · exact h ⟨e, by omega, h2⟩
theorem m_passJ {e : Nat} (h6 : e < 16) (d y1 : Int32) (g : Nat → Int32) (K : Int32 → Int32 → Mm → Prop) (v : Int32) : w_X10_passOn_J47 d y1 (nI e) (st mm g) K v ↔ K (y1 + v) (nI (e + 1)) (st mm (up (up g (118 + 8 * e + 5) (en g e 5 + d)) (118 + 8 * e + 6) (en g e 6 + d))) := by
  unfold w_X10_passOn_J47
  simp only [m_of5 h6, m_of6 h6, m_put5 h6, m_put6 h6, st_now, st_st, forall_eq, nI_1, en_ot g (e := e) (q := 6) (q' := 5) _ (by decide) (by decide) (by decide)]
theorem m_passOn (hI : Inv a s (mm.1 32 1)) (d : Int32) (Q : Int32 → Mm → Prop) : w_X10_passOn d mm Q ↔ Q (psL (mm.1 32 1) d (mo (mm.1 32 1))).1 (st mm (passF (mm.1 32 1) d)) := by
  unfold w_X10_passOn
  have ho : ∀ j, (psL (mm.1 32 1) d j).2 117 = mm.1 32 1 117 := fun j => by
    rw [ps_at, if_neg (fun ⟨e, _, h⟩ => by omega)]
  rw [show ((0 : Int32), (0 : Int32), mm) = ((0 : Int32), nI 0, st mm (mm.1 32 1)) by rw [st_self]; rfl]
  refine itr_for (α := Int32 × Int32 × Mm) _ (fun j z => (z.1, nI j, st mm z.2)) (mo (mm.1 32 1)) (psG d) (0, mm.1 32 1) _ (fun K j hj => ?_) (fun K => ?_)
  · have he : j < 16 := Nat.lt_of_lt_of_le hj hI.mo16
    have hoj := ho j
    show w_X10_passOn_B4 d Q (fun z0 z1 z2 => K (z0, z1, z2)) (psL (mm.1 32 1) d j).1 (nI j) (st mm (psL (mm.1 32 1) d j).2) ↔ K ((psG d j (psL (mm.1 32 1) d j)).1, nI (j + 1), st mm (psG d j (psL (mm.1 32 1) d j)).2)
    generalize psL (mm.1 32 1) d j = z at *
    have hlt : (z.2 117 ≤ nI j) = False := by rw [hoj]; exact mo_lt hI.opn hj
    have hil := m_isLate he (st mm z.2)
    rw [st_now] at hil
    by_cases h5 : en z.2 j 5 ≤ 200
    · by_cases h6 : en z.2 j 5 + d ≤ 200 <;> simp only [w_X10_passOn_B4, st_now, hlt, hil, h5, h6, m_of5 he, m_passJ he, psG, not_true_eq_false, not_false_eq_true, false_implies, true_implies, true_and, and_true, forall_eq, if_true, if_false, reduceIte]
    · simp only [w_X10_passOn_B4, st_now, hlt, hil, h5, m_passJ he, psG, z10, not_true_eq_false, not_false_eq_true, false_implies, true_implies, true_and, and_true, forall_eq, if_true, if_false, reduceIte]
  · have hoj := ho (mo (mm.1 32 1))
    have h0 : (psL (mm.1 32 1) d (mo (mm.1 32 1))).2 0 = mm.1 32 1 0 := by rw [ps_at, if_neg (fun ⟨e, _, h⟩ => by omega)]
    unfold passF
    show w_X10_passOn_B4 d Q (fun z0 z1 z2 => K (z0, z1, z2)) (psL (mm.1 32 1) d (mo (mm.1 32 1))).1 (nI (mo (mm.1 32 1))) (st mm (psL (mm.1 32 1) d (mo (mm.1 32 1))).2) ↔ _
    generalize psL (mm.1 32 1) d (mo (mm.1 32 1)) = z at *
    have hlt : (z.2 117 ≤ nI (mo (mm.1 32 1))) = True := by rw [hoj]; exact mo_le hI.opn
    simp only [w_X10_passOn_B4, st_now, st_st, st_sI, hlt, h0, not_true_eq_false, not_false_eq_true, false_implies, true_implies, true_and, and_true, forall_eq, if_true, if_false, reduceIte]
end SEM9

