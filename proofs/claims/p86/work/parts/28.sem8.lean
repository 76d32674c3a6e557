section SEM8
variable {a s : Nat} {mm : Mm} {Q : Int32 → Mm → Prop} {Qm : Mm → Prop}
theorem m_put {e q : Nat} (he : e < 16) (hq : q < 8) (v : Int32) (mm : Mm) (Q : Mm → Prop) : w_X10_put (nI e) (nI q) v mm Q ↔ Q (st mm (up (mm.1 32 1) (118 + 8 * e + q) v)) := by
  unfold w_X10_put
  rw [show (118 : Int32) = nI 118 from rfl, ix3, nI_add, rs_tn (by omega)]
  have hv : vp_in (nI (118 + 8 * e + q)) 246 := vp_in_nI (by omega) (by omega)
  simp only [hv, forall_eq, true_and, st_sI]
theorem m_put0 {e : Nat} (he : e < 16) (v : Int32) (mm : Mm) (Q : Mm → Prop) : w_X10_put (nI e) 0 v mm Q ↔ Q (st mm (up (mm.1 32 1) (118 + 8 * e + 0) v)) := m_put (q := 0) he (by decide) v mm Q
theorem m_put1 {e : Nat} (he : e < 16) (v : Int32) (mm : Mm) (Q : Mm → Prop) : w_X10_put (nI e) 1 v mm Q ↔ Q (st mm (up (mm.1 32 1) (118 + 8 * e + 1) v)) := m_put (q := 1) he (by decide) v mm Q
theorem m_put2 {e : Nat} (he : e < 16) (v : Int32) (mm : Mm) (Q : Mm → Prop) : w_X10_put (nI e) 2 v mm Q ↔ Q (st mm (up (mm.1 32 1) (118 + 8 * e + 2) v)) := m_put (q := 2) he (by decide) v mm Q
theorem m_put3 {e : Nat} (he : e < 16) (v : Int32) (mm : Mm) (Q : Mm → Prop) : w_X10_put (nI e) 3 v mm Q ↔ Q (st mm (up (mm.1 32 1) (118 + 8 * e + 3) v)) := m_put (q := 3) he (by decide) v mm Q
theorem m_put4 {e : Nat} (he : e < 16) (v : Int32) (mm : Mm) (Q : Mm → Prop) : w_X10_put (nI e) 4 v mm Q ↔ Q (st mm (up (mm.1 32 1) (118 + 8 * e + 4) v)) := m_put (q := 4) he (by decide) v mm Q
theorem m_put5 {e : Nat} (he : e < 16) (v : Int32) (mm : Mm) (Q : Mm → Prop) : w_X10_put (nI e) 5 v mm Q ↔ Q (st mm (up (mm.1 32 1) (118 + 8 * e + 5) v)) := m_put (q := 5) he (by decide) v mm Q
theorem m_put6 {e : Nat} (he : e < 16) (v : Int32) (mm : Mm) (Q : Mm → Prop) : w_X10_put (nI e) 6 v mm Q ↔ Q (st mm (up (mm.1 32 1) (118 + 8 * e + 6) v)) := m_put (q := 6) he (by decide) v mm Q
theorem m_put7 {e : Nat} (he : e < 16) (v : Int32) (mm : Mm) (Q : Mm → Prop) : w_X10_put (nI e) 7 v mm Q ↔ Q (st mm (up (mm.1 32 1) (118 + 8 * e + 7) v)) := m_put (q := 7) he (by decide) v mm Q
def totF (f : Nat → Int32) (k q : Nat) (w : Int32) : Nat → Int32 := up f (32 + 6 * k + q) (f (32 + 6 * k + q) + w)
theorem m_total {k q : Nat} (hk : k < 6) (hq : q < 6) (w : Int32) (mm : Mm) (Q : Mm → Prop) : w_X10_total (nI k) (nI q) w mm Q ↔ Q (st mm (totF (mm.1 32 1) k q w)) := by
  unfold w_X10_total totF
  have h := tx (mm.1 32 1) hk hq
  have h2 : ((32 : Int32) + 6 * nI k + nI q).toNatClampNeg = 32 + 6 * k + q := by
    rw [show (32 : Int32) = nI 32 from rfl, show (6 : Int32) = nI 6 from rfl, pk_mul, nI_add, nI_add, rs_tn (by omega)]
  simp only [h.2, h2, forall_eq, true_and, st_sI]
theorem m_total0 {k : Nat} (hk : k < 6) (w : Int32) (mm : Mm) (Q : Mm → Prop) : w_X10_total (nI k) 0 w mm Q ↔ Q (st mm (totF (mm.1 32 1) k 0 w)) := m_total (q := 0) hk (by decide) w mm Q
theorem m_total1 {k : Nat} (hk : k < 6) (w : Int32) (mm : Mm) (Q : Mm → Prop) : w_X10_total (nI k) 1 w mm Q ↔ Q (st mm (totF (mm.1 32 1) k 1 w)) := m_total (q := 1) hk (by decide) w mm Q
theorem m_total2 {k : Nat} (hk : k < 6) (w : Int32) (mm : Mm) (Q : Mm → Prop) : w_X10_total (nI k) 2 w mm Q ↔ Q (st mm (totF (mm.1 32 1) k 2 w)) := m_total (q := 2) hk (by decide) w mm Q
theorem m_total3 {k : Nat} (hk : k < 6) (w : Int32) (mm : Mm) (Q : Mm → Prop) : w_X10_total (nI k) 3 w mm Q ↔ Q (st mm (totF (mm.1 32 1) k 3 w)) := m_total (q := 3) hk (by decide) w mm Q
theorem m_total4 {k : Nat} (hk : k < 6) (w : Int32) (mm : Mm) (Q : Mm → Prop) : w_X10_total (nI k) 4 w mm Q ↔ Q (st mm (totF (mm.1 32 1) k 4 w)) := m_total (q := 4) hk (by decide) w mm Q
theorem m_total5 {k : Nat} (hk : k < 6) (w : Int32) (mm : Mm) (Q : Mm → Prop) : w_X10_total (nI k) 5 w mm Q ↔ Q (st mm (totF (mm.1 32 1) k 5 w)) := m_total (q := 5) hk (by decide) w mm Q
/-! closing -/
def closeF (f : Nat → Int32) (e k : Nat) : Int32 := if k = 117 then f 117 - 1 else if 118 + 8 * e ≤ k ∧ k < 110 + 8 * mo f then f (k + 8) else f k
def shG (e j : Nat) (m : Mm) : Mm := sI m 32 1 (118 + 8 * e + j) (m.1 32 1 (126 + 8 * e + j))
def shF (f : Nat → Int32) (e j k : Nat) : Int32 := if 118 + 8 * e ≤ k ∧ k < 118 + 8 * e + j then f (k + 8) else f k
theorem sh_eq (mm : Mm) (e : Nat) : ∀ j, fo (shG e) j mm = st mm (shF (mm.1 32 1) e j) := by
  intro j
  induction j with
  | zero =>
    have : shF (mm.1 32 1) e 0 = mm.1 32 1 := by
      funext k
      unfold shF
      rw [if_neg (by omega)]
    rw [this, st_self]
    rfl
  | succ j ih =>
    show shG e j (fo (shG e) j mm) = _
    rw [ih]
    unfold shG
    rw [st_sI, st_now, st_st]
    congr 1
    funext k
    unfold up shF
    by_cases h : k = 118 + 8 * e + j
    · subst h
      rw [if_pos rfl, if_neg (by omega), if_pos (by omega)]
      exact congrArg (mm.1 32 1) (by omega)
    · rw [if_neg h]
      by_cases h2 : 118 + 8 * e ≤ k ∧ k < 118 + 8 * e + j
      · rw [if_pos h2, if_pos (by omega)]
      · rw [if_neg h2, if_neg (by omega)]
theorem m_close {e : Nat} (ho : rng (mm.1 32 1 117) 16) (he : e < mo (mm.1 32 1)) (Q : Mm → Prop) : w_X10_close (nI e) mm Q ↔ Q (st mm (closeF (mm.1 32 1) e)) := by
  unfold w_X10_close
  simp only [forall_eq]
  have h16 : mo (mm.1 32 1) ≤ 16 := ho.2
  have e117 : mm.1 32 1 117 = nI (mo (mm.1 32 1)) := ho.1
  rw [show (118 : Int32) + 8 * nI e = nI (118 + 8 * e + 0) by rw [show (118 : Int32) = nI 118 from rfl, ix3]; rfl]
  refine itr_for _ (fun j z => (nI (118 + 8 * e + j), z)) (8 * (mo (mm.1 32 1) - 1 - e)) (shG e) mm _ (fun K j hj => ?_) (fun K => ?_)
  · show w_X10_close_B8 Q (fun z0 z1 => K (z0, z1)) (nI (118 + 8 * e + j)) (fo (shG e) j mm) ↔ K (nI (118 + 8 * e + (j + 1)), shG e j (fo (shG e) j mm))
    have h117 : (fo (shG e) j mm).1 32 1 117 = nI (mo (mm.1 32 1)) := by
      rw [sh_eq, st_now]
      unfold shF
      rw [if_neg (by omega), e117]
    generalize fo (shG e) j mm = z at *
    have hb : (118 : Int32) + 8 * (nI (mo (mm.1 32 1)) - 1) = nI (110 + 8 * mo (mm.1 32 1)) := by
      rw [show (118 : Int32) = nI 118 from rfl, show (1 : Int32) = nI 1 from rfl, pk_sub (by omega), ix3]
      congr 1
      omega
    have hle : (nI (110 + 8 * mo (mm.1 32 1)) ≤ nI (118 + 8 * e + j)) = False := by
      rw [nI_leI (by omega) (by omega)]
      simp only [eq_iff_iff, iff_false]
      omega
    have hv1 : vp_in (nI (118 + 8 * e + j)) 246 := vp_in_nI (by omega) (by omega)
    have h8 : nI (118 + 8 * e + j) + 8 = nI (126 + 8 * e + j) := by
      rw [show (8 : Int32) = nI 8 from rfl, nI_add]
      congr 1
      omega
    have hv2 : vp_in (nI (126 + 8 * e + j)) 246 := vp_in_nI (by omega) (by omega)
    have ht1 : (nI (118 + 8 * e + j)).toNatClampNeg = 118 + 8 * e + j := rs_tn (by omega)
    have ht2 : (nI (126 + 8 * e + j)).toNatClampNeg = 126 + 8 * e + j := rs_tn (by omega)
    simp only [w_X10_close_B8, h117, hb, hle, h8, hv1, hv2, ht1, ht2, nI_1, not_true_eq_false, not_false_eq_true, false_implies, true_implies, true_and, and_true, forall_eq, if_true, if_false, reduceIte]
    rfl
  · show w_X10_close_B8 Q (fun z0 z1 => K (z0, z1)) (nI (118 + 8 * e + 8 * (mo (mm.1 32 1) - 1 - e))) (fo (shG e) (8 * (mo (mm.1 32 1) - 1 - e)) mm) ↔ _
    rw [sh_eq]
    have h117 : (st mm (shF (mm.1 32 1) e (8 * (mo (mm.1 32 1) - 1 - e)))).1 32 1 117 = nI (mo (mm.1 32 1)) := by
      rw [st_now]
      unfold shF
      rw [if_neg (by omega), e117]
    have hb : (118 : Int32) + 8 * (nI (mo (mm.1 32 1)) - 1) = nI (110 + 8 * mo (mm.1 32 1)) := by
      rw [show (118 : Int32) = nI 118 from rfl, show (1 : Int32) = nI 1 from rfl, pk_sub (by omega), ix3]
      congr 1
      omega
    have hle : (nI (110 + 8 * mo (mm.1 32 1)) ≤ nI (118 + 8 * e + 8 * (mo (mm.1 32 1) - 1 - e))) = True := by
      rw [nI_leI (by omega) (by omega)]
      simp only [eq_iff_iff, iff_true]
      omega
    have hfin : up (shF (mm.1 32 1) e (8 * (mo (mm.1 32 1) - 1 - e))) 117 (nI (mo (mm.1 32 1)) - 1) = closeF (mm.1 32 1) e := by
      funext k
      unfold up closeF shF
      by_cases h : k = 117
      · rw [if_pos h, if_pos h, e117]
      · rw [if_neg h, if_neg h]
        by_cases h2 : 118 + 8 * e ≤ k ∧ k < 110 + 8 * mo (mm.1 32 1)
        · rw [if_pos h2, if_pos (by omega)]
        · rw [if_neg h2, if_neg (by omega)]
    simp only [w_X10_close_B8, h117, hb, hle, st_sI, st_now, st_st, hfin, not_true_eq_false, not_false_eq_true, false_implies, true_implies, true_and, and_true, forall_eq, if_true, if_false, reduceIte]
/-- a part of an entry is gone -/
def partG (f : Nat → Int32) (e : Nat) (w : Int32) : Nat → Int32 := up (up f (118 + 8 * e + 3) (en f e 3 - shareF f e w)) (118 + 8 * e + 2) (en f e 2 - w)
def goesF (f : Nat → Int32) (e : Nat) (w : Int32) : Nat → Int32 := if en f e 2 - w = 0 then closeF (partG f e w) e else partG f e w
theorem m_goes {e : Nat} {w : Int32} (ho : rng (mm.1 32 1 117) 16) (he : e < mo (mm.1 32 1)) (hw : ¬ en (mm.1 32 1) e 2 = 0) (Q : Mm → Prop) : w_X10_goes (nI e) w mm Q ↔ Q (st mm (goesF (mm.1 32 1) e w)) := by
  have h6 : e < 16 := Nat.lt_of_lt_of_le he ho.2
  unfold w_X10_goes goesF
  simp only [m_share h6 hw, m_of3 h6, m_put3 h6, m_of2 h6, m_put2 h6, st_now, st_st]
  rw [en_up _ _ (show ¬ 118 + 8 * e + 2 = 118 + 8 * e + 3 by omega)]
  have hg : ∀ x, en (up (up (mm.1 32 1) (118 + 8 * e + 3) (en (mm.1 32 1) e 3 - shareF (mm.1 32 1) e w)) (118 + 8 * e + 2) x) e 2 = x := fun x => en_up_e _ _ _ _
  simp only [hg]
  show ((¬ en (mm.1 32 1) e 2 - w = 0 → Q (st mm (partG (mm.1 32 1) e w))) ∧ (en (mm.1 32 1) e 2 - w = 0 → w_X10_close (nI e) (st mm (partG (mm.1 32 1) e w)) Q)) ↔ _
  have hp : rng ((st mm (partG (mm.1 32 1) e w)).1 32 1 117) 16 := by
    rw [st_now]
    unfold partG
    rw [up_ne _ _ (by omega), up_ne _ _ (by omega)]
    exact ho
  have hq : e < mo ((st mm (partG (mm.1 32 1) e w)).1 32 1) := by
    rw [st_now]
    unfold partG
    rw [mo_up _ _ (by omega), mo_up _ _ (by omega)]
    exact he
  have hc := m_close hp hq Q
  rw [st_now, st_st] at hc
  by_cases h : en (mm.1 32 1) e 2 - w = 0
  · simp only [h, hc, not_true_eq_false, not_false_eq_true, false_implies, true_implies, true_and, and_true, forall_eq, if_true, if_false, reduceIte]
  · simp only [h, not_true_eq_false, not_false_eq_true, false_implies, true_implies, true_and, and_true, forall_eq, if_true, if_false, reduceIte]
/-! a new entry -/
def mkF (f : Nat → Int32) (kd w v c : Int32) : Nat → Int32 :=
  up (up (up (up (up (up (up (up (up (up f (118 + 8 * mo f + 0) (f 1)) (118 + 8 * mo f + 1) kd) (118 + 8 * mo f + 2) w) (118 + 8 * mo f + 3) v) (118 + 8 * mo f + 4) c) (118 + 8 * mo f + 5) 0) (118 + 8 * mo f + 6) 0) (118 + 8 * mo f + 7) 1) 117 (f 117 + 1)) 1 (f 1 + 1)
theorem m_makes (ho : rng (mm.1 32 1 117) 16) (h6 : mo (mm.1 32 1) < 16) (kd w v c : Int32) (Q : Int32 → Mm → Prop) : w_X10_makes kd w v c mm Q ↔ Q (mm.1 32 1 1) (st mm (mkF (mm.1 32 1) kd w v c)) := by
  unfold w_X10_makes
  simp only [forall_eq]
  rw [show mm.1 32 1 117 = nI (mo (mm.1 32 1)) from ho.1]
  simp only [m_put0 h6, m_put1 h6, m_put2 h6, m_put3 h6, m_put4 h6, m_put5 h6, m_put6 h6, m_put7 h6, st_now, st_st, st_sI]
  unfold mkF
  have e1 : ∀ (g : Nat → Int32) (x : Int32), up g 1 (x + 1) 1 - 1 = x := fun g x => by rw [up_eq, Int32.add_sub_cancel]
  have e2 : ∀ (x0 x1 x2 x3 x4 x5 x6 x7 : Int32), up (up (up (up (up (up (up (up (mm.1 32 1) (118 + 8 * mo (mm.1 32 1) + 0) x0) (118 + 8 * mo (mm.1 32 1) + 1) x1) (118 + 8 * mo (mm.1 32 1) + 2) x2) (118 + 8 * mo (mm.1 32 1) + 3) x3) (118 + 8 * mo (mm.1 32 1) + 4) x4) (118 + 8 * mo (mm.1 32 1) + 5) x5) (118 + 8 * mo (mm.1 32 1) + 6) x6) (118 + 8 * mo (mm.1 32 1) + 7) x7 117 = mm.1 32 1 117 := fun x0 x1 x2 x3 x4 x5 x6 x7 => by
    rw [up_ne _ _ (by omega), up_ne _ _ (by omega), up_ne _ _ (by omega), up_ne _ _ (by omega), up_ne _ _ (by omega), up_ne _ _ (by omega), up_ne _ _ (by omega), up_ne _ _ (by omega)]
  have e3 : ∀ (x0 x1 x2 x3 x4 x5 x6 x7 x8 : Int32), up (up (up (up (up (up (up (up (up (mm.1 32 1) (118 + 8 * mo (mm.1 32 1) + 0) x0) (118 + 8 * mo (mm.1 32 1) + 1) x1) (118 + 8 * mo (mm.1 32 1) + 2) x2) (118 + 8 * mo (mm.1 32 1) + 3) x3) (118 + 8 * mo (mm.1 32 1) + 4) x4) (118 + 8 * mo (mm.1 32 1) + 5) x5) (118 + 8 * mo (mm.1 32 1) + 6) x6) (118 + 8 * mo (mm.1 32 1) + 7) x7) 117 x8 1 = mm.1 32 1 1 := fun x0 x1 x2 x3 x4 x5 x6 x7 x8 => by
    rw [up_ne _ _ (by decide), up_ne _ _ (by omega), up_ne _ _ (by omega), up_ne _ _ (by omega), up_ne _ _ (by omega), up_ne _ _ (by omega), up_ne _ _ (by omega), up_ne _ _ (by omega), up_ne _ _ (by omega)]
  simp only [e2, e3, e1]
def enterF (f : Nat → Int32) (k : Nat) (w v c : Int32) : Nat → Int32 := mkF (totF f k 0 w) (nI k) w v c
theorem m_enterOn (ho : rng (mm.1 32 1 117) 16) (h6 : mo (mm.1 32 1) < 16) {k : Nat} (hk : k < 6) (w v c : Int32) (Q : Int32 → Mm → Prop) : w_X10_enterOn (nI k) w v c mm Q ↔ Q (mm.1 32 1 1) (st mm (enterF (mm.1 32 1) k w v c)) := by
  unfold w_X10_enterOn
  simp only [m_total0 hk]
  have h1 : (st mm (totF (mm.1 32 1) k 0 w)).1 32 1 117 = mm.1 32 1 117 := up_ne _ _ (by omega)
  have h2 : mo ((st mm (totF (mm.1 32 1) k 0 w)).1 32 1) = mo (mm.1 32 1) := mo_up _ _ (by omega)
  have h3 : (st mm (totF (mm.1 32 1) k 0 w)).1 32 1 1 = mm.1 32 1 1 := up_ne _ _ (by omega)
  have := m_makes (mm := st mm (totF (mm.1 32 1) k 0 w)) (by rw [h1]; exact ho) (by rw [h2]; exact h6) (nI k) w v c Q
  rw [h3, st_st] at this
  exact this
/-! a new receipt -/
def mr1 (f : Nat → Int32) : Nat := if mr f < 12 then mr f + 1 else mr f
def filesF (f : Nat → Int32) (kd w d : Int32) (k : Nat) : Int32 :=
  if k = 68 then nI (mr1 f) else if k = 69 then kd else if k = 70 then w else if k = 71 then d else if k = 72 then f 0 else if 73 ≤ k ∧ k < 69 + 4 * mr1 f then f (k - 4) else f k
def fiG (n j : Nat) (m : Mm) : Mm := sI m 32 1 (68 + 4 * n - j) (m.1 32 1 (64 + 4 * n - j))
def fiF (f : Nat → Int32) (n j k : Nat) : Int32 := if 69 + 4 * n ≤ k + j ∧ k < 69 + 4 * n then f (k - 4) else f k
theorem fi_eq (mm : Mm) (n : Nat) (hn : 1 ≤ n) : ∀ j, j ≤ 4 * (n - 1) → fo (fiG n) j mm = st mm (fiF (mm.1 32 1) n j) := by
  intro j
  induction j with
  | zero =>
    intro _
    have : fiF (mm.1 32 1) n 0 = mm.1 32 1 := by
      funext k
      unfold fiF
      rw [if_neg (by omega)]
    rw [this, st_self]
    rfl
  | succ j ih =>
    intro hj
    show fiG n j (fo (fiG n) j mm) = _
    rw [ih (by omega)]
    unfold fiG
    rw [st_sI, st_now, st_st]
    congr 1
    funext k
    unfold up fiF
    by_cases h : k = 68 + 4 * n - j
    · subst h
      rw [if_pos rfl, if_neg (by omega), if_pos (by omega)]
      exact congrArg (mm.1 32 1) (by omega)
    · rw [if_neg h]
      by_cases h2 : 69 + 4 * n ≤ k + j ∧ k < 69 + 4 * n
      · rw [if_pos h2, if_pos (by omega)]
      · rw [if_neg h2, if_neg (by omega)]
theorem m_filesL (kd w d : Int32) {n : Nat} (hn : 1 ≤ n) (h12 : n ≤ 12) (h68 : mm.1 32 1 68 = nI n) (Q : Mm → Prop) : (∃ k, itr (α := Int32 × Mm) (fun K a => w_X10_files_B43 kd w d Q (fun z0 z1 => K (z0, z1)) a.1 a.2) k (nI (68 + 4 * n), mm)) ↔ Q (st mm (up (up (up (up (fiF (mm.1 32 1) n (4 * (n - 1))) 69 kd) 70 w) 71 d) 72 (mm.1 32 1 0))) := by
  refine itr_for _ (fun j z => (nI (68 + 4 * n - j), z)) (4 * (n - 1)) (fiG n) mm _ (fun K j hj => ?_) (fun K => ?_)
  · show w_X10_files_B43 kd w d Q (fun z0 z1 => K (z0, z1)) (nI (68 + 4 * n - j)) (fo (fiG n) j mm) ↔ K (nI (68 + 4 * n - (j + 1)), fiG n j (fo (fiG n) j mm))
    generalize fo (fiG n) j mm = z
    have hle : (nI (68 + 4 * n - j) < 73) = False := by
      rw [show (73 : Int32) = nI 73 from rfl, nI_ltI (by omega) (by decide)]
      simp only [eq_iff_iff, iff_false]
      omega
    have h4 : nI (68 + 4 * n - j) - 4 = nI (64 + 4 * n - j) := by
      rw [show (4 : Int32) = nI 4 from rfl, pk_sub (by omega)]
      congr 1
      omega
    have h1 : nI (68 + 4 * n - j) + (-1) = nI (68 + 4 * n - (j + 1)) := by
      rw [show 68 + 4 * n - j = (68 + 4 * n - (j + 1)) + 1 by omega, pk_m1]
    have hv1 : vp_in (nI (68 + 4 * n - j)) 246 := vp_in_nI (by omega) (by omega)
    have hv2 : vp_in (nI (64 + 4 * n - j)) 246 := vp_in_nI (by omega) (by omega)
    have ht1 : (nI (68 + 4 * n - j)).toNatClampNeg = 68 + 4 * n - j := rs_tn (by omega)
    have ht2 : (nI (64 + 4 * n - j)).toNatClampNeg = 64 + 4 * n - j := rs_tn (by omega)
    simp only [w_X10_files_B43, hle, h4, h1, hv1, hv2, ht1, ht2, not_true_eq_false, not_false_eq_true, false_implies, true_implies, true_and, and_true, forall_eq, if_true, if_false, reduceIte]
    rfl
  · show w_X10_files_B43 kd w d Q (fun z0 z1 => K (z0, z1)) (nI (68 + 4 * n - 4 * (n - 1))) (fo (fiG n) (4 * (n - 1)) mm) ↔ _
    rw [fi_eq mm n hn _ (Nat.le_refl _), show 68 + 4 * n - 4 * (n - 1) = 72 by omega]
    have hle : (nI 72 < 73) = True := by
      simp only [eq_iff_iff, iff_true]
      decide
    have h0 : up (up (up (fiF (mm.1 32 1) n (4 * (n - 1))) 69 kd) 70 w) 71 d 0 = mm.1 32 1 0 := by
      rw [up_ne _ _ (by decide), up_ne _ _ (by decide), up_ne _ _ (by decide)]
      unfold fiF
      rw [if_neg (by omega)]
    simp only [w_X10_files_B43, hle, st_sI, st_now, st_st, h0, not_true_eq_false, not_false_eq_true, false_implies, true_implies, true_and, and_true, forall_eq, if_true, if_false, reduceIte]
theorem m_files (hr : rng (mm.1 32 1 68) 12) (kd w d : Int32) (Q : Mm → Prop) : w_X10_files kd w d mm Q ↔ Q (st mm (filesF (mm.1 32 1) kd w d)) := by
  have h12 : mr (mm.1 32 1) ≤ 12 := hr.2
  have e68 : mm.1 32 1 68 = nI (mr (mm.1 32 1)) := hr.1
  have key : ∀ n : Nat, 1 ≤ n → n ≤ 12 → n = mr1 (mm.1 32 1) → ((∀ m_2 : Mm, m_2 = sI mm 32 1 68 (nI n) → (∀ x_3 : Int32, x_3 = ((69 + (4 * (m_2.1 32 1 68))) - 1) → (∃ n, itr (α := Int32 × Mm) (fun K a => w_X10_files_B43 kd w d Q (fun z0 z1 => K (z0, z1)) a.1 a.2) n (x_3, m_2)))) ↔ Q (st mm (filesF (mm.1 32 1) kd w d))) := by
    intro n hn hn12 hne
    simp only [forall_eq, st_sI]
    have h1 : (st mm (up (mm.1 32 1) 68 (nI n))).1 32 1 68 = nI n := by rw [st_now, up_eq]
    rw [h1, show (69 : Int32) + 4 * nI n - 1 = nI (68 + 4 * n) by
      rw [show (69 : Int32) = nI 69 from rfl, show (4 : Int32) = nI 4 from rfl, show (1 : Int32) = nI 1 from rfl, pk_mul, nI_add, pk_sub (by omega)]
      congr 1
      omega]
    rw [m_filesL kd w d hn hn12 h1 Q, st_st, st_now]
    have : up (up (up (up (fiF (up (mm.1 32 1) 68 (nI n)) n (4 * (n - 1))) 69 kd) 70 w) 71 d) 72 (up (mm.1 32 1) 68 (nI n) 0) = filesF (mm.1 32 1) kd w d := by
      rw [up_ne _ _ (show ¬ 0 = 68 by decide)]
      funext k
      unfold filesF
      rw [← hne]
      unfold up fiF
      by_cases h72 : k = 72
      · subst h72
        simp
      · by_cases h71 : k = 71
        · subst h71; simp
        · by_cases h70 : k = 70
          · subst h70; simp
          · by_cases h69 : k = 69
            · subst h69; simp
            · by_cases h68 : k = 68
              · subst h68
                simp
                intro
                omega
              · rw [if_neg h72, if_neg h71, if_neg h70, if_neg h69, if_neg h68, if_neg h69, if_neg h70, if_neg h71, if_neg h72]
                by_cases h2 : 73 ≤ k ∧ k < 69 + 4 * n
                · rw [if_pos h2, if_pos (by omega)]
                  exact if_neg (by omega)
                · rw [if_neg h2, if_neg (by omega)]
                  exact if_neg h68
    rw [this]
  unfold w_X10_files w_X10_files_J25
  have hlt : (12 ≤ mm.1 32 1 68) ↔ ¬ mr (mm.1 32 1) < 12 := by
    rw [e68, show (12 : Int32) = nI 12 from rfl, nI_leI (by decide) (by omega)]
    omega
  by_cases h : mr (mm.1 32 1) < 12
  · have h2 : ¬ 12 ≤ mm.1 32 1 68 := fun q => (hlt.mp q) h
    simp only [h2, false_implies, true_and, not_false_eq_true, true_implies]
    have := key (mr (mm.1 32 1) + 1) (by omega) (by omega) (by unfold mr1; rw [if_pos h])
    rw [e68, nI_1]
    exact this
  · have h2 : 12 ≤ mm.1 32 1 68 := hlt.mpr h
    simp only [h2, not_true_eq_false, false_implies, and_true, true_implies]
    have := key (mr (mm.1 32 1)) (by omega) (by omega) (by unfold mr1; rw [if_neg h])
    rw [e68, Int32.add_zero]
    exact this
end SEM8

