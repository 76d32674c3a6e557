section SEM28
variable {mm : Mm} {T : Nat → Int32} {p n : Nat} {c : Nat → Int32}
def bd (s : Nat) : Nat × Nat := if s = 0 then (0, 5) else if s = 1 then (0, 4) else if s = 2 then (0, 59) else if s = 3 then (1, 999) else if s = 4 then (0, 999) else if s = 5 then (1, 9999) else if s = 6 then (1, 9999) else (1, 100)
def sgn (s : Nat) : Int32 := if s = 8 then 59 else if s = 1 then 62 else 42
theorem bd_ok (s : Nat) : (bd s).1 ≤ 1 ∧ (bd s).2 ≤ 9999 := by
  unfold bd
  repeat' split
  all_goals exact ⟨by decide, by decide⟩
theorem nx_lo {lo hi : Nat} {v : Option Nat} {c : Int32} {x : Nat} (h : nx lo hi v c = some x) (hv : ∀ w, v = some w → lo ≤ w) : lo ≤ x := by
  unfold nx at h
  split at h
  · split at h
    · split at h
      · rename_i q
        cases h
        exact q.1
      · cases h
    · rename_i w
      have := hv w rfl
      split at h
      · cases h
      · split at h
        · cases h
          omega
        · cases h
  · cases h
theorem nv_lo {T : Nat → Int32} {lo hi k : Nat} : ∀ p v, (∀ w, v = some w → lo ≤ w) → ∀ w, (nv T lo hi k p v).2 = some w → lo ≤ w := by
  induction k with
  | zero => intro p v h w hw; exact h w hw
  | succ k ih =>
    intro p v h w hw
    cases hx : nx lo hi v (T p) with
    | none => rw [nv_no hx] at hw; exact h w hw
    | some x =>
      rw [nv_yes hx] at hw
      exact ih (p + 1) (some x) (fun w hw => by cases hw; exact nx_lo hx h) w hw
def nf (T : Nat → Int32) (n s p : Nat) : Nat × Option Nat := nv T (bd s).1 (bd s).2 (n - p) p none
theorem nf_ok {s : Nat} (hp : p ≤ n) : p ≤ (nf T n s p).1 ∧ (nf T n s p).1 ≤ n ∧ ∀ w, (nf T n s p).2 = some w → (bd s).1 ≤ w ∧ w ≤ (bd s).2 := by
  obtain ⟨h1, h2, h3, h4⟩ := nv_le (T := T) (lo := (bd s).1) (hi := (bd s).2) (k := n - p) p none
  refine ⟨h1, by unfold nf; omega, fun w hw => ⟨nv_lo p none (fun w h => by cases h) w hw, ?_⟩⟩
  rcases h3 w hw with h | h
  · exact h
  · cases h
/-- a line from p: where it ends, its numbers, whether it is whole -/
def fl (T : Nat → Int32) (n : Nat) : List Nat → Nat → Nat × List Nat × Bool
  | [], p => (p, [], true)
  | s :: r, p => match (nf T n s p).2 with
    | none => ((nf T n s p).1, [], false)
    | some v => match r with
      | [] => ((nf T n s p).1, [v], true)
      | s' :: _ => if (nf T n s p).1 < n ∧ T (nf T n s p).1 = sgn s' then ((fl T n r ((nf T n s p).1 + 1)).1, v :: (fl T n r ((nf T n s p).1 + 1)).2.1, (fl T n r ((nf T n s p).1 + 1)).2.2) else ((nf T n s p).1, [v], false)
theorem fl_none {s : Nat} {r : List Nat} (h : (nf T n s p).2 = none) : fl T n (s :: r) p = ((nf T n s p).1, [], false) := by
  unfold fl
  rw [h]
theorem fl_one {s v : Nat} (h : (nf T n s p).2 = some v) : fl T n [s] p = ((nf T n s p).1, [v], true) := by
  unfold fl
  rw [h]
theorem fl_go {s s' v : Nat} {r : List Nat} (h : (nf T n s p).2 = some v) (h2 : (nf T n s p).1 < n ∧ T (nf T n s p).1 = sgn s') : fl T n (s :: s' :: r) p = ((fl T n (s' :: r) ((nf T n s p).1 + 1)).1, v :: (fl T n (s' :: r) ((nf T n s p).1 + 1)).2.1, (fl T n (s' :: r) ((nf T n s p).1 + 1)).2.2) := by
  conv => lhs; unfold fl
  rw [h]
  simp only [h2, and_self, if_true]
theorem fl_stop {s s' v : Nat} {r : List Nat} (h : (nf T n s p).2 = some v) (h2 : ¬ ((nf T n s p).1 < n ∧ T (nf T n s p).1 = sgn s')) : fl T n (s :: s' :: r) p = ((nf T n s p).1, [v], false) := by
  conv => lhs; unfold fl
  rw [h]
  simp only [h2, if_false]
theorem fl_rng (l : List Nat) : ∀ p, p ≤ n → p ≤ (fl T n l p).1 ∧ (fl T n l p).1 ≤ n := by
  induction l with
  | nil => intro p hp; exact ⟨Nat.le_refl _, hp⟩
  | cons s r ih =>
    intro p hp
    obtain ⟨h1, h2, h3⟩ := nf_ok (T := T) (s := s) hp
    cases hv : (nf T n s p).2 with
    | none => rw [fl_none hv]; exact ⟨h1, h2⟩
    | some v =>
      cases r with
      | nil => rw [fl_one hv]; exact ⟨h1, h2⟩
      | cons s' r =>
        by_cases h : (nf T n s p).1 < n ∧ T (nf T n s p).1 = sgn s'
        · rw [fl_go hv h]
          obtain ⟨i1, i2⟩ := ih ((nf T n s p).1 + 1) (by omega)
          exact ⟨Nat.le_trans (Nat.le_succ_of_le h1) i1, i2⟩
        · rw [fl_stop hv h]; exact ⟨h1, h2⟩
def jv (mm : Mm) (c : Nat → Int32) : Mm := (fun t i j => if t = 30 ∧ i = 1 ∧ 9 ≤ j ∧ j ≤ 15 then c j else mm.1 t i j, mm.2)
theorem jv_in (mm : Mm) (c : Nat → Int32) {j : Nat} (h : 9 ≤ j ∧ j ≤ 15) : (jv mm c).1 30 1 j = c j := if_pos ⟨rfl, rfl, h⟩
theorem jv_out (mm : Mm) (c : Nat → Int32) {t i j : Nat} (h : ¬ (t = 30 ∧ i = 1 ∧ 9 ≤ j ∧ j ≤ 15)) : (jv mm c).1 t i j = mm.1 t i j := if_neg h
theorem jv_sI (mm : Mm) (c : Nat → Int32) {j : Nat} (h : 9 ≤ j ∧ j ≤ 15) (v : Int32) : sI (jv mm c) 30 1 j v = jv mm (up c j v) := by
  refine Mm_ext (fun t i k => ?_) rfl
  show (if t = 30 ∧ i = 1 ∧ k = j then v else if t = 30 ∧ i = 1 ∧ 9 ≤ k ∧ k ≤ 15 then c k else mm.1 t i k) = if t = 30 ∧ i = 1 ∧ 9 ≤ k ∧ k ≤ 15 then (if k = j then v else c k) else mm.1 t i k
  by_cases z : t = 30 ∧ i = 1 ∧ k = j
  · rw [if_pos z, if_pos (by omega), if_pos z.2.2]
  · rw [if_neg z]
    by_cases y : t = 30 ∧ i = 1 ∧ 9 ≤ k ∧ k ≤ 15
    · rw [if_pos y, if_pos y, if_neg (fun w => z ⟨y.1, y.2.1, w⟩)]
    · rw [if_neg y, if_neg y]
theorem pv_jv (mm : Mm) (c : Nat → Int32) (p : Nat) (x : Int32) : pv (jv mm c) p x = jv mm (up (up c 10 x) 9 (nI p)) := by
  refine Mm_ext (fun t i k => ?_) rfl
  show (if t = 30 ∧ i = 1 ∧ k = 9 then nI p else if t = 30 ∧ i = 1 ∧ k = 10 then x else if t = 30 ∧ i = 1 ∧ 9 ≤ k ∧ k ≤ 15 then c k else mm.1 t i k) = if t = 30 ∧ i = 1 ∧ 9 ≤ k ∧ k ≤ 15 then (if k = 9 then nI p else if k = 10 then x else c k) else mm.1 t i k
  by_cases z : t = 30 ∧ i = 1 ∧ 9 ≤ k ∧ k ≤ 15
  · rw [if_pos z, if_pos z]
    by_cases y : k = 9
    · rw [if_pos ⟨z.1, z.2.1, y⟩, if_pos y]
    · rw [if_neg (fun w => y w.2.2), if_neg y]
      by_cases x' : k = 10
      · rw [if_pos ⟨z.1, z.2.1, x'⟩, if_pos x']
      · rw [if_neg (fun w => x' w.2.2), if_neg x']
  · rw [if_neg z, if_neg z, if_neg (by omega), if_neg (by omega)]
/-- the text of the reference -/
def TM (mm : Mm) (T : Nat → Int32) (n : Nat) : Prop := mm.1 30 1 2 = nI n ∧ n ≤ 60 ∧ ∀ j, j < n → mm.1 31 1 j = T j
theorem TM.jv (h : TM mm T n) (c : Nat → Int32) : TM (jv mm c) T n := by
  obtain ⟨h1, h2, h3⟩ := h
  exact ⟨by rw [jv_out _ _ (by decide)]; exact h1, h2, fun j hj => by rw [jv_out _ _ (by omega)]; exact h3 j hj⟩
theorem m_num {s : Nat} (hT : TM mm T n) (h9 : c 9 = nI p) (hp : p ≤ n) (Q : Int32 → Mm → Prop) (hq : Q (ob (nf T n s p).2) (jv mm (up (up c 10 (ov (nf T n s p).2)) 9 (nI (nf T n s p).1)))) : w_X10_number (nI (bd s).1) (nI (bd s).2) (jv mm c) Q := by
  obtain ⟨h1, h2, h3⟩ := hT.jv c
  refine m_number (p := p) (by rw [jv_in _ _ (by decide)]; exact h9) h1 h2 hp h3 (bd_ok s).1 (bd_ok s).2 Q ?_
  rw [pv_jv]
  exact hq
theorem m_num0 {s : Nat} (hs : (bd s).1 = 0) (hT : TM mm T n) (h9 : c 9 = nI p) (hp : p ≤ n) (Q : Int32 → Mm → Prop) (hq : Q (ob (nf T n s p).2) (jv mm (up (up c 10 (ov (nf T n s p).2)) 9 (nI (nf T n s p).1)))) : w_X10_number 0 (nI (bd s).2) (jv mm c) Q := by
  have := m_num (s := s) hT h9 hp Q hq
  rw [hs] at this
  exact this
theorem up_id (c : Nat → Int32) {j : Nat} {v : Int32} (h : v = c j) : up c j v = c := by
  funext k
  unfold up
  split
  · rename_i z
    rw [z, h]
  · rfl
theorem m_goesOn (hT : TM mm T n) (h9 : c 9 = nI p) (hp : p ≤ n) (x : Int32) (Q : Int32 → Mm → Prop) : w_X10_goesOn x (jv mm c) Q ↔ if p < n ∧ T p = x then Q 1 (jv mm (up c 9 (nI (p + 1)))) else Q 0 (jv mm c) := by
  obtain ⟨h1, h2, h3⟩ := hT.jv c
  have e9 : (jv mm c).1 30 1 9 = nI p := by rw [jv_in _ _ (by decide)]; exact h9
  have e0 : sI (jv mm c) 30 1 9 (nI p + 0) = jv mm c := by
    rw [jv_sI _ _ (by decide), up_id]
    rw [Int32.add_zero, h9]
  have hJ0 : w_X10_goesOn_J28 (jv mm c) Q ↔ Q 0 (jv mm c) := by
    unfold w_X10_goesOn_J28 w_X10_goesOn_J29
    simp only [e9, e0, isB0, not_true_eq_false, not_false_eq_true, false_implies, true_implies, true_and, and_true, forall_eq, if_true, if_false, reduceIte]
  unfold w_X10_goesOn
  rw [h1, e9]
  by_cases hlt : p < n
  · have hle : ¬ nI n ≤ nI p := fun z => by have := (le_nI (by omega) (by omega)).mp z; omega
    have ht : (nI p).toNatClampNeg = p := rs_tn (by omega)
    have hv : vp_in (nI p) 60 := vp_in_nI (by omega) (by decide)
    rw [ht, h3 p hlt]
    by_cases hx : T p = x
    · have h00 : ¬ (1 : Int32) = 0 := z10
      simp only [hle, hv, hx, hlt, and_self, not_true_eq_false, not_false_eq_true, false_implies, true_implies, true_and, and_true, forall_eq, if_true, if_false, reduceIte]
      unfold w_X10_goesOn_J29
      simp only [h00, isB1, e9, nI_1, jv_sI _ _ (show 9 ≤ 9 ∧ 9 ≤ 15 by decide), not_true_eq_false, not_false_eq_true, false_implies, true_implies, true_and, and_true, forall_eq, if_true, if_false, reduceIte]
    · simp only [hle, hv, hx, hlt, and_false, not_true_eq_false, not_false_eq_true, false_implies, true_implies, true_and, and_true, forall_eq, if_true, if_false, reduceIte]
      exact hJ0
  · have hle : nI n ≤ nI p := (le_nI (by omega) (by omega)).mpr (by omega)
    simp only [hle, hlt, false_and, not_true_eq_false, not_false_eq_true, false_implies, true_implies, true_and, and_true, forall_eq, if_true, if_false, reduceIte]
    exact hJ0
/-- what the cells hold after a line -/
def cvs (c' : Nat → Int32) (vs : List Nat) : Prop := match vs with
  | [x] => c' 10 = nI x
  | [x, y] => c' 11 = nI x ∧ c' 12 = nI y
  | [x, y, z, w] => c' 11 = nI x ∧ c' 12 = nI y ∧ c' 13 = nI z ∧ c' 10 = nI w
  | _ => False
def bo (b : Bool) : Int32 := if b = true then 1 else 0
def after (c c' : Nat → Int32) (x : Nat × List Nat × Bool) : Prop := c' 9 = nI x.1 ∧ (∀ j, 14 ≤ j → c' j = c j) ∧ (x.2.2 = true → cvs c' x.2.1)
theorem m_f1 {s : Nat} (hT : TM mm T n) (h9 : c 9 = nI p) (hp : p ≤ n) (Q : Int32 → Mm → Prop) (hq : ∀ c', after c c' (fl T n [s] p) → Q (bo (fl T n [s] p).2.2) (jv mm c')) : w_X10_number (nI (bd s).1) (nI (bd s).2) (jv mm c) Q := by
  refine m_num hT h9 hp Q ?_
  cases hv : (nf T n s p).2 with
  | none =>
    rw [fl_none hv] at hq
    exact hq _ ⟨up_eq _ _ _, fun j hj => by rw [up_ne _ _ (by omega), up_ne _ _ (by omega)], fun z => by cases z⟩
  | some v =>
    rw [fl_one hv] at hq
    exact hq _ ⟨up_eq _ _ _, fun j hj => by rw [up_ne _ _ (by omega), up_ne _ _ (by omega)], fun _ => by
      show up (up c 10 (nI v)) 9 _ 10 = nI v
      rw [up_ne _ _ (by decide), up_eq]⟩
theorem m_f2 {s s' : Nat} (hs : (bd s).1 = 0) (hT : TM mm T n) (h9 : c 9 = nI p) (hp : p ≤ n) (Q : Int32 → Mm → Prop) (hq : ∀ c', after c c' (fl T n [s, s'] p) → Q (bo (fl T n [s, s'] p).2.2) (jv mm c')) : w_X10_pair (nI (bd s).2) (sgn s') (nI (bd s').1) (nI (bd s').2) (jv mm c) Q := by
  unfold w_X10_pair
  refine m_num0 hs hT h9 hp _ ?_
  obtain ⟨o1, o2, _⟩ := nf_ok (T := T) (s := s) hp
  cases hv : (nf T n s p).2 with
  | none =>
    rw [fl_none hv] at hq
    refine ⟨fun z => absurd rfl z, fun _ => ?_⟩
    exact hq _ ⟨up_eq _ _ _, fun j hj => by rw [up_ne _ _ (by omega), up_ne _ _ (by omega)], fun z => by cases z⟩
  | some v =>
    refine ⟨fun _ => ?_, fun z => absurd z z10⟩
    simp only [forall_eq]
    have e10 : (jv mm (up (up c 10 (ov (some v))) 9 (nI (nf T n s p).1))).1 30 1 10 = nI v := by
      rw [jv_in _ _ (by decide), up_ne _ _ (by decide), up_eq]
      rfl
    rw [e10, jv_sI _ _ (by decide)]
    rw [m_goesOn hT (p := (nf T n s p).1) (by rw [up_ne _ _ (by decide), up_eq]) o2]
    by_cases hg : (nf T n s p).1 < n ∧ T (nf T n s p).1 = sgn s'
    · rw [if_pos hg]
      rw [fl_go hv hg] at hq
      refine ⟨fun z => absurd z z10, fun _ => ?_⟩
      refine m_num hT (up_eq _ _ _) (by omega) _ ?_
      cases hw : (nf T n s' ((nf T n s p).1 + 1)).2 with
      | none =>
        rw [fl_none hw] at hq
        refine ⟨fun z => absurd rfl z, fun _ => ?_⟩
        exact hq _ ⟨up_eq _ _ _, fun j hj => by rw [up_ne _ _ (by omega), up_ne _ _ (by omega), up_ne _ _ (by omega), up_ne _ _ (by omega), up_ne _ _ (by omega), up_ne _ _ (by omega)], fun z => by cases z⟩
      | some w =>
        rw [fl_one hw] at hq
        refine ⟨fun _ => ?_, fun z => absurd z z10⟩
        rw [jv_in _ _ (by decide), up_ne _ _ (by decide), up_eq, jv_sI _ _ (by decide)]
        refine hq _ ⟨?_, fun j hj => ?_, fun _ => ⟨?_, up_eq _ _ _⟩⟩
        · rw [up_ne _ _ (by decide), up_eq]
        · rw [up_ne _ _ (by omega), up_ne _ _ (by omega), up_ne _ _ (by omega), up_ne _ _ (by omega), up_ne _ _ (by omega), up_ne _ _ (by omega), up_ne _ _ (by omega)]
        · rw [up_ne _ _ (by decide), up_ne _ _ (by decide), up_ne _ _ (by decide), up_ne _ _ (by decide), up_eq]
    · rw [if_neg hg]
      rw [fl_stop hv hg] at hq
      refine ⟨fun _ => ?_, fun z => absurd rfl z⟩
      exact hq _ ⟨by rw [up_ne _ _ (by decide), up_eq], fun j hj => by rw [up_ne _ _ (by omega), up_ne _ _ (by omega), up_ne _ _ (by omega)], fun z => by cases z⟩
/-- four numbers: two and two -/
theorem fl4 (s0 s1 s2 s3 : Nat) : fl T n [s0, s1, s2, s3] p = if (fl T n [s0, s1] p).2.2 = true then (if (fl T n [s0, s1] p).1 < n ∧ T (fl T n [s0, s1] p).1 = sgn s2 then ((fl T n [s2, s3] ((fl T n [s0, s1] p).1 + 1)).1, (fl T n [s0, s1] p).2.1 ++ (fl T n [s2, s3] ((fl T n [s0, s1] p).1 + 1)).2.1, (fl T n [s2, s3] ((fl T n [s0, s1] p).1 + 1)).2.2) else ((fl T n [s0, s1] p).1, (fl T n [s0, s1] p).2.1, false)) else ((fl T n [s0, s1] p).1, (fl T n [s0, s1] p).2.1, false) := by
  cases hv : (nf T n s0 p).2 with
  | none => rw [fl_none hv, fl_none hv, if_neg (by simp)]
  | some v =>
    by_cases hg : (nf T n s0 p).1 < n ∧ T (nf T n s0 p).1 = sgn s1
    · rw [fl_go hv hg, fl_go hv hg]
      cases hw : (nf T n s1 ((nf T n s0 p).1 + 1)).2 with
      | none => rw [fl_none hw, fl_none hw, if_neg (by simp)]
      | some w =>
        rw [fl_one hw, if_pos rfl]
        by_cases hh : (nf T n s1 ((nf T n s0 p).1 + 1)).1 < n ∧ T (nf T n s1 ((nf T n s0 p).1 + 1)).1 = sgn s2
        · rw [fl_go hw hh, if_pos hh]
          rfl
        · rw [fl_stop hw hh, if_neg hh]
    · rw [fl_stop hv hg, fl_stop hv hg, if_neg (by simp)]
theorem m_f4 (hT : TM mm T n) (h9 : c 9 = nI p) (hp : p ≤ n) (Q : Int32 → Mm → Prop) (hq : ∀ c', after c c' (fl T n [0, 3, 5, 1] p) → Q (bo (fl T n [0, 3, 5, 1] p).2.2) (jv mm c')) : w_X10_entering (jv mm c) Q := by
  unfold w_X10_entering
  rw [fl4] at hq
  have hr := fl_rng (T := T) (n := n) [0, 3] p hp
  refine m_f2 (s := 0) (s' := 3) rfl hT h9 hp _ (fun c' ha => ?_)
  cases hb : (fl T n [0, 3] p).2.2 with
  | false =>
    rw [hb, if_neg (by decide)] at hq
    refine ⟨fun _ => ?_, fun z => absurd rfl z⟩
    exact hq _ ⟨ha.1, ha.2.1, fun z => by cases z⟩
  | true =>
    rw [hb, if_pos rfl] at hq
    refine ⟨fun z => absurd z z10, fun _ => ?_⟩
    have hvs := ha.2.2 hb
    generalize hX : fl T n [0, 3] p = X at *
    rw [m_goesOn hT ha.1 hr.2]
    by_cases hg : X.1 < n ∧ T X.1 = sgn 5
    · rw [if_pos hg] at hq
      rw [if_pos (show X.1 < n ∧ T X.1 = 42 from hg)]
      refine ⟨fun z => absurd z z10, fun _ => ?_⟩
      refine m_num (s := 5) hT (up_eq _ _ _) (by omega) _ ?_
      obtain ⟨o1, o2, _⟩ := nf_ok (T := T) (s := 5) (show X.1 + 1 ≤ n by omega)
      cases hv : (nf T n 5 (X.1 + 1)).2 with
      | none =>
        rw [fl_none hv] at hq
        refine ⟨fun z => absurd rfl z, fun _ => ?_⟩
        exact hq _ ⟨up_eq _ _ _, fun j hj => by rw [up_ne _ _ (by omega), up_ne _ _ (by omega), up_ne _ _ (by omega), ha.2.1 j hj], fun z => by cases z⟩
      | some v =>
        refine ⟨fun _ => ?_, fun z => absurd z z10⟩
        simp only [forall_eq]
        rw [jv_in _ _ (by decide), up_ne _ _ (by decide), up_eq, jv_sI _ _ (by decide)]
        rw [m_goesOn hT (p := (nf T n 5 (X.1 + 1)).1) (by rw [up_ne _ _ (by decide), up_eq]) o2]
        by_cases hh : (nf T n 5 (X.1 + 1)).1 < n ∧ T (nf T n 5 (X.1 + 1)).1 = sgn 1
        · rw [if_pos (show (nf T n 5 (X.1 + 1)).1 < n ∧ T (nf T n 5 (X.1 + 1)).1 = 62 from hh)]
          rw [fl_go hv hh] at hq
          refine ⟨fun z => absurd z z10, fun _ => ?_⟩
          refine m_num (s := 1) hT (up_eq _ _ _) (by omega) _ ?_
          cases hw : (nf T n 1 ((nf T n 5 (X.1 + 1)).1 + 1)).2 with
          | none =>
            rw [fl_none hw] at hq
            refine ⟨fun _ => ?_, fun z => absurd rfl z⟩
            exact hq _ ⟨up_eq _ _ _, fun j hj => by rw [up_ne _ _ (by omega), up_ne _ _ (by omega), up_ne _ _ (by omega), up_ne _ _ (by omega), up_ne _ _ (by omega), up_ne _ _ (by omega), up_ne _ _ (by omega), ha.2.1 j hj], fun z => by cases z⟩
          | some w =>
            rw [fl_one hw] at hq
            refine ⟨fun z => absurd z z10, fun _ => ?_⟩
            refine hq _ ⟨up_eq _ _ _, fun j hj => by rw [up_ne _ _ (by omega), up_ne _ _ (by omega), up_ne _ _ (by omega), up_ne _ _ (by omega), up_ne _ _ (by omega), up_ne _ _ (by omega), up_ne _ _ (by omega), ha.2.1 j hj], fun _ => ?_⟩
            -- the first two numbers
            have h2 : ∃ x y, X.2.1 = [x, y] ∧ c' 11 = nI x ∧ c' 12 = nI y := by
              rw [← hX] at hvs hb ⊢
              cases hv0 : (nf T n 0 p).2 with
              | none => rw [fl_none hv0] at hb; cases hb
              | some x =>
                by_cases hg0 : (nf T n 0 p).1 < n ∧ T (nf T n 0 p).1 = sgn 3
                · rw [fl_go hv0 hg0] at hb hvs ⊢
                  cases hv1 : (nf T n 3 ((nf T n 0 p).1 + 1)).2 with
                  | none => rw [fl_none hv1] at hb; cases hb
                  | some y =>
                    rw [fl_one hv1] at hvs ⊢
                    exact ⟨x, y, rfl, hvs⟩
                · rw [fl_stop hv0 hg0] at hb; cases hb
            obtain ⟨x, y, hxy, h11, h12⟩ := h2
            rw [hxy]
            refine ⟨?_, ?_, ?_, ?_⟩
            · rw [up_ne _ _ (by decide), up_ne _ _ (by decide), up_ne _ _ (by decide), up_ne _ _ (by decide), up_ne _ _ (by decide), up_ne _ _ (by decide), up_ne _ _ (by decide), h11]
            · rw [up_ne _ _ (by decide), up_ne _ _ (by decide), up_ne _ _ (by decide), up_ne _ _ (by decide), up_ne _ _ (by decide), up_ne _ _ (by decide), up_ne _ _ (by decide), h12]
            · rw [up_ne _ _ (by decide), up_ne _ _ (by decide), up_ne _ _ (by decide), up_eq]
              rfl
            · rw [up_ne _ _ (by decide), up_eq]
              rfl
        · rw [if_neg (show ¬ ((nf T n 5 (X.1 + 1)).1 < n ∧ T (nf T n 5 (X.1 + 1)).1 = 62) from hh)]
          rw [fl_stop hv hh] at hq
          refine ⟨fun _ => ?_, fun z => absurd rfl z⟩
          exact hq _ ⟨by rw [up_ne _ _ (by decide), up_eq], fun j hj => by rw [up_ne _ _ (by omega), up_ne _ _ (by omega), up_ne _ _ (by omega), up_ne _ _ (by omega), ha.2.1 j hj], fun z => by cases z⟩
    · rw [if_neg hg] at hq
      rw [if_neg (show ¬ (X.1 < n ∧ T X.1 = 42) from hg)]
      refine ⟨fun _ => ?_, fun z => absurd rfl z⟩
      exact hq _ ⟨ha.1, ha.2.1, fun z => by cases z⟩
end SEM28
