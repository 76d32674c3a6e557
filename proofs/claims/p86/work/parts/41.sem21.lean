section SEM21
variable {m m' : Mm} {i p a s : Nat} {f : Nat → Int32}
def cp (t x y n : Nat) (m : Mm) : Mm := (fun t' j q => if t' = t ∧ j = x ∧ q < n then m.1 t y q else m.1 t' j q, m.2)
def cpG (t x y q : Nat) (m : Mm) : Mm := sI m t x q (m.1 t y q)
theorem cp_eq (t : Nat) {x y : Nat} (h : ¬ y = x) (m : Mm) : ∀ n, fo (cpG t x y) n m = cp t x y n m := by
  intro n
  induction n with
  | zero =>
    refine Prod.ext ?_ rfl
    funext t' j q
    show m.1 t' j q = if _ then _ else _
    rw [if_neg (by omega)]
  | succ n ih =>
    show cpG t x y n (fo (cpG t x y) n m) = _
    rw [ih]
    refine Prod.ext ?_ rfl
    funext t' j q
    show (if t' = t ∧ j = x ∧ q = n then (if t = t ∧ y = x ∧ n < n then m.1 t y n else m.1 t y n) else (if t' = t ∧ j = x ∧ q < n then m.1 t y q else m.1 t' j q)) = (if t' = t ∧ j = x ∧ q < n + 1 then m.1 t y q else m.1 t' j q)
    rw [if_neg (show ¬ (t = t ∧ y = x ∧ n < n) by omega)]
    by_cases z : t' = t ∧ j = x ∧ q = n
    · obtain ⟨rfl, rfl, rfl⟩ := z
      rw [if_pos ⟨rfl, rfl, rfl⟩, if_pos ⟨rfl, rfl, by omega⟩]
    · rw [if_neg z]
      by_cases y' : t' = t ∧ j = x ∧ q < n
      · rw [if_pos y', if_pos ⟨y'.1, y'.2.1, by omega⟩]
      · rw [if_neg y', if_neg (fun w => y' ⟨w.1, w.2.1, by
          have := w.2.2
          by_cases q' : q = n
          · exact absurd ⟨w.1, w.2.1, q'⟩ z
          · omega⟩)]
theorem cp_in {t x y n : Nat} {m : Mm} {q : Nat} (h : q < n) : (cp t x y n m).1 t x q = m.1 t y q := if_pos ⟨rfl, rfl, h⟩
theorem cp_out {t x y n : Nat} {m : Mm} {t' j q : Nat} (h : ¬ (t' = t ∧ j = x)) : (cp t x y n m).1 t' j q = m.1 t' j q := if_neg (fun z => h ⟨z.1, z.2.1⟩)
theorem k_X0 {x y : Nat} (h : ¬ y = x) (hb : isB (m.1 5 y 1)) (Q : Mm → Prop) : w_X0_copyFrom x y m Q ↔ Q (cp 5 x y 2 m) := by
  unfold w_X0_copyFrom
  simp only [forall_eq]
  have e1 := cp_eq 5 h m 1
  have e2 := cp_eq 5 h m 2
  show isB ((fo (cpG 5 x y) 1 m).1 5 y 1) ∧ Q (fo (cpG 5 x y) 2 m) ↔ _
  rw [e1, e2, cp_out (fun z => h z.2)]
  exact ⟨fun z => z.2, fun z => ⟨hb, z⟩⟩
theorem k_X2 {x y : Nat} (h : ¬ y = x) (hb : isB (m.1 3 y 7)) (Q : Mm → Prop) : w_X2_copyFrom x y m Q ↔ Q (cp 3 x y 8 m) := by
  unfold w_X2_copyFrom
  simp only [forall_eq]
  have e1 := cp_eq 3 h m 7
  have e2 := cp_eq 3 h m 8
  show isB ((fo (cpG 3 x y) 7 m).1 3 y 7) ∧ Q (fo (cpG 3 x y) 8 m) ↔ _
  rw [e1, e2, cp_out (fun z => h z.2)]
  exact ⟨fun z => z.2, fun z => ⟨hb, z⟩⟩
theorem k_X5 {x y : Nat} (h : ¬ y = x) (Q : Mm → Prop) : w_X5_copyFrom x y m Q ↔ Q (cp 6 x y 8 m) := by
  unfold w_X5_copyFrom
  simp only [forall_eq]
  show Q (fo (cpG 6 x y) 8 m) ↔ _
  rw [cp_eq 6 h m 8]
theorem k_X6 {x y : Nat} (h : ¬ y = x) (Q : Mm → Prop) : w_X6_copyFrom x y m Q ↔ Q (cp 2 x y 7 m) := by
  unfold w_X6_copyFrom
  simp only [forall_eq]
  show Q (fo (cpG 2 x y) 7 m) ↔ _
  rw [cp_eq 2 h m 7]
theorem k_X7 {x y : Nat} (h : ¬ y = x) (Q : Mm → Prop) : w_X7_copyFrom x y m Q ↔ Q (cp 4 x y 4 m) := by
  unfold w_X7_copyFrom
  simp only [forall_eq]
  show Q (fo (cpG 4 x y) 4 m) ↔ _
  rw [cp_eq 4 h m 4]
/-- rows are copied one by one -/
def rwG (t n : Nat) (A B : Nat → Nat) (e : Nat) (m : Mm) : Mm := cp t (A e) (B e) n m
theorem rw_eq (t n : Nat) (A B : Nat → Nat) (N : Nat) (m : Mm) (hinj : ∀ x y, x < N → y < N → A x = A y → x = y) (hd : ∀ x y, x < N → y < N → ¬ B y = A x) : ∀ j, j ≤ N → (fo (rwG t n A B) j m).2 = m.2 ∧ (∀ e, e < j → ∀ q, q < n → (fo (rwG t n A B) j m).1 t (A e) q = m.1 t (B e) q) ∧ (∀ t' r q, ¬ (t' = t ∧ ∃ e, e < j ∧ r = A e) → (fo (rwG t n A B) j m).1 t' r q = m.1 t' r q) := by
  intro j
  induction j with
  | zero => intro _; exact ⟨rfl, fun e he => absurd he (by omega), fun _ _ _ _ => rfl⟩
  | succ j ih =>
    intro hj
    obtain ⟨i1, i2, i3⟩ := ih (by omega)
    refine ⟨i1, fun e he q hq => ?_, fun t' r q h => ?_⟩
    · show (cp t (A j) (B j) n (fo (rwG t n A B) j m)).1 t (A e) q = _
      by_cases z : e = j
      · subst z
        rw [cp_in hq]
        exact i3 _ _ _ (fun w => by
          obtain ⟨_, e', h1, h2⟩ := w
          exact hd e' e (by omega) (by omega) h2)
      · rw [cp_out (fun w => z (hinj e j (by omega) (by omega) w.2))]
        exact i2 e (by omega) q hq
    · show (cp t (A j) (B j) n (fo (rwG t n A B) j m)).1 t' r q = _
      rw [cp_out (fun w => h ⟨w.1, j, by omega, w.2⟩)]
      exact i3 _ _ _ (fun w => h ⟨w.1, by obtain ⟨_, e', h1, h2⟩ := w; exact ⟨e', by omega, h2⟩⟩)
theorem itr_run {α σ : Type} (B : (α → Prop) → α → Prop) (st : Nat → σ → α) (N : Nat) (g : Nat → σ → σ) (s0 : σ)
    (hstep : ∀ K j, j < N → K (st (j + 1) (fo g (j + 1) s0)) → B K (st j (fo g j s0)))
    (hend : ∀ K, B K (st N (fo g N s0))) : ∃ n, itr B n (st 0 s0) := by
  have key : ∀ d j, j + d = N → ∃ n, itr B n (st j (fo g j s0)) := by
    intro d
    induction d with
    | zero =>
      intro j hj
      obtain rfl : j = N := by omega
      exact ⟨1, hend _⟩
    | succ d ih =>
      intro j hj
      obtain ⟨n, hn⟩ := ih (j + 1) (by omega)
      exact ⟨n + 1, hstep _ j (by omega) hn⟩
  exact key N 0 (by omega)
/-- state i becomes what state p is -/
theorem c_copyFrom (hR : RS m p f) (hI : Inv a s f) (hp : RSp m i) (hip : ¬ i = p) (hi : 1 ≤ i ∧ i ≤ 9) (hpp : 1 ≤ p ∧ p ≤ 9) (Q : Mm → Prop) (hq : ∀ m', m'.2 = m.2 → Fr i m m' → RS m' i f → Q m') : w_X8_copyFrom i p m Q := by
  have hpi : ¬ p = i := fun z => hip z.symm
  have h16 := hI.mo16
  have h12 := hI.mr12
  have hRp := hR.2.2.2.2.2.2
  unfold w_X8_copyFrom
  simp only [forall_eq]
  show w_X6_copyFrom i p (fo (cpG 1 i p) 5 m) _
  rw [cp_eq 1 hpi m 5, k_X6 hpi]
  -- what there is after the plain cells
  have e3 : ∀ t r q, ¬ t = 1 → ¬ t = 2 → (cp 2 i p 7 (cp 1 i p 5 m)).1 t r q = m.1 t r q := fun t r q h1 h2 => by
    rw [cp_out (fun z => h2 z.1), cp_out (fun z => h1 z.1)]
  have e1 : ∀ q, q < 5 → (cp 2 i p 7 (cp 1 i p 5 m)).1 1 i q = m.1 1 p q := fun q h => by
    rw [cp_out (fun z => absurd z.1 (by decide)), cp_in h]
  have e2 : ∀ q, q < 7 → (cp 2 i p 7 (cp 1 i p 5 m)).1 2 i q = m.1 2 p q := fun q h => by
    rw [cp_in h, cp_out (fun z => absurd z.1 (by decide))]
  have eF : Fr i m (cp 2 i p 7 (cp 1 i p 5 m)) := fun t r q h => ⟨by
    rw [cp_out (fun z => h (by rw [z.1, z.2]; rfl)), cp_out (fun z => h (by rw [z.1, z.2]; rfl))], rfl⟩
  have er : (cp 2 i p 7 (cp 1 i p 5 m)).2 = m.2 := rfl
  generalize cp 2 i p 7 (cp 1 i p 5 m) = z0 at *
  -- the entries
  have hE := rw_eq 3 8 (m.2 7 i) (m.2 7 p) 16 z0 (fun x y hx hy h => hp.2.1 x y hx hy h) (fun x y hx hy h => by
    have h1 := hp.1 x hx
    have h2 := hRp.1 y hy
    omega)
  have hRr := rw_eq 4 4 (m.2 8 i) (m.2 8 p) 12 (fo (rwG 3 8 (m.2 7 i) (m.2 7 p)) (mo f) z0) (fun x y hx hy h => hp.2.2.2 x y hx hy h) (fun x y hx hy h => by
    have h1 := hp.2.2.1 x hx
    have h2 := hRp.2.2.1 y hy
    omega)
  have hC := rw_eq 5 2 (fun c => 5 * (i - 1) + c + 1) (fun c => 5 * (p - 1) + c + 1) 5 (fo (rwG 4 4 (m.2 8 i) (m.2 8 p)) (mr f) (fo (rwG 3 8 (m.2 7 i) (m.2 7 p)) (mo f) z0)) (fun x y hx hy h => by
    have h : 5 * (i - 1) + x + 1 = 5 * (i - 1) + y + 1 := h
    omega) (fun x y hx hy h => by
    have h : 5 * (p - 1) + y + 1 = 5 * (i - 1) + x + 1 := h
    omega)
  have hK := rw_eq 6 8 (fun c => 6 * (i - 1) + c + 1) (fun c => 6 * (p - 1) + c + 1) 6 (fo (rwG 5 2 (fun c => 5 * (i - 1) + c + 1) (fun c => 5 * (p - 1) + c + 1)) 5 (fo (rwG 4 4 (m.2 8 i) (m.2 8 p)) (mr f) (fo (rwG 3 8 (m.2 7 i) (m.2 7 p)) (mo f) z0))) (fun x y hx hy h => by
    have h : 6 * (i - 1) + x + 1 = 6 * (i - 1) + y + 1 := h
    omega) (fun x y hx hy h => by
    have h : 6 * (p - 1) + y + 1 = 6 * (i - 1) + x + 1 := h
    omega)
  refine itr_run _ (fun j s => (nI j, s)) (mo f) (rwG 3 8 (m.2 7 i) (m.2 7 p)) z0 (fun K j hj hk0 => ?_) (fun K => ?_)
  · have hj16 : j < 16 := by omega
    obtain ⟨g1, g2, g3⟩ := hE j (by omega)
    have hk0 : K (nI (j + 1), rwG 3 8 (m.2 7 i) (m.2 7 p) j (fo (rwG 3 8 (m.2 7 i) (m.2 7 p)) j z0)) := hk0
    generalize fo (rwG 3 8 (m.2 7 i) (m.2 7 p)) j z0 = z at *
    have ht : (nI j).toNatClampNeg = j := rs_tn (by omega)
    have hv : vp_in (nI j) 16 := vp_in_nI hj16 (by decide)
    have h117 : z.1 1 i 1 = f 117 := by rw [g3 _ _ _ (fun w => absurd w.1 (by decide)), e1 1 (by decide), hR.opn]
    have hpr := hRp.1 j hj16
    have hir := hp.1 j hj16
    have hb7 : isB (z.1 3 (z.2 7 p j) 7) := by
      rw [g1, er, g3 _ _ _ (fun w => by
        obtain ⟨_, e', h1, h2⟩ := w
        have := hp.1 e' (by omega)
        omega), e3 _ _ _ (by decide) (by decide), hR.e7 hj]
      exact rng01 (hI.ent j hj).2.2.2.2.2.2.2
    have hok1 : ok 3 (z.2 7 p j) := by rw [g1, er]; exact hR.oke hpp hj16
    have hok2 : ok 3 (z.2 7 i j) := by
      rw [g1, er]
      show 1 ≤ _ ∧ _ ≤ 144
      omega
    simp only [w_X8_copyFrom_B53, h117, mo_lt hI.opn hj, ht, hv, hok1, hok2, nI_1, not_true_eq_false, not_false_eq_true, false_implies, true_implies, true_and, and_true, forall_eq, if_true, if_false, reduceIte]
    rw [k_X2 (by rw [g1, er]; omega) hb7, g1, er]
    exact hk0
  · obtain ⟨g1, g2, g3⟩ := hE (mo f) h16
    generalize fo (rwG 3 8 (m.2 7 i) (m.2 7 p)) (mo f) z0 = z1 at *
    have h117 : z1.1 1 i 1 = f 117 := by rw [g3 _ _ _ (fun w => absurd w.1 (by decide)), e1 1 (by decide), hR.opn]
    simp only [w_X8_copyFrom_B53, h117, mo_le hI.opn, not_true_eq_false, not_false_eq_true, false_implies, true_implies, true_and, and_true, forall_eq, if_true, if_false, reduceIte]
    refine itr_run _ (fun j s => (nI j, s)) (mr f) (rwG 4 4 (m.2 8 i) (m.2 8 p)) z1 (fun K j hj hk0 => ?_) (fun K => ?_)
    · have hj12 : j < 12 := by omega
      obtain ⟨g4, g5, g6⟩ := hRr j (by omega)
      have hk0 : K (nI (j + 1), rwG 4 4 (m.2 8 i) (m.2 8 p) j (fo (rwG 4 4 (m.2 8 i) (m.2 8 p)) j z1)) := hk0
      generalize fo (rwG 4 4 (m.2 8 i) (m.2 8 p)) j z1 = z at *
      have ht : (nI j).toNatClampNeg = j := rs_tn (by omega)
      have hv : vp_in (nI j) 12 := vp_in_nI hj12 (by decide)
      have h68 : z.1 1 i 4 = f 68 := by rw [g6 _ _ _ (fun w => absurd w.1 (by decide)), g3 _ _ _ (fun w => absurd w.1 (by decide)), e1 4 (by decide), hR.recs]
      have hlt : ¬ f 68 ≤ nI j := by
        have h9 := hI.recs
        rw [h9.1, nI_leI (by have := h9.2; omega) (by omega)]
        exact Nat.not_le.mpr hj
      have hpr := hRp.2.2.1 j hj12
      have hir := hp.2.2.1 j hj12
      have hok1 : ok 4 (z.2 8 p j) := by rw [g4, g1, er]; exact hR.okr hpp hj12
      have hok2 : ok 4 (z.2 8 i j) := by
        rw [g4, g1, er]
        show 1 ≤ _ ∧ _ ≤ 108
        omega
      simp only [w_X8_copyFrom_B84, h68, hlt, ht, hv, hok1, hok2, nI_1, not_true_eq_false, not_false_eq_true, false_implies, true_implies, true_and, and_true, forall_eq, if_true, if_false, reduceIte]
      rw [k_X7 (by rw [g4, g1, er]; omega), g4, g1, er]
      exact hk0
    · obtain ⟨g4, g5, g6⟩ := hRr (mr f) h12
      generalize fo (rwG 4 4 (m.2 8 i) (m.2 8 p)) (mr f) z1 = z2 at *
      have h68 : z2.1 1 i 4 = f 68 := by rw [g6 _ _ _ (fun w => absurd w.1 (by decide)), g3 _ _ _ (fun w => absurd w.1 (by decide)), e1 4 (by decide), hR.recs]
      have hle : f 68 ≤ nI (mr f) := by
        have h9 := hI.recs
        rw [h9.1]
        exact Int32.le_refl _
      simp only [w_X8_copyFrom_B84, h68, hle, not_true_eq_false, not_false_eq_true, false_implies, true_implies, true_and, and_true, forall_eq, if_true, if_false, reduceIte]
      refine itr_run _ (fun j s => (nI j, s)) 5 (rwG 5 2 (fun c => 5 * (i - 1) + c + 1) (fun c => 5 * (p - 1) + c + 1)) z2 (fun K j hj hk0 => ?_) (fun K => ?_)
      · obtain ⟨g7, g8, g9⟩ := hC j (by omega)
        have hk0 : K (nI (j + 1), rwG 5 2 (fun c => 5 * (i - 1) + c + 1) (fun c => 5 * (p - 1) + c + 1) j (fo (rwG 5 2 (fun c => 5 * (i - 1) + c + 1) (fun c => 5 * (p - 1) + c + 1)) j z2)) := hk0
        generalize fo (rwG 5 2 (fun c => 5 * (i - 1) + c + 1) (fun c => 5 * (p - 1) + c + 1)) j z2 = z at *
        have ht : (nI j).toNatClampNeg = j := rs_tn (by omega)
        have hv : vp_in (nI j) 5 := vp_in_nI hj (by decide)
        have hlt : ¬ (5 : Int32) ≤ nI j := by
          rw [show (5 : Int32) = nI 5 from rfl, nI_leI (by decide) (by omega)]
          omega
        have hb : isB (z.1 5 (5 * (p - 1) + j + 1) 1) := by
          rw [g9 _ _ _ (fun w => by
            obtain ⟨_, e', h1, h2⟩ := w
            have h2 : 5 * (p - 1) + j + 1 = 5 * (i - 1) + e' + 1 := h2
            omega), g6 _ _ _ (fun w => absurd w.1 (by decide)), g3 _ _ _ (fun w => absurd w.1 (by decide)), e3 _ _ _ (by decide) (by decide), hR.brok hj]
          exact rng01 (hI.cham j hj).2.1
        simp only [w_X8_copyFrom_B115, hlt, ht, hv, nI_1, not_true_eq_false, not_false_eq_true, false_implies, true_implies, true_and, and_true, forall_eq, if_true, if_false, reduceIte]
        rw [k_X0 (by omega) hb]
        exact hk0
      · obtain ⟨g7, g8, g9⟩ := hC 5 (Nat.le_refl _)
        generalize fo (rwG 5 2 (fun c => 5 * (i - 1) + c + 1) (fun c => 5 * (p - 1) + c + 1)) 5 z2 = z3 at *
        simp only [w_X8_copyFrom_B115, show (5 : Int32) ≤ nI 5 by decide, not_true_eq_false, not_false_eq_true, false_implies, true_implies, true_and, and_true, forall_eq, if_true, if_false, reduceIte]
        refine itr_run _ (fun j s => (nI j, s)) 6 (rwG 6 8 (fun c => 6 * (i - 1) + c + 1) (fun c => 6 * (p - 1) + c + 1)) z3 (fun K j hj hk0 => ?_) (fun K => ?_)
        · obtain ⟨g10, g11, g12⟩ := hK j (by omega)
          have hk0 : K (nI (j + 1), rwG 6 8 (fun c => 6 * (i - 1) + c + 1) (fun c => 6 * (p - 1) + c + 1) j (fo (rwG 6 8 (fun c => 6 * (i - 1) + c + 1) (fun c => 6 * (p - 1) + c + 1)) j z3)) := hk0
          generalize fo (rwG 6 8 (fun c => 6 * (i - 1) + c + 1) (fun c => 6 * (p - 1) + c + 1)) j z3 = z at *
          have ht : (nI j).toNatClampNeg = j := rs_tn (by omega)
          have hv : vp_in (nI j) 6 := vp_in_nI hj (by decide)
          have hlt : ¬ (6 : Int32) ≤ nI j := by
            rw [show (6 : Int32) = nI 6 from rfl, nI_leI (by decide) (by omega)]
            omega
          simp only [w_X8_copyFrom_B143, hlt, ht, hv, nI_1, not_true_eq_false, not_false_eq_true, false_implies, true_implies, true_and, and_true, forall_eq, if_true, if_false, reduceIte]
          rw [k_X5 (by omega)]
          exact hk0
        · obtain ⟨g10, g11, g12⟩ := hK 6 (Nat.le_refl _)
          generalize fo (rwG 6 8 (fun c => 6 * (i - 1) + c + 1) (fun c => 6 * (p - 1) + c + 1)) 6 z3 = z4 at *
          simp only [w_X8_copyFrom_B143, show (6 : Int32) ≤ nI 6 by decide, not_true_eq_false, not_false_eq_true, false_implies, true_implies, true_and, and_true, forall_eq, if_true, if_false, reduceIte]
          have e24 : z4.2 = m.2 := by rw [g10, g7, g4, g1, er]
          refine hq z4 e24 (fun t r q h => ⟨?_, by rw [e24]⟩) ⟨fun q h => ?_, fun q h => ?_, fun c h => ?_, fun k hk q h => ?_, fun e he q h => ?_, fun r hr q h => ?_, ?_⟩
          · rw [g12 _ _ _ (fun w => by
              obtain ⟨rfl, e', h1, h2⟩ := w
              exact h (by rw [h2]; exact own6 hi.1 h1)), g9 _ _ _ (fun w => by
              obtain ⟨rfl, e', h1, h2⟩ := w
              exact h (by rw [h2]; exact own5 hi.1 h1)), g6 _ _ _ (fun w => by
              obtain ⟨rfl, e', h1, h2⟩ := w
              exact h (by rw [h2]; exact own4 hi.1 (hp.2.2.1 e' (by omega)))), g3 _ _ _ (fun w => by
              obtain ⟨rfl, e', h1, h2⟩ := w
              exact h (by rw [h2]; exact own3 hi.1 (hp.1 e' (by omega))))]
            exact (eF t r q h).1
          · rw [g12 _ _ _ (fun w => absurd w.1 (by decide)), g9 _ _ _ (fun w => absurd w.1 (by decide)), g6 _ _ _ (fun w => absurd w.1 (by decide)), g3 _ _ _ (fun w => absurd w.1 (by decide)), e1 q h]
            exact hR.1 q h
          · rw [g12 _ _ _ (fun w => absurd w.1 (by decide)), g9 _ _ _ (fun w => absurd w.1 (by decide)), g6 _ _ _ (fun w => absurd w.1 (by decide)), g3 _ _ _ (fun w => absurd w.1 (by decide)), e2 q h]
            exact hR.2.1 q h
          · have key : ∀ q, q < 2 → z4.1 5 (5 * (i - 1) + c + 1) q = m.1 5 (5 * (p - 1) + c + 1) q := fun q hq' => by
              rw [g12 _ _ _ (fun w => absurd w.1 (by decide)), g8 c h q hq', g6 _ _ _ (fun w => absurd w.1 (by decide)), g3 _ _ _ (fun w => absurd w.1 (by decide)), e3 _ _ _ (by decide) (by decide)]
            rw [key 0 (by decide), key 1 (by decide)]
            exact hR.2.2.1 c h
          · rw [g11 k hk q h, g9 _ _ _ (fun w => absurd w.1 (by decide)), g6 _ _ _ (fun w => absurd w.1 (by decide)), g3 _ _ _ (fun w => absurd w.1 (by decide)), e3 _ _ _ (by decide) (by decide)]
            exact hR.2.2.2.1 k hk q h
          · rw [e24, g12 _ _ _ (fun w => absurd w.1 (by decide)), g9 _ _ _ (fun w => absurd w.1 (by decide)), g6 _ _ _ (fun w => absurd w.1 (by decide)), g2 e he q h, e3 _ _ _ (by decide) (by decide)]
            exact hR.2.2.2.2.1 e he q h
          · rw [e24, g12 _ _ _ (fun w => absurd w.1 (by decide)), g9 _ _ _ (fun w => absurd w.1 (by decide)), g5 r hr q h, g3 _ _ _ (fun w => absurd w.1 (by decide)), e3 _ _ _ (by decide) (by decide)]
            exact hR.2.2.2.2.2.1 r hr q h
          · unfold RSp
            rw [e24]
            exact hp
end SEM21
