section SEM27
variable {mm : Mm} {T : Nat → Int32} {p n lo hi : Nat}
def nx (lo hi : Nat) (v : Option Nat) (c : Int32) : Option Nat :=
  if 48 ≤ c ∧ c ≤ 57 then
    (match v with
    | none => if lo ≤ (c - 48).toNatClampNeg ∧ (c - 48).toNatClampNeg ≤ hi then some (c - 48).toNatClampNeg else none
    | some w => if w = 0 then none else if 10 * w + (c - 48).toNatClampNeg ≤ hi then some (10 * w + (c - 48).toNatClampNeg) else none)
  else none
def nv (T : Nat → Int32) (lo hi : Nat) : Nat → Nat → Option Nat → Nat × Option Nat
  | 0, p, v => (p, v)
  | k + 1, p, v => match nx lo hi v (T p) with
    | none => (p, v)
    | some x => nv T lo hi k (p + 1) (some x)
theorem nv_no {k p : Nat} {v : Option Nat} (h : nx lo hi v (T p) = none) : nv T lo hi (k + 1) p v = (p, v) := by
  show (match nx lo hi v (T p) with | none => (p, v) | some x => nv T lo hi k (p + 1) (some x)) = _
  rw [h]
theorem nv_yes {k p x : Nat} {v : Option Nat} (h : nx lo hi v (T p) = some x) : nv T lo hi (k + 1) p v = nv T lo hi k (p + 1) (some x) := by
  show (match nx lo hi v (T p) with | none => (p, v) | some x => nv T lo hi k (p + 1) (some x)) = _
  rw [h]
theorem nx_le {v : Option Nat} {c : Int32} {x : Nat} (h : nx lo hi v c = some x) : x ≤ hi := by
  unfold nx at h
  split at h
  · split at h
    · split at h
      · rename_i q
        cases h
        exact q.2
      · cases h
    · split at h
      · cases h
      · split at h
        · rename_i q
          cases h
          exact q
        · cases h
  · cases h
theorem nv_le {k : Nat} : ∀ p v, p ≤ (nv T lo hi k p v).1 ∧ (nv T lo hi k p v).1 ≤ p + k ∧ (∀ w, (nv T lo hi k p v).2 = some w → w ≤ hi ∨ v = some w) ∧ ((nv T lo hi k p v).2 = none → v = none ∧ (nv T lo hi k p v).1 = p) := by
  induction k with
  | zero => intro p v; exact ⟨Nat.le_refl _, Nat.le_refl _, fun w h => Or.inr h, fun h => ⟨h, rfl⟩⟩
  | succ k ih =>
    intro p v
    cases h : nx lo hi v (T p) with
    | none => rw [nv_no h]; exact ⟨Nat.le_refl _, Nat.le_add_right _ _, fun w h => Or.inr h, fun h => ⟨h, rfl⟩⟩
    | some x =>
      rw [nv_yes h]
      obtain ⟨i1, i2, i3, i4⟩ := ih (p + 1) (some x)
      refine ⟨by omega, by omega, fun w hw => ?_, fun hw => absurd (i4 hw).1 (by simp)⟩
      rcases i3 w hw with q | q
      · exact Or.inl q
      · cases q
        exact Or.inl (nx_le h)
def ov (v : Option Nat) : Int32 := match v with
  | none => 0
  | some w => nI w
def oc (v : Option Nat) : Int32 := match v with
  | none => -1
  | some w => nI w
def ob (v : Option Nat) : Int32 := match v with
  | none => 0
  | some _ => 1
def pv (mm : Mm) (p : Nat) (x : Int32) : Mm := (fun t i j => if t = 30 ∧ i = 1 ∧ j = 9 then nI p else if t = 30 ∧ i = 1 ∧ j = 10 then x else mm.1 t i j, mm.2)
theorem pv_9 (mm : Mm) (p : Nat) (x : Int32) : (pv mm p x).1 30 1 9 = nI p := by
  show (if 30 = 30 ∧ 1 = 1 ∧ 9 = 9 then nI p else if 30 = 30 ∧ 1 = 1 ∧ 9 = 10 then x else mm.1 30 1 9) = nI p
  rw [if_pos (by decide)]
theorem pv_10 (mm : Mm) (p : Nat) (x : Int32) : (pv mm p x).1 30 1 10 = x := by
  show (if 30 = 30 ∧ 1 = 1 ∧ 10 = 9 then nI p else if 30 = 30 ∧ 1 = 1 ∧ 10 = 10 then x else mm.1 30 1 10) = x
  rw [if_neg (by decide), if_pos (by decide)]
theorem pv_ne (mm : Mm) (p : Nat) (x : Int32) {t i j : Nat} (h : ¬ (t = 30 ∧ i = 1 ∧ (j = 9 ∨ j = 10))) : (pv mm p x).1 t i j = mm.1 t i j := by
  show (if t = 30 ∧ i = 1 ∧ j = 9 then nI p else if t = 30 ∧ i = 1 ∧ j = 10 then x else mm.1 t i j) = _
  rw [if_neg (fun z => h ⟨z.1, z.2.1, Or.inl z.2.2⟩), if_neg (fun z => h ⟨z.1, z.2.1, Or.inr z.2.2⟩)]
theorem pv_s10 (mm : Mm) (p : Nat) (x y : Int32) : sI (pv mm p x) 30 1 10 y = pv mm p y := by
  refine Mm_ext (fun t i j => ?_) rfl
  show (if t = 30 ∧ i = 1 ∧ j = 10 then y else if t = 30 ∧ i = 1 ∧ j = 9 then nI p else if t = 30 ∧ i = 1 ∧ j = 10 then x else mm.1 t i j) = if t = 30 ∧ i = 1 ∧ j = 9 then nI p else if t = 30 ∧ i = 1 ∧ j = 10 then y else mm.1 t i j
  by_cases h : t = 30 ∧ i = 1 ∧ j = 10
  · rw [if_pos h, if_neg (fun z => by omega), if_pos h]
  · rw [if_neg h, if_neg h, if_neg h]
theorem pv_s9 (mm : Mm) (p q : Nat) (x : Int32) : sI (pv mm p x) 30 1 9 (nI q) = pv mm q x := by
  refine Mm_ext (fun t i j => ?_) rfl
  show (if t = 30 ∧ i = 1 ∧ j = 9 then nI q else if t = 30 ∧ i = 1 ∧ j = 9 then nI p else if t = 30 ∧ i = 1 ∧ j = 10 then x else mm.1 t i j) = if t = 30 ∧ i = 1 ∧ j = 9 then nI q else if t = 30 ∧ i = 1 ∧ j = 10 then x else mm.1 t i j
  by_cases h : t = 30 ∧ i = 1 ∧ j = 9
  · rw [if_pos h, if_pos h]
  · rw [if_neg h, if_neg h, if_neg h]
theorem pv_self {mm : Mm} (h : mm.1 30 1 9 = nI p) : sI mm 30 1 10 0 = pv mm p 0 := by
  refine Mm_ext (fun t i j => ?_) rfl
  show (if t = 30 ∧ i = 1 ∧ j = 10 then (0 : Int32) else mm.1 t i j) = if t = 30 ∧ i = 1 ∧ j = 9 then nI p else if t = 30 ∧ i = 1 ∧ j = 10 then 0 else mm.1 t i j
  by_cases h9 : t = 30 ∧ i = 1 ∧ j = 9
  · rw [if_pos h9, if_neg (fun z => by omega), h9.1, h9.2.1, h9.2.2, h]
  · rw [if_neg h9]
theorem itr_one {α : Type} {B : (α → Prop) → α → Prop} {x y : α} (h : ∀ K : α → Prop, K y → B K x) (hy : ∃ n, itr B n y) : ∃ n, itr B n x := by
  obtain ⟨n, hn⟩ := hy
  exact ⟨n + 1, h _ hn⟩
theorem itr_end {α : Type} {B : (α → Prop) → α → Prop} {x : α} (h : ∀ K : α → Prop, B K x) : ∃ n, itr B n x := ⟨1, h _⟩
theorem le_nI {a b : Nat} (ha : a < 100000) (hb : b < 100000) : (nI a ≤ nI b) ↔ a ≤ b := nI_leI (by omega) (by omega)
theorem dig_ex {c : Int32} (h : 48 ≤ c ∧ c ≤ 57) : ∃ d, d ≤ 9 ∧ c = nI (48 + d) ∧ (c - 48).toNatClampNeg = d := by
  have hr : rng c 57 := rng_lit 57 (by decide) ⟨Int32.le_trans (by decide) h.1, h.2⟩
  obtain ⟨k, hk, rfl⟩ := hr.ex
  have h48 : 48 ≤ k := (le_nI (by decide) (by omega)).mp h.1
  refine ⟨k - 48, by omega, congrArg nI (by omega), ?_⟩
  rw [show (48 : Int32) = nI 48 from rfl, pk_sub h48]
  exact rs_tn (by omega)
/-- the reference reads a number -/
theorem m_number (h9 : mm.1 30 1 9 = nI p) (h2 : mm.1 30 1 2 = nI n) (hn : n ≤ 60) (hp : p ≤ n) (hT : ∀ j, j < n → mm.1 31 1 j = T j) (hlo : lo ≤ 1) (hhi : hi ≤ 9999) (Q : Int32 → Mm → Prop) (hq : Q (ob (nv T lo hi (n - p) p none).2) (pv mm (nv T lo hi (n - p) p none).1 (ov (nv T lo hi (n - p) p none).2))) : w_X10_number (nI lo) (nI hi) mm Q := by
  unfold w_X10_number
  simp only [forall_eq, h9]
  rw [pv_self h9]
  have key : ∀ k q v, q + k = n → p ≤ q → (v = none ↔ q = p) → (∀ w, v = some w → w ≤ hi) → Q (ob (nv T lo hi k q v).2) (pv mm (nv T lo hi k q v).1 (ov (nv T lo hi k q v).2)) → ∃ n, itr (α := Mm) (fun K a => w_X10_number_B10 (nI lo) (nI hi) Q (nI p) (fun z0 => K z0) a) n (pv mm q (ov v)) := by
    intro k
    induction k with
    | zero =>
      intro q v hk hpq hv hw hQ
      have e2 : (pv mm q (ov v)).1 30 1 2 = nI n := by rw [pv_ne _ _ _ (by omega)]; exact h2
      refine itr_end (fun K => ?_)
      unfold w_X10_number_B10
      simp only [e2, pv_9, show (nI n ≤ nI q) from (le_nI (by omega) (by omega)).mpr (by omega), not_true_eq_false, not_false_eq_true, false_implies, true_implies, true_and, and_true, forall_eq, if_true, if_false, reduceIte]
      have hQ : Q (ob v) (pv mm q (ov v)) := hQ
      cases v with
      | none =>
        have : q = p := hv.mp rfl
        subst this
        exact ⟨fun _ => hQ, fun z => absurd (Int32.le_refl _) z⟩
      | some w =>
        have : ¬ q = p := fun z => absurd (hv.mpr z) (by simp)
        have : ¬ nI q ≤ nI p := fun z => by have := (le_nI (by omega) (by omega)).mp z; omega
        exact ⟨fun z => absurd z this, fun _ => hQ⟩
    | succ k ih =>
      intro q v hk hpq hv hw hQ
      have hqn : q < n := by omega
      have e2 : (pv mm q (ov v)).1 30 1 2 = nI n := by rw [pv_ne _ _ _ (by omega)]; exact h2
      have e31 : (pv mm q (ov v)).1 31 1 q = T q := by rw [pv_ne _ _ _ (by omega)]; exact hT q hqn
      have ht : (nI q).toNatClampNeg = q := rs_tn (by omega)
      have hvv : vp_in (nI q) 60 := vp_in_nI (by omega) (by decide)
      have hle : ¬ nI n ≤ nI q := fun z => by have := (le_nI (by omega) (by omega)).mp z; omega
      -- what the end of a number answers
      have hstop : nx lo hi v (T q) = none → ((nI q ≤ nI p → Q 0 (pv mm q (ov v))) ∧ (¬ nI q ≤ nI p → Q 1 (pv mm q (ov v)))) := fun hnx => by
        rw [nv_no hnx] at hQ
        have hQ : Q (ob v) (pv mm q (ov v)) := hQ
        cases v with
        | none =>
          have : q = p := hv.mp rfl
          subst this
          exact ⟨fun _ => hQ, fun z => absurd (Int32.le_refl _) z⟩
        | some w =>
          have : ¬ q = p := fun z => absurd (hv.mpr z) (by simp)
          have : ¬ nI q ≤ nI p := fun z => by have := (le_nI (by omega) (by omega)).mp z; omega
          exact ⟨fun z => absurd z this, fun _ => hQ⟩
      have hgo : ∀ x, nx lo hi v (T q) = some x → ∃ n, itr (α := Mm) (fun K a => w_X10_number_B10 (nI lo) (nI hi) Q (nI p) (fun z0 => K z0) a) n (pv mm (q + 1) (ov (some x))) := fun x hx => by
        rw [nv_yes hx] at hQ
        exact ih (q + 1) (some x) (by omega) (by omega) ⟨fun z => absurd z (by simp), fun z => by omega⟩ (fun w hw => by cases hw; exact nx_le hx) hQ
      have hJ : ∀ d, d ≤ 9 → T q = nI (48 + d) → (v = none → nx lo hi v (T q) = if d ≤ hi then some d else none) → (∀ w, v = some w → nx lo hi v (T q) = if 10 * w + d ≤ hi then some (10 * w + d) else none) → (∀ x, nx lo hi v (T q) = some x → ∀ K : Mm → Prop, K (pv mm (q + 1) (ov (some x))) → w_X10_number_J79 (nI hi) Q (nI p) (pv mm q (ov v)) (fun z0 => K z0)) ∧ (nx lo hi v (T q) = none → ∀ K : Mm → Prop, w_X10_number_J79 (nI hi) Q (nI p) (pv mm q (ov v)) (fun z0 => K z0)) := by
        intro d hd hc hN hS
        have hval : ∃ y, y ≤ hi + 1000000 ∧ (10 : Int32) * ov v + T q - 48 = nI y ∧ nx lo hi v (T q) = if y ≤ hi then some y else none := by
          cases v with
          | none =>
            refine ⟨d, by omega, ?_, hN rfl⟩
            rw [hc]
            show (10 : Int32) * nI 0 + nI (48 + d) - nI 48 = nI d
            rw [show (10 : Int32) = nI 10 from rfl, pk_mul, nI_add, pk_sub (by omega)]
            congr 1
            omega
          | some w =>
            have hwl := hw w rfl
            refine ⟨10 * w + d, by omega, ?_, hS w rfl⟩
            rw [hc]
            show (10 : Int32) * nI w + nI (48 + d) - nI 48 = nI (10 * w + d)
            rw [show (10 : Int32) = nI 10 from rfl, pk_mul, nI_add, pk_sub (by omega)]
            congr 1
            omega
        obtain ⟨y, hy, e1, e2'⟩ := hval
        refine ⟨fun x hx K hK => ?_, fun hx K => ?_⟩
        · unfold w_X10_number_J79
          rw [pv_10, pv_9, ht, e31, e1]
          rw [e2'] at hx
          by_cases z : y ≤ hi
          · rw [if_pos z] at hx
            cases hx
            have hnl : ¬ nI hi < nI y := fun q => by have := (nI_ltI (by omega) (by omega)).mp q; omega
            simp only [hnl, pv_s10, pv_9, nI_1, pv_s9, not_true_eq_false, not_false_eq_true, false_implies, true_implies, true_and, and_true, forall_eq, if_true, if_false, reduceIte]
            exact hK
          · rw [if_neg z] at hx
            cases hx
        · unfold w_X10_number_J79
          rw [pv_10, pv_9, ht, e31, e1]
          have hst := hstop hx
          rw [e2'] at hx
          by_cases z : y ≤ hi
          · rw [if_pos z] at hx
            cases hx
          · have hl : nI hi < nI y := (nI_ltI (by omega) (by omega)).mpr (by omega)
            simp only [hl, not_true_eq_false, not_false_eq_true, false_implies, true_implies, true_and, and_true, forall_eq, if_true, if_false, reduceIte]
            exact hst
      by_cases hdg : 48 ≤ T q ∧ T q ≤ 57
      · obtain ⟨d, hd9, hc, hcd⟩ := dig_ex hdg
        cases v with
        | none =>
          have hqp : q = p := hv.mp rfl
          subst hqp
          have hnx : nx lo hi none (T q) = if lo ≤ d ∧ d ≤ hi then some d else none := by
            unfold nx
            rw [if_pos hdg, hcd]
          by_cases h48 : d = 0
          · subst h48
            have hc48 : ¬ (48 : Int32) < T q := by rw [hc]; decide
            by_cases hl : lo = 0
            · subst hl
              have hN : nx 0 hi none (T q) = some 0 := by rw [hnx, if_pos ⟨Nat.le_refl _, Nat.zero_le _⟩]
              have hj := (hJ 0 hd9 hc (fun _ => by rw [hN, if_pos (Nat.zero_le _)]) (fun w hw => by cases hw)).1 0 hN
              refine itr_one (fun K hK => ?_) (hgo 0 hN)
              unfold w_X10_number_B10
              simp only [e2, pv_9, hle, hvv, ht, e31, w_48_57, hdg, z10, hc48, show nI 0 = 0 from rfl, not_true_eq_false, not_false_eq_true, false_implies, true_implies, true_and, and_true, forall_eq, if_true, if_false, reduceIte]
              exact hj K hK
            · have hl1 : lo = 1 := by omega
              subst hl1
              have hN : nx 1 hi none (T q) = none := by rw [hnx, if_neg (by omega)]
              refine itr_end (fun K => ?_)
              unfold w_X10_number_B10
              simp only [e2, pv_9, hle, hvv, ht, e31, w_48_57, hdg, z10, hc48, show ¬ nI 1 = 0 from by decide, not_true_eq_false, not_false_eq_true, false_implies, true_implies, true_and, and_true, forall_eq, if_true, if_false, reduceIte]
              exact hstop hN
          · have hc48 : (48 : Int32) < T q := by
              rw [hc, show (48 : Int32) = nI 48 from rfl]
              exact (nI_ltI (by decide) (by omega)).mpr (by omega)
            have hj := hJ d hd9 hc (fun _ => by
              rw [hnx]
              by_cases y : d ≤ hi
              · rw [if_pos ⟨by omega, y⟩, if_pos y]
              · rw [if_neg (by omega), if_neg y]) (fun w hw => by cases hw)
            cases hN : nx lo hi none (T q) with
            | none =>
              refine itr_end (fun K => ?_)
              unfold w_X10_number_B10
              simp only [e2, pv_9, hle, hvv, ht, e31, w_48_57, hdg, z10, hc48, not_true_eq_false, not_false_eq_true, false_implies, true_implies, true_and, and_true, forall_eq, if_true, if_false, reduceIte]
              exact hj.2 hN K
            | some x =>
              refine itr_one (fun K hK => ?_) (hgo x hN)
              unfold w_X10_number_B10
              simp only [e2, pv_9, hle, hvv, ht, e31, w_48_57, hdg, z10, hc48, not_true_eq_false, not_false_eq_true, false_implies, true_implies, true_and, and_true, forall_eq, if_true, if_false, reduceIte]
              exact hj.1 x hN K hK
        | some w =>
          have hqp : ¬ q = p := fun z => absurd (hv.mpr z) (by simp)
          have hqp' : ¬ nI q = nI p := fun z => hqp ((nI_eq (by omega) (by omega)).mp z)
          have hwl := hw w rfl
          have hnx : nx lo hi (some w) (T q) = if w = 0 then none else if 10 * w + d ≤ hi then some (10 * w + d) else none := by
            unfold nx
            rw [if_pos hdg, hcd]
          by_cases hw0 : w = 0
          · subst hw0
            have hN : nx lo hi (some 0) (T q) = none := by rw [hnx, if_pos rfl]
            refine itr_end (fun K => ?_)
            unfold w_X10_number_B10
            simp only [e2, pv_9, pv_10, hle, hvv, ht, e31, w_48_57, hdg, z10, hqp', show ov (some 0) ≤ 0 from by decide, not_true_eq_false, not_false_eq_true, false_implies, true_implies, true_and, and_true, forall_eq, if_true, if_false, reduceIte]
            exact hstop hN
          · have hv0 : ¬ ov (some w) ≤ 0 := fun z => by
              have : nI w ≤ nI 0 := z
              have := (le_nI (by omega) (by decide)).mp this
              omega
            have hj := hJ d hd9 hc (fun h => by cases h) (fun w' h => by
              cases h
              rw [hnx, if_neg hw0])
            cases hN : nx lo hi (some w) (T q) with
            | none =>
              refine itr_end (fun K => ?_)
              unfold w_X10_number_B10
              simp only [e2, pv_9, pv_10, hle, hvv, ht, e31, w_48_57, hdg, z10, hqp', hv0, not_true_eq_false, not_false_eq_true, false_implies, true_implies, true_and, and_true, forall_eq, if_true, if_false, reduceIte]
              exact hj.2 hN K
            | some x =>
              refine itr_one (fun K hK => ?_) (hgo x hN)
              unfold w_X10_number_B10
              simp only [e2, pv_9, pv_10, hle, hvv, ht, e31, w_48_57, hdg, z10, hqp', hv0, not_true_eq_false, not_false_eq_true, false_implies, true_implies, true_and, and_true, forall_eq, if_true, if_false, reduceIte]
              exact hj.1 x hN K hK
      · have hN : nx lo hi v (T q) = none := by unfold nx; rw [if_neg hdg]
        refine itr_end (fun K => ?_)
        unfold w_X10_number_B10
        simp only [e2, pv_9, hle, hvv, ht, e31, w_48_57, hdg, not_true_eq_false, not_false_eq_true, false_implies, true_implies, true_and, and_true, forall_eq, if_true, if_false, reduceIte]
        exact hstop hN
  exact key (n - p) p none (by omega) (Nat.le_refl _) ⟨fun _ => rfl, fun _ => rfl⟩ (fun w hw => by cases hw) hq
end SEM27
