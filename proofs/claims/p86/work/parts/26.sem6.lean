section SEM6
variable {a s : Nat} {f : Nat → Int32} {m mc mm : Mm} {i : Nat} {K : Mm → Mm → Prop}
/-- but for isTaken -/
def eq36 (m' m : Mm) : Prop := (∀ t j q, t ≠ 36 → m'.1 t j q = m.1 t j q) ∧ m'.2 = m.2
theorem eq36.rel {m' mm mc : Mm} (h : eq36 m' mm) (hR : Rel a s mc mm) : Rel a s mc m' := by
  obtain ⟨h1, h2⟩ := h
  exact hR.mm (funext fun q => h1 32 1 q (by decide)) (funext fun q => h1 33 1 q (by decide)) (funext fun q => h1 34 1 q (by decide)) (funext fun q => h1 35 1 q (by decide)) (funext fun q => h1 31 1 q (by decide)) (h1 30 1 5 (by decide)) (h1 30 1 2 (by decide))
theorem eq36.now {m' mm : Mm} (h : eq36 m' mm) : m'.1 32 1 = mm.1 32 1 := funext fun q => h.1 32 1 q (by decide)
theorem eq36.ref {m' mm : Mm} (h : eq36 m' mm) : m'.1 30 1 0 = mm.1 30 1 0 := h.1 30 1 0 (by decide)
def fgG (e : Nat) (m : Mm) : Mm := sI m 36 1 e 0
theorem fg_eq (m : Mm) : ∀ j, eq36 (fo fgG j m) m ∧ ∀ e, e < j → (fo fgG j m).1 36 1 e = 0 := by
  intro j
  induction j with
  | zero => exact ⟨⟨fun _ _ _ _ => rfl, rfl⟩, fun e he => absurd he (Nat.not_lt_zero e)⟩
  | succ j ih =>
    obtain ⟨⟨h1, h2⟩, h3⟩ := ih
    refine ⟨⟨fun t j' q ht => ?_, h2⟩, fun e he => ?_⟩
    · show (if t = 36 ∧ j' = 1 ∧ q = j then _ else _) = _
      rw [if_neg (fun z => ht z.1)]
      exact h1 t j' q ht
    · show (if 36 = 36 ∧ 1 = 1 ∧ e = j then _ else _) = _
      by_cases hej : e = j
      · subst hej; rw [if_pos ⟨rfl, rfl, rfl⟩]
      · rw [if_neg (fun z => hej z.2.2)]
        exact h3 e (by omega)
theorem m_forgets (mm : Mm) (Q : Mm → Prop) : w_X10_forgets mm Q ↔ Q (fo fgG 16 mm) := by
  unfold w_X10_forgets
  refine itr_for _ (fun j z => (nI j, z)) 16 fgG mm _ (fun K j hj => ?_) (fun K => ?_)
  · have hv : vp_in (nI j) 16 := vp_in_nI hj (by decide)
    have ht : (nI j).toNatClampNeg = j := rs_tn (by omega)
    have hl : ¬ (16 : Int32) ≤ nI j := by
      rw [show (16 : Int32) = nI 16 from rfl, nI_leI (by decide) (by omega)]
      omega
    show w_X10_forgets_B2 Q (fun z0 z1 => K (z0, z1)) (nI j) (fo fgG j mm) ↔ K (nI (j + 1), fgG j (fo fgG j mm))
    simp only [w_X10_forgets_B2, hl, hv, ht, nI_1, not_true_eq_false, not_false_eq_true, false_implies, true_implies, true_and, and_true, forall_eq, if_true, if_false, reduceIte]
    rfl
  · have hl : (16 : Int32) ≤ nI 16 := by decide
    simp only [w_X10_forgets_B2, hl, not_true_eq_false, not_false_eq_true, false_implies, true_implies, true_and, and_true, forall_eq, if_true, if_false, reduceIte]
theorem J_cheapestEntry (h : Rel a s mc mm) (hK : ∀ m1 m2, Rel a s m1 m2 → K m1 m2) (p : Int32) : w_X9_cheapestEntry p mc (fun r m1 => jq (w_X10_cheapestEntry p mm) (K m1) r) (fun k0 m1 => oK [2] k0 ∧ jx (w_X10_cheapestEntry p mm) (K m1) (xB k0)) := by
  simp only [w_X9_cheapestEntry, reqW, w_X10_cheapestEntry, w_X10_cheapestEntry_J13, m_isKind, jq, jx]
  by_cases hF : 0 ≤ p ∧ p ≤ 5
  · have hE := tl_eq (mm.1 32 1) 1 mc (mo (mm.1 32 1))
    have h2 := hE.1.rel h
    have hT := hE.2
    simp only [c_tell h.rs h.inv i1, hF, not_true_eq_false, not_false_eq_true, false_implies, true_implies, true_and, and_true, forall_eq, if_true, if_false, reduceIte]
    generalize fo (tlG (mm.1 32 1) 1) (mo (mm.1 32 1)) mc = z at *
    have hb := c_behind h2.rs h2.inv i1 hT none (fun k q => by cases q) p
    rw [eo_n] at hb
    have hnB := c_numberB h2.rs h2.inv i1 (chF (mm.1 32 1) (pC (mm.1 32 1) none p)) (fun k q => fo_lt (chG_ok (mm.1 32 1) (pC (mm.1 32 1) none p)) _ k q)
    simp only [hb, hnB, z10, m_ref0, m_forgets, not_true_eq_false, not_false_eq_true, false_implies, true_implies, true_and, and_true, forall_eq, if_true, if_false, reduceIte]
    have hG := fg_eq (sI mm 30 1 0 0) 16
    have h3 : Rel a s z (fo fgG 16 (sI mm 30 1 0 0)) := hG.1.rel (h2.ref 0)
    have h4 := hG.1.now
    have h5 := hG.1.ref
    have h6 := hG.2
    generalize fo fgG 16 (sI mm 30 1 0 0) = y at *
    rw [now_ref] at h4
    rw [ref_ref] at h5
    have hI0 : Inv a s (y.1 32 1) := h3.inv
    simp only [m_cheapest hI0]
    have hcg : chF (y.1 32 1) (pM (y.1 32 1) (y.1 36 1) p) = chF (mm.1 32 1) (pC (mm.1 32 1) none p) := by
      rw [h4]
      refine chF_congr _ (fun e he => ?_)
      have h16 := h.inv.mo16
      unfold pM pC
      rw [h6 e (by omega)]
      simp
    rw [hcg]
    have hlt := fo_lt (chG_ok (mm.1 32 1) (pC (mm.1 32 1) none p)) (mo (mm.1 32 1))
    have hn := m_numB (mm := y) (chF (mm.1 32 1) (pC (mm.1 32 1) none p)) (fun k q => Nat.lt_of_lt_of_le (hlt k q) h.inv.mo16) (fun r => y.1 30 1 0 = 0 ∧ r = numF (mm.1 32 1) (chF (mm.1 32 1) (pC (mm.1 32 1) none p)) ∧ K z y)
    rw [h4] at hn
    refine hn.mpr ⟨h5, rfl, hK _ _ h3⟩
  · simp only [hF, m_ref1, z10, ref_ref, xB2, oK_2_2, hK _ _ (h.ref 1), and_self, not_true_eq_false, not_false_eq_true, false_implies, true_implies, true_and, and_true, forall_eq, if_true, if_false, reduceIte]
/-! the order -/
theorem chp_iff (f : Nat → Int32) (x y : Nat) : (chp f x y = true) ↔ (dN f x * wN f y < dN f y * wN f x ∨ (dN f x * wN f y = dN f y * wN f x ∧ x < y)) := by
  unfold chp
  simp only [decide_eq_true_eq]
theorem chp_irr (f : Nat → Int32) (x : Nat) : ¬ chp f x x = true := by
  rw [chp_iff]
  omega
theorem chp_tot (f : Nat → Int32) {x y : Nat} (h : ¬ x = y) (h2 : ¬ chp f x y = true) : chp f y x = true := by
  rw [chp_iff] at *
  omega
theorem chp_trans {f : Nat → Int32} {x y z : Nat} (hx : 0 < wN f x) (hy : 0 < wN f y) (hz : 0 < wN f z) (h1 : chp f x y = true) (h2 : chp f y z = true) : chp f x z = true := by
  rw [chp_iff] at *
  have g1 : dN f x * wN f y ≤ dN f y * wN f x := by omega
  have g2 : dN f y * wN f z ≤ dN f z * wN f y := by omega
  have e1 := Nat.mul_le_mul_right (wN f z) g1
  have e2 := Nat.mul_le_mul_right (wN f x) g2
  have c1 : dN f x * wN f y * wN f z = dN f x * wN f z * wN f y := Nat.mul_right_comm _ _ _
  have c2 : dN f y * wN f x * wN f z = dN f y * wN f z * wN f x := Nat.mul_right_comm _ _ _
  have c3 : dN f z * wN f y * wN f x = dN f z * wN f x * wN f y := Nat.mul_right_comm _ _ _
  by_cases k : dN f x * wN f z < dN f z * wN f x
  · exact Or.inl k
  · have e3 := Nat.mul_le_mul_right (wN f y) (Nat.not_lt.mp k)
    have k1 : dN f x * wN f y * wN f z = dN f y * wN f x * wN f z := by omega
    have k2 : dN f y * wN f z * wN f x = dN f z * wN f y * wN f x := by omega
    have k3 : dN f x * wN f z * wN f y = dN f z * wN f x * wN f y := by omega
    have l1 := Nat.eq_of_mul_eq_mul_right hz k1
    have l2 := Nat.eq_of_mul_eq_mul_right hx k2
    have l3 := Nat.eq_of_mul_eq_mul_right hy k3
    exact Or.inr ⟨l3, by omega⟩
theorem ch_min (hw : ∀ e, e < mo f → 0 < wN f e) (P : Nat → Bool) : ∀ j, j ≤ mo f → (fo (chG f P) j none = none → ∀ e, e < j → ¬ P e = true) ∧ (∀ q, fo (chG f P) j none = some q → q < j ∧ P q = true ∧ ∀ e, e < j → P e = true → e = q ∨ chp f q e = true) := by
  intro j
  induction j with
  | zero => exact fun _ => ⟨fun _ e he => absurd he (Nat.not_lt_zero e), fun q h => by cases h⟩
  | succ j ih =>
    intro hj
    obtain ⟨i1, i2⟩ := ih (by omega)
    show (chG f P j (fo (chG f P) j none) = none → _) ∧ (∀ q, chG f P j (fo (chG f P) j none) = some q → _)
    generalize fo (chG f P) j none = b at *
    unfold chG chB
    by_cases hp : P j = true
    · rw [if_pos hp]
      cases b with
      | none =>
        refine ⟨fun h => (by cases h), fun q h => ?_⟩
        have h := Option.some.inj h
        subst h
        refine ⟨by omega, hp, fun e he hpe => ?_⟩
        by_cases hej : e = j
        · exact Or.inl hej
        · exact absurd hpe (i1 rfl e (by omega))
      | some k =>
        obtain ⟨k1, k2, k3⟩ := i2 k rfl
        simp only
        by_cases hc : chp f j k = true
        · rw [if_pos hc]
          refine ⟨fun h => (by cases h), fun q h => ?_⟩
          have h := Option.some.inj h
          subst h
          refine ⟨by omega, hp, fun e he hpe => ?_⟩
          by_cases hej : e = j
          · exact Or.inl hej
          · right
            rcases k3 e (by omega) hpe with rfl | h4
            · exact hc
            · exact chp_trans (hw _ (by omega)) (hw _ (by omega)) (hw _ (by omega)) hc h4
        · rw [if_neg hc]
          refine ⟨fun h => (by cases h), fun q h => ?_⟩
          have h := Option.some.inj h
          subst h
          refine ⟨by omega, k2, fun e he hpe => ?_⟩
          by_cases hej : e = j
          · subst hej
            exact Or.inr (chp_tot f (by omega) hc)
          · exact k3 e (by omega) hpe
    · rw [if_neg hp]
      refine ⟨fun h e he => ?_, fun q h => ?_⟩
      · by_cases hej : e = j
        · subst hej; exact hp
        · exact i1 h e (by omega)
      · obtain ⟨k1, k2, k3⟩ := i2 q h
        refine ⟨by omega, k2, fun e he hpe => ?_⟩
        by_cases hej : e = j
        · subst hej; exact absurd hpe hp
        · exact k3 e (by omega) hpe
/-! sums -/
def sg (g : Nat → Nat) : Nat → Nat
  | 0 => 0
  | n + 1 => sg g n + g n
theorem sg_upd {g g' : Nat → Nat} {q : Nat} : ∀ n, q < n → (∀ e, e < n → ¬ e = q → g' e = g e) → sg g' n + g q = sg g n + g' q := by
  intro n
  induction n with
  | zero => intro h; omega
  | succ n ih =>
    intro hq hg
    show sg g' n + g' n + g q = sg g n + g n + g' q
    by_cases h : q = n
    · subst h
      have : sg g' q = sg g q := by
        clear ih hq
        have : ∀ k, k ≤ q → sg g' k = sg g k := by
          intro k
          induction k with
          | zero => intro _; rfl
          | succ k ih =>
            intro hk
            show sg g' k + g' k = sg g k + g k
            rw [ih (by omega), hg k (by omega) (by omega)]
        exact this q (Nat.le_refl q)
      omega
    · have := ih (by omega) (fun e he hne => hg e (by omega) hne)
      have h2 := hg n (by omega) (fun e => h e.symm)
      omega
theorem sg_le {g g' : Nat → Nat} : ∀ n, (∀ e, e < n → g e ≤ g' e) → sg g n ≤ sg g' n := by
  intro n
  induction n with
  | zero => intro _; exact Nat.le_refl 0
  | succ n ih =>
    intro h
    show sg g n + g n ≤ sg g' n + g' n
    have := ih (fun e he => h e (by omega))
    have := h n (by omega)
    omega
def cW (f : Nat → Int32) (P : Nat → Bool) (e : Nat) : Nat := if P e = true then wN f e else 0
def cC (P : Nat → Bool) (e : Nat) : Nat := if P e = true then 1 else 0
theorem cW0 {P : Nat → Bool} {n : Nat} (h : ∀ e, e < n → ¬ P e = true) : sg (cW f P) n = 0 := by
  induction n with
  | zero => rfl
  | succ n ih =>
    show sg (cW f P) n + cW f P n = 0
    rw [ih (fun e he => h e (by omega))]
    unfold cW
    rw [if_neg (h n (by omega))]
theorem stock_sg (hI : Inv a s f) (kd : Int32) : ∀ n, n ≤ mo f → fo (fun e s => if en f e 1 = kd then s + en f e 2 else s) n 0 = nI (sg (cW f (fun e => decide (en f e 1 = kd))) n) ∧ sg (cW f (fun e => decide (en f e 1 = kd))) n ≤ 999 * n := by
  intro n
  induction n with
  | zero => exact fun _ => ⟨rfl, Nat.zero_le _⟩
  | succ n ih =>
    intro hn
    obtain ⟨h1, h2⟩ := ih (by omega)
    have hE := (hI.ent n (by omega)).2.1
    have hw : wN f n ≤ 999 := hE.2
    show (if en f n 1 = kd then fo _ n 0 + en f n 2 else fo _ n 0) = nI (sg _ n + cW f _ n) ∧ sg _ n + cW f _ n ≤ 999 * (n + 1)
    rw [h1]
    generalize sg (cW f (fun e => decide (en f e 1 = kd))) n = S at *
    have hcW : cW f (fun e => decide (en f e 1 = kd)) n = if en f n 1 = kd then wN f n else 0 := by
      unfold cW
      simp only [decide_eq_true_eq]
    rw [hcW]
    by_cases hk : en f n 1 = kd
    · rw [if_pos hk, if_pos hk, hE.1]
      refine ⟨?_, by omega⟩
      rw [nI_add]
      rfl
    · rw [if_neg hk, if_neg hk]
      exact ⟨rfl, by omega⟩
/-! the parts that are taken, one after the other -/
def dq (f : Nat → Int32) (kd : Int32) : Nat → Nat → Int32 → Option Nat → Int32
  | 0, _, sm, _ => sm
  | n + 1, mis, sm, p => if mis = 0 then sm else match p with
    | none => sm
    | some q => dq f kd n (mis - min mis (wN f q)) (sm + dutyPF f q (nI (min mis (wN f q)))) (chF f (pC f (some q) kd))
theorem dq_0 (f : Nat → Int32) (kd : Int32) (n : Nat) (sm : Int32) (p : Option Nat) : dq f kd n 0 sm p = sm := by
  cases n with
  | zero => rfl
  | succ n => unfold dq; rw [if_pos rfl]
theorem nmin {x y : Nat} (hx : x < 2147483648) (hy : y < 2147483648) : (if nI x < nI y then nI x else nI y) = nI (min x y) := by
  by_cases h : x < y
  · rw [if_pos ((nI_ltI hx hy).mpr h), Nat.min_eq_left (by omega)]
  · rw [if_neg (fun q => h ((nI_ltI hx hy).mp q)), Nat.min_eq_right (by omega)]
theorem EI.w {e : Nat} (hE : EI f e) : en f e 2 = nI (wN f e) ∧ 0 < wN f e ∧ wN f e ≤ 999 := ⟨hE.2.1.1, hE.2.2.1, hE.2.1.2⟩
theorem c_dfcL (hR : RS m i f) (hI : Inv a s f) (hi : 1 ≤ i ∧ i ≤ 9) (hT : ∀ e, e < mo f → m.1 11 i e = dutyAF f e) (kd : Int32) (Q : Int32 → Mm → Prop) : ∀ n t mis sm p, n + t = mo f → mis ≤ 9999 → (∀ k, p = some k → k < mo f) → Q (dq f kd n mis sm p) m → ∃ n, itr (α := Int32 × Int32 × Int32 × Int32) (fun K a => w_X8_dutyOfCheapest_B31 i kd Q m (fun z0 z1 z2 z3 => K (z0, z1, z2, z3)) a.1 a.2.1 a.2.2.1 a.2.2.2) n (sm, nI mis, eo p, nI t) := by
  intro n
  induction n with
  | zero =>
    intro t mis sm p ht hm hp hq
    refine ⟨1, ?_⟩
    obtain rfl : t = mo f := by omega
    show w_X8_dutyOfCheapest_B31 i kd Q m (fun z0 z1 z2 z3 => itr _ 0 (z0, z1, z2, z3)) sm (nI mis) (eo p) (nI (mo f))
    simp only [w_X8_dutyOfCheapest_B31, hR.opn, mo_le hI.opn, not_true_eq_false, not_false_eq_true, false_implies, true_implies, true_and, and_true, forall_eq, if_true, if_false, reduceIte]
    exact hq
  | succ n ih =>
    intro t mis sm p ht hm hp hq
    have htm : t < mo f := by omega
    have h16 := hI.mo16
    by_cases h0 : mis = 0
    · subst h0
      rw [dq_0] at hq
      refine ⟨1, ?_⟩
      show w_X8_dutyOfCheapest_B31 i kd Q m (fun z0 z1 z2 z3 => itr _ 0 (z0, z1, z2, z3)) sm (nI 0) (eo p) (nI t)
      simp only [w_X8_dutyOfCheapest_B31, hR.opn, mo_lt hI.opn htm, show nI 0 ≤ 0 by decide, not_true_eq_false, not_false_eq_true, false_implies, true_implies, true_and, and_true, forall_eq, if_true, if_false, reduceIte]
      exact hq
    · have hms : ¬ nI mis ≤ 0 := nI_nle (by omega) (by omega)
      cases p with
      | none =>
        refine ⟨1, ?_⟩
        show w_X8_dutyOfCheapest_B31 i kd Q m (fun z0 z1 z2 z3 => itr _ 0 (z0, z1, z2, z3)) sm (nI mis) (-1) (nI t)
        simp only [w_X8_dutyOfCheapest_B31, hR.opn, mo_lt hI.opn htm, hms, not_true_eq_false, not_false_eq_true, false_implies, true_implies, true_and, and_true, forall_eq, if_true, if_false, reduceIte]
        unfold dq at hq
        rw [if_neg h0] at hq
        exact hq
      | some q =>
        have hqm := hp q rfl
        have hE := hI.ent q hqm
        obtain ⟨w1, w2, w3⟩ := hE.w
        unfold dq at hq
        rw [if_neg h0] at hq
        have hmin : min mis (wN f q) ≤ mis := Nat.min_le_left _ _
        obtain ⟨k, hk⟩ := ih (t + 1) (mis - min mis (wN f q)) (sm + dutyPF f q (nI (min mis (wN f q)))) (chF f (pC f (some q) kd)) (by omega) (by omega) (fun k e => fo_lt (chG_ok _ _) _ k e) hq
        suffices key : ∀ KK : Int32 × Int32 × Int32 × Int32 → Prop, KK (sm + dutyPF f q (nI (min mis (wN f q))), nI (mis - min mis (wN f q)), eo (chF f (pC f (some q) kd)), nI (t + 1)) → w_X8_dutyOfCheapest_B31 i kd Q m (fun z0 z1 z2 z3 => KK (z0, z1, z2, z3)) sm (nI mis) (nI q) (nI t) by
          exact ⟨k + 1, key _ hk⟩
        intro KK hk
        have hvq : vp_in (nI q) 16 := vp_in_nI (by omega) (by decide)
        have htq : (nI q).toNatClampNeg = q := rs_tn (by omega)
        have hnq : ¬ nI q = (-1) := nI_nm1 (by omega)
        have hb := c_behind hR hI hi hT (some q) hp kd
        rw [eo_s] at hb
        have hcm : min (wN f q) mis = min mis (wN f q) := Nat.min_comm _ _
        simp only [w_X8_dutyOfCheapest_B31, hR.opn, mo_lt hI.opn htm, hms, hvq, htq, hnq, hR.oke hi (show q < 16 by omega), hR.e2 hqm, w1, nmin (show wN f q < 2147483648 by omega) (show mis < 2147483648 by omega), hcm, c_dutyNow hR hI hqm, pk_sub hmin, hb, nI_1, not_true_eq_false, not_false_eq_true, false_implies, true_implies, true_and, and_true, forall_eq, if_true, if_false, reduceIte]
        exact hk
theorem pM_step (hI : Inv a s f) {g : Nat → Int32} {prev : Option Nat} {kd : Int32} {q : Nat} (hpr : ∀ k, prev = some k → k < mo f) (hP : ∀ e, e < mo f → pM f g kd e = pC f prev kd e) (hq : chF f (pC f prev kd) = some q) : ∀ e, e < mo f → pM f (fun j => if j = q then 1 else g j) kd e = pC f (some q) kd e := by
  have hw : ∀ e, e < mo f → 0 < wN f e := fun e he => (hI.ent e he).w.2.1
  obtain ⟨h1, h2, h3⟩ := (ch_min hw (pC f prev kd) (mo f) (Nat.le_refl _)).2 q hq
  intro e he
  have hPe := hP e he
  have h3e := h3 e he
  unfold pM pC at *
  by_cases hk : en f e 1 = kd
  · simp only [hk, decide_true, Bool.true_and] at hPe h3e ⊢
    by_cases heq : e = q
    · subst heq
      have := chp_irr f e
      simp only [Bool.not_eq_true] at this
      rw [this]
      simp
    · rw [show decide ((if e = q then (1 : Int32) else g e) = 0) = decide (g e = 0) from by simp [heq], hPe]
      cases prev with
      | none =>
        simp only at h3e ⊢
        rcases h3e trivial with q1 | q1
        · exact absurd q1 heq
        · exact q1.symm
      | some r =>
        simp only at h3e ⊢
        by_cases hc : chp f q e = true
        · rw [hc]
          simp only [Bool.and_eq_true] at h2
          exact chp_trans (hw r (hpr r rfl)) (hw q h1) (hw e he) h2.2 hc
        · rw [Bool.not_eq_true] at hc
          rw [hc]
          rw [← Bool.not_eq_true]
          intro h9
          rcases h3e h9 with q1 | q1
          · exact heq q1
          · rw [hc] at q1
            cases q1
  · simp [hk]
theorem lesw {x y : Nat} (hx : x < 2147483648) (hy : y < 2147483648) : (nI x ≤ nI y) = (x ≤ y) := by
  rw [eq_iff_iff]
  exact nI_leI hx hy
theorem m_dfcL (hI : Inv a s f) (kd : Int32) (Q : Int32 → Mm → Prop) : ∀ n mis sm prev (mm : Mm), mm.1 32 1 = f → mis ≤ 9999 → (∀ k, prev = some k → k < mo f) → (∀ e, e < mo f → pM f (mm.1 36 1) kd e = pC f prev kd e) → mis ≤ sg (cW f (pC f prev kd)) (mo f) → sg (cC (pC f prev kd)) (mo f) ≤ n → (∀ m', eq36 m' mm → Q (dq f kd n mis sm (chF f (pC f prev kd))) m') → ∃ n, itr (α := Int32 × Int32 × Mm) (fun K a => w_X10_dutyFromCheapest_B53 kd Q (fun z0 z1 z2 => K (z0, z1, z2)) a.1 a.2.1 a.2.2) n (nI mis, sm, mm) := by
  have hw : ∀ e, e < mo f → 0 < wN f e := fun e he => (hI.ent e he).w.2.1
  intro n
  induction n with
  | zero =>
    intro mis sm prev mm hf hm hpr hP hS hC hq
    have h0 : mis = 0 := by
      have : sg (cW f (pC f prev kd)) (mo f) = 0 := by
        refine cW0 (fun e he hp => ?_)
        have h1 : sg (cC (pC f prev kd)) (mo f) = 0 := by omega
        have h2 := sg_upd (g := cC (pC f prev kd)) (g' := fun j => if j = e then 0 else cC (pC f prev kd) j) (mo f) he (fun j _ hj => by simp [hj])
        have h4 : (if e = e then 0 else cC (pC f prev kd) e) = 0 := if_pos rfl
        rw [h4] at h2
        have h3 : cC (pC f prev kd) e = 1 := by unfold cC; rw [if_pos hp]
        omega
      omega
    subst h0
    refine ⟨1, ?_⟩
    show w_X10_dutyFromCheapest_B53 kd Q (fun z0 z1 z2 => itr _ 0 (z0, z1, z2)) (nI 0) sm mm
    simp only [w_X10_dutyFromCheapest_B53, show nI 0 ≤ 0 by decide, not_true_eq_false, not_false_eq_true, false_implies, true_implies, true_and, and_true, forall_eq, if_true, if_false, reduceIte]
    exact hq mm ⟨fun _ _ _ _ => rfl, rfl⟩
  | succ n ih =>
    intro mis sm prev mm hf hm hpr hP hS hC hq
    by_cases h0 : mis = 0
    · subst h0
      rw [dq_0] at hq
      refine ⟨1, ?_⟩
      show w_X10_dutyFromCheapest_B53 kd Q (fun z0 z1 z2 => itr _ 0 (z0, z1, z2)) (nI 0) sm mm
      simp only [w_X10_dutyFromCheapest_B53, show nI 0 ≤ 0 by decide, not_true_eq_false, not_false_eq_true, false_implies, true_implies, true_and, and_true, forall_eq, if_true, if_false, reduceIte]
      exact hq mm ⟨fun _ _ _ _ => rfl, rfl⟩
    · have hms : ¬ nI mis ≤ 0 := nI_nle (by omega) (by omega)
      have h16 := hI.mo16
      obtain ⟨m1, m2⟩ := ch_min hw (pC f prev kd) (mo f) (Nat.le_refl _)
      rcases hb : chF f (pC f prev kd) with _ | q
      · have := cW0 (f := f) (m1 hb)
        omega
      · obtain ⟨q1, q2, q3⟩ := m2 q hb
        have hst := pM_step hI hpr hP hb
        obtain ⟨w1, w2, w3⟩ := (hI.ent q q1).w
        have hq16 : q < 16 := by omega
        have hvq : vp_in (nI q) 16 := vp_in_nI hq16 (by decide)
        have htq : (nI q).toNatClampNeg = q := rs_tn (by omega)
        have hmin : min mis (wN f q) ≤ mis := Nat.min_le_left _ _
        have hI0 : Inv a s (mm.1 32 1) := hf ▸ hI
        have hE0 : EI (mm.1 32 1) q := hI0.ent q (hf ▸ q1)
        have hne : ∀ e, e < mo f → ¬ e = q → pC f (some q) kd e = pC f prev kd e := by
          intro e he hne
          have := hst e he
          rw [← this, ← hP e he]
          unfold pM
          simp [hne]
        have hqq : ¬ pC f (some q) kd q = true := by
          unfold pC
          simp only [Bool.and_eq_true]
          exact fun z => chp_irr f q z.2
        have hS2 := sg_upd (g := cW f (pC f prev kd)) (g' := cW f (pC f (some q) kd)) (mo f) q1 (fun e he hn => by unfold cW; rw [hne e he hn])
        have hC2 := sg_upd (g := cC (pC f prev kd)) (g' := cC (pC f (some q) kd)) (mo f) q1 (fun e he hn => by unfold cC; rw [hne e he hn])
        have e1 : cW f (pC f prev kd) q = wN f q := by unfold cW; rw [if_pos q2]
        have e2 : cW f (pC f (some q) kd) q = 0 := by unfold cW; rw [if_neg hqq]
        have e3 : cC (pC f prev kd) q = 1 := by unfold cC; rw [if_pos q2]
        have e4 : cC (pC f (some q) kd) q = 0 := by unfold cC; rw [if_neg hqq]
        rw [hb] at hq
        unfold dq at hq
        simp only [h0, if_false] at hq
        obtain ⟨k, hk⟩ := ih (mis - min mis (wN f q)) (sm + dutyPF f q (nI (min mis (wN f q)))) (some q) (sI mm 36 1 q 1) hf (by omega) (fun k e => by cases e; exact q1) (by
            intro e he
            rw [← hst e he]
            have hx : (sI mm 36 1 q 1).1 36 1 e = if e = q then 1 else mm.1 36 1 e := by
              show (if 36 = 36 ∧ 1 = 1 ∧ e = q then (1 : Int32) else _) = _
              by_cases z : e = q <;> simp [z]
            unfold pM
            simp only [hx]) (by
            rcases Nat.lt_or_ge mis (wN f q) with z | z
            · rw [Nat.min_eq_left (by omega)]; omega
            · rw [Nat.min_eq_right z]; omega) (by omega) (fun m' hm' => hq m' ⟨fun t j z ht => by
              rw [hm'.1 t j z ht]
              show (if t = 36 ∧ j = 1 ∧ z = q then _ else _) = _
              rw [if_neg (fun y => ht y.1)], hm'.2⟩)
        suffices key : ∀ KK : Int32 × Int32 × Mm → Prop, KK (nI (mis - min mis (wN f q)), sm + dutyPF f q (nI (min mis (wN f q))), sI mm 36 1 q 1) → w_X10_dutyFromCheapest_B53 kd Q (fun z0 z1 z2 => KK (z0, z1, z2)) (nI mis) sm mm by
          exact ⟨k + 1, key _ hk⟩
        clear hk
        intro KK hk
        have hcg : chF (mm.1 32 1) (pM (mm.1 32 1) (mm.1 36 1) kd) = some q := by
          rw [hf, chF_congr f hP, hb]
        have hof2 : en (mm.1 32 1) q 2 = nI (wN f q) := by rw [hf]; exact w1
        by_cases hle : mis ≤ wN f q
        · rw [Nat.min_eq_left hle] at hk
          rw [← hf] at hk
          simp only [w_X10_dutyFromCheapest_B53, w_X10_dutyFromCheapest_J86, hms, m_cheapest hI0, hcg, eo_s, m_of2 hq16, hof2, lesw (show mis < 2147483648 by omega) (show wN f q < 2147483648 by omega), hle, m_dutyPart hq16 hE0, hvq, htq, pk_sub (Nat.le_refl mis), not_true_eq_false, not_false_eq_true, false_implies, true_implies, true_and, and_true, forall_eq, if_true, if_false, reduceIte]
          exact hk
        · have hle' : wN f q ≤ mis := by omega
          rw [Nat.min_eq_right hle'] at hk
          rw [← hf] at hk hle' w1 w2 w3 hof2
          have hle2 : ¬ mis ≤ wN (mm.1 32 1) q := by rw [hf]; exact hle
          simp only [w_X10_dutyFromCheapest_B53, w_X10_dutyFromCheapest_J86, hms, m_cheapest hI0, hcg, eo_s, m_of2 hq16, hof2, lesw (show mis < 2147483648 by omega) (show wN (mm.1 32 1) q < 2147483648 by omega), hle2, m_dutyPart hq16 hE0, hvq, htq, pk_sub hle', not_true_eq_false, not_false_eq_true, false_implies, true_implies, true_and, and_true, forall_eq, if_true, if_false, reduceIte]
          exact hk
theorem J_dutyFromCheapest (h : Rel a s mc mm) (hK : ∀ m1 m2, Rel a s m1 m2 → K m1 m2) (p w : Int32) : w_X9_dutyFromCheapest p w mc (fun r m1 => jq (w_X10_dutyFromCheapest p w mm) (K m1) r) (fun k0 m1 => oK [2] k0 ∧ jx (w_X10_dutyFromCheapest p w mm) (K m1) (xB k0)) := by
  have hI0 : Inv a s ((sI mm 30 1 0 0).1 32 1) := h.inv
  simp only [w_X9_dutyFromCheapest, reqW, w_X10_dutyFromCheapest, w_X10_dutyFromCheapest_J25, w_X10_dutyFromCheapest_J24, m_isKind, w_1_9999, jq, jx]
  by_cases hF : 0 ≤ p ∧ p ≤ 5
  · by_cases hG : 1 ≤ w ∧ w ≤ 9999
    · have hw0 : rng w 9999 := rng_lit 9999 (by decide) ⟨Int32.le_trans (by decide) hG.1, hG.2⟩
      obtain ⟨w, hw, rfl⟩ := hw0.ex
      simp only [hF, hG, w_X8_dutyOfCheapest, c_stockOf h.rs h.inv i1, c_tell h.rs h.inv i1, m_ref0, m_stock hI0, now_ref, z10, not_true_eq_false, not_false_eq_true, false_implies, true_implies, true_and, and_true, forall_eq, if_true, if_false, reduceIte]
      by_cases hst : nI w ≤ stockF (mm.1 32 1) p
      · have hE := tl_eq (mm.1 32 1) 1 mc (mo (mm.1 32 1))
        have h2 := hE.1.rel h
        have hT := hE.2
        simp only [hst, not_true_eq_false, not_false_eq_true, false_implies, true_implies, true_and, and_true, forall_eq, if_true, if_false, reduceIte]
        generalize fo (tlG (mm.1 32 1) 1) (mo (mm.1 32 1)) mc = z at *
        have hb := c_behind h2.rs h2.inv i1 hT none (fun k q => by cases q) p
        rw [eo_n] at hb
        simp only [hb, m_forgets]
        refine c_dfcL h2.rs h2.inv i1 hT p _ (mo (mm.1 32 1)) 0 w 0 _ (by omega) hw (fun k q => fo_lt (chG_ok _ _) _ k q) ?_
        have hG2 := fg_eq (sI mm 30 1 0 0) 16
        have h3 : Rel a s z (fo fgG 16 (sI mm 30 1 0 0)) := hG2.1.rel (h2.ref 0)
        have h4 := hG2.1.now
        have h5 := hG2.1.ref
        have h6 := hG2.2
        generalize fo fgG 16 (sI mm 30 1 0 0) = y at *
        rw [now_ref] at h4
        rw [ref_ref] at h5
        have hP0 : ∀ e, pC (mm.1 32 1) none p e = decide (en (mm.1 32 1) e 1 = p) := fun e => by unfold pC; simp
        have hss := stock_sg h.inv p (mo (mm.1 32 1)) (Nat.le_refl _)
        have hwle : w ≤ sg (cW (mm.1 32 1) (pC (mm.1 32 1) none p)) (mo (mm.1 32 1)) := by
          have e0 : cW (mm.1 32 1) (pC (mm.1 32 1) none p) = cW (mm.1 32 1) (fun e => decide (en (mm.1 32 1) e 1 = p)) := by
            funext e
            unfold cW
            rw [hP0 e]
          rw [e0]
          have h16 := h.inv.mo16
          unfold stockF at hst
          rw [hss.1] at hst
          exact (nI_leI (by omega) (by have := hss.2; omega)).mp hst
        refine m_dfcL (f := mm.1 32 1) h.inv p _ (mo (mm.1 32 1)) w 0 none y h4 hw (fun k q => by cases q) (fun e he => ?_) hwle ?_ (fun m' hm' => ?_)
        · have h16 := h.inv.mo16
          unfold pM pC
          rw [h6 e (by omega)]
          simp
        · have : ∀ n, sg (cC (pC (mm.1 32 1) none p)) n ≤ n := by
            intro n
            induction n with
            | zero => exact Nat.le_refl 0
            | succ n ih =>
              show sg _ n + cC _ n ≤ n + 1
              have : cC (pC (mm.1 32 1) none p) n ≤ 1 := by unfold cC; split <;> omega
              omega
          exact this _
        · exact ⟨by rw [hm'.ref, h5], rfl, hK _ _ (hm'.rel h3)⟩
      · simp only [hst, ref_ref, hK _ _ (h.ref 0), and_self, eq_self, not_true_eq_false, not_false_eq_true, false_implies, true_implies, true_and, and_true, forall_eq, if_true, if_false, reduceIte]
    · simp only [hF, hG, m_ref1, z10, ref_ref, xB2, oK_2_2, hK _ _ (h.ref 1), and_self, not_true_eq_false, not_false_eq_true, false_implies, true_implies, true_and, and_true, forall_eq, if_true, if_false, reduceIte]
  · simp only [hF, m_ref1, z10, ref_ref, xB2, oK_2_2, hK _ _ (h.ref 1), and_self, not_true_eq_false, not_false_eq_true, false_implies, true_implies, true_and, and_true, forall_eq, if_true, if_false, reduceIte]
end SEM6

