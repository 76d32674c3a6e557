section SEM33
variable {m mc mm M : Mm} {T : Nat → Int32} {p n k F a s : Nat} {K : Mm → Mm → Prop} {Q : Int32 → Mm → Prop}
theorem fl_bd (l : List Nat) : ∀ p, p ≤ n → l ≠ [] → (fl T n l p).2.2 = true → (fl T n l p).2.1.length = l.length ∧ ∀ j, j < l.length → (bd (l.getD j 8)).1 ≤ (fl T n l p).2.1.getD j 0 ∧ (fl T n l p).2.1.getD j 0 ≤ (bd (l.getD j 8)).2 := by
  induction l with
  | nil => intro p hp hn; exact absurd rfl hn
  | cons s0 r ih =>
    intro p hp _ hok
    obtain ⟨b1, b2, b3⟩ := nf_ok (T := T) (s := s0) hp
    cases hv : (nf T n s0 p).2 with
    | none => rw [fl_none hv] at hok; cases hok
    | some v =>
      have hb := b3 v hv
      cases r with
      | nil =>
        rw [fl_one hv]
        refine ⟨rfl, fun j hj => ?_⟩
        have : j = 0 := by simp at hj; omega
        subst this
        exact hb
      | cons s1 r =>
        by_cases hg : (nf T n s0 p).1 < n ∧ T (nf T n s0 p).1 = sgn s1
        · rw [fl_go hv hg] at hok ⊢
          obtain ⟨i1, i2⟩ := ih ((nf T n s0 p).1 + 1) (by omega) (by simp) hok
          refine ⟨by simp [i1], fun j hj => ?_⟩
          cases j with
          | zero => exact hb
          | succ j => exact i2 j (by simpa using hj)
        · rw [fl_stop hv hg] at hok; cases hok
theorem J_append (h : Hy a s mc mm K) (x : Int32) : w_X9_append x mc (fun r m1 => jq (w_X10_append x mm) (K m1) r) (fun k0 m1 => oK [2, 3] k0 ∧ jx (w_X10_append x mm) (K m1) (xB k0)) := by
  obtain ⟨n, hC, hM⟩ := h.1.txt
  obtain ⟨c1, c2, c3⟩ := hC
  obtain ⟨t1, t2, t3⟩ := hM
  unfold w_X9_append
  rw [reqW]
  by_cases hx : 33 ≤ x ∧ x ≤ 126
  · rw [if_pos hx, c1]
    have hlt60 : (nI n < 60) ↔ n < 60 := nI_ltI (b := 60) (by omega) (by decide)
    have heq60 : (nI n = 60) ↔ n = 60 := nI_eq (b := 60) (by omega) (by decide)
    by_cases hn : n < 60
    · refine ⟨fun _ => ?_, fun z => absurd (hlt60.mpr hn) z⟩
      have ht : (nI n).toNatClampNeg = n := rs_tn (by omega)
      have hv : vp_in (nI n) 60 := vp_in_nI hn (by decide)
      have hne : ¬ nI n = 60 := fun z => by have := heq60.mp z; omega
      unfold w_X4_add
      rw [c1, ht]
      refine ⟨hv, ?_⟩
      intro m2 e2 m3 e3
      have q1 : m3.1 17 1 1 = nI (n + 1) := by
        rw [e3, sI_at, e2, sI_ne (fun z => absurd z.1 (by decide)), c1]
        exact nI_1 n
      have q18 : ∀ j, m3.1 18 1 j = if j = n then x else mc.1 18 1 j := fun j => by
        rw [e3, sI_ne (fun z => absurd z.1 (by decide)), e2]
        show (if 18 = 18 ∧ 1 = 1 ∧ j = n then x else mc.1 18 1 j) = _
        by_cases z : j = n
        · rw [if_pos ⟨rfl, rfl, z⟩, if_pos z]
        · rw [if_neg (fun w => z w.2.2), if_neg z]
      have qo : ∀ t i j, ¬ t = 17 → ¬ t = 18 → m3.1 t i j = mc.1 t i j := fun t i j h1 h2 => by
        rw [e3, sI_ne (fun z => h1 z.1), e2, sI_ne (fun z => h2 z.1)]
      have qr : m3.2 = mc.2 := by rw [e3, e2]; rfl
      rw [q1]
      unfold jq w_X10_append w_X10_append_J33
      simp only [w_33_126, hx, z10, t1, hne, m_ref0, ref_ne (show ¬ 2 = 0 by decide), hv, ht, not_true_eq_false, not_false_eq_true, false_implies, true_implies, true_and, and_true, forall_eq, if_true, if_false, reduceIte]
      have r2 : (sI (sI mm 30 1 0 0) 31 1 n x).1 30 1 2 = nI n := by
        rw [sI_ne (fun z => absurd z.1 (by decide)), ref_ne (by decide), t1]
      rw [r2, nI_1]
      have r22 : (sI (sI (sI mm 30 1 0 0) 31 1 n x) 30 1 2 (nI (n + 1))).1 30 1 2 = nI (n + 1) := sI_at _ _ _ _ _
      have r00 : (sI (sI (sI mm 30 1 0 0) 31 1 n x) 30 1 2 (nI (n + 1))).1 30 1 0 = 0 := by
        rw [sI_ne (fun z => absurd z.2.2 (by decide)), sI_ne (fun z => absurd z.1 (by decide))]
        exact ref_ref
      refine ⟨r00, r22, h.2.2.2 _ _ (Rel.mono (a := a) (s := s) ?_ (by omega) (by omega) h.2.2.1)⟩
      have ro : ∀ t i j, ¬ t = 30 → ¬ t = 31 → (sI (sI (sI mm 30 1 0 0) 31 1 n x) 30 1 2 (nI (n + 1))).1 t i j = mm.1 t i j := fun t i j h1 h2 => by
        rw [sI_ne (fun z => h1 z.1), sI_ne (fun z => h2 z.1), sI_ne (fun z => h1 z.1)]
      have r5 : (sI (sI (sI mm 30 1 0 0) 31 1 n x) 30 1 2 (nI (n + 1))).1 30 1 5 = mm.1 30 1 5 := by
        rw [sI_ne (fun z => absurd z.2.2 (by decide)), sI_ne (fun z => absurd z.1 (by decide)), ref_ne (by decide)]
      have r31 : ∀ j, (sI (sI (sI mm 30 1 0 0) 31 1 n x) 30 1 2 (nI (n + 1))).1 31 1 j = if j = n then x else mm.1 31 1 j := fun j => by
        rw [sI_ne (fun z => absurd z.1 (by decide))]
        show (if 31 = 31 ∧ 1 = 1 ∧ j = n then x else mm.1 31 1 j) = _
        by_cases z : j = n
        · rw [if_pos ⟨rfl, rfl, z⟩, if_pos z]
        · rw [if_neg (fun w => z w.2.2), if_neg z]
      generalize sI (sI (sI mm 30 1 0 0) 31 1 n x) 30 1 2 (nI (n + 1)) = mx at *
      obtain ⟨hR, hI, ⟨g1, g2, g3, g4, g5, g6⟩, hp0, j1, j2, j3⟩ := h.1
      have hfr : ∀ {z : Nat} {y : Nat → Int32}, RS mc z y → 1 ≤ z → mo y ≤ 16 → mr y ≤ 12 → RS m3 z y := fun hx h1 h16 h12 => hx.frame h1 h16 h12 (fun t j q ho => ⟨qo t j q (fun z => by rw [z, own0 (by decide)] at ho; omega) (fun z => by rw [z, own0 (by decide)] at ho; omega), by rw [qr]⟩)
      have x32 : mx.1 32 1 = mm.1 32 1 := funext (fun j => ro 32 1 j (by decide) (by decide))
      have x33 : ∀ k, sv mx k = sv mm k := fun k => by unfold sv; funext j; exact ro 33 1 _ (by decide) (by decide)
      have x34 : ∀ k, kp mx k = kp mm k := fun k => by unfold kp; funext j; exact ro 34 1 _ (by decide) (by decide)
      unfold Rel
      rw [x32]
      refine ⟨hfr hR (by decide) hI.mo16 hI.mr12, hI, ⟨?_, ?_, ?_, fun k hk => ?_, fun k hk => ?_, fun z h1 h2 => ?_⟩, ?_, ?_, ?_, fun j hj => ?_⟩
      · rw [qo _ _ _ (by decide) (by decide)]; exact g1
      · rw [qo _ _ _ (by decide) (by decide)]; exact g2
      · rw [qo _ _ _ (by decide) (by decide), r5]; exact g3
      · rw [qo _ _ _ (by decide) (by decide)] at hk
        rw [qo _ _ _ (by decide) (by decide), x33]
        obtain ⟨w1, w2⟩ := g4 k hk
        exact ⟨hfr w1 (by omega) w2.mo16 w2.mr12, w2⟩
      · rw [qo _ _ _ (by decide) (by decide), x34, ro _ _ _ (by decide) (by decide)]
        obtain ⟨w1, w2, w3⟩ := g5 k hk
        exact ⟨w1, w2, fun y => ⟨hfr (w3 y).1 (by omega) (w3 y).2.mo16 (w3 y).2.mr12, (w3 y).2⟩⟩
      · unfold RSp
        rw [qr]
        exact g6 z h1 h2
      · rw [qo _ _ _ (by decide) (by decide)]; exact hp0
      · rw [q1]; exact r22
      · rw [q1]; exact rng_of (by omega) (by decide)
      · rw [q1, rs_tn (by omega)] at hj
        rw [r31, q18]
        by_cases z : j = n
        · rw [if_pos z, if_pos z]
        · rw [if_neg z, if_neg z]
          exact t3 j (by omega)
    · refine ⟨fun z => absurd (hlt60.mp z) hn, fun _ => ?_⟩
      have he : nI n = 60 := heq60.mpr (by omega)
      refine ⟨by unfold oK; decide, ?_⟩
      unfold jx w_X10_append w_X10_append_J33
      simp only [w_33_126, hx, z10, t1, he, m_ref2, z21, not_true_eq_false, not_false_eq_true, false_implies, true_implies, true_and, and_true, forall_eq, if_true, if_false, reduceIte]
      exact ⟨ref_ref, h.k0 2⟩
  · rw [if_neg hx]
    refine ⟨by unfold oK; decide, ?_⟩
    unfold jx w_X10_append w_X10_append_J33
    simp only [w_33_126, hx, z10, m_ref1, not_true_eq_false, not_false_eq_true, false_implies, true_implies, true_and, and_true, forall_eq, if_true, if_false, reduceIte]
    exact ⟨ref_ref, h.k0 1⟩
theorem sv_paused (h5 : m.1 12 1 5 = 1) (Q' : Mm → Prop) (hQ : Q' m) : w_X3_save 1 m Q' := by
  unfold w_X3_save
  simp only [h5, z10, not_true_eq_false, not_false_eq_true, false_implies, true_implies, true_and, and_true, forall_eq, if_true, if_false, reduceIte]
  exact hQ
theorem le9 {c v : Nat} (hv : v ≤ 100000) (hc : c ≤ 100000) : (nI c ≤ nI v) ↔ c ≤ v := nI_leI (by omega) (by omega)
theorem ltle (x y : Int32) : (x < y) ↔ ¬ y ≤ x := Int32.not_le.symm
theorem not_neg {x : Int32} {b : Nat} (h : rng x b) (hb : b < 2147483648) : 0 ≤ x ∧ ¬ x < 0 := ⟨Int32.not_lt.mp (h.nn hb), h.nn hb⟩
/-- what a line does, on both sides: done, or not -/
def Ok (a s : Nat) (m : Mm) (f : Nat → Int32) (vs : List Nat) (L : Int32) (Q : Int32 → Mm → Prop) : Prop := ∀ r m' g, 0 ≤ r → Fr 1 m m' → RS m' 1 g → Inv a (s + 1) g → (∀ M : Mm, M.1 32 1 = f → cvs (M.1 30 1) vs → ∀ Qm : Int32 → Mm → Prop, Qm 1 (st M g) → w_X10_does L M Qm) → Q r m'
def No (m : Mm) (f : Nat → Int32) (vs : List Nat) (L : Int32) (Q : Int32 → Mm → Prop) : Prop := ∀ r, ¬ 0 ≤ r → (∀ M : Mm, M.1 32 1 = f → cvs (M.1 30 1) vs → ∀ Qm : Int32 → Mm → Prop, Qm 0 M → w_X10_does L M Qm) → Q r m
theorem Inv.s1 {f : Nat → Int32} (h : Inv a s f) (hb : s + 1 < 1000000) : Inv a (s + 1) f := h.mono (Nat.le_refl _) (by omega) ⟨h.bnd.1, hb⟩
theorem neg3 : ¬ (0 : Int32) ≤ -3 := by decide
theorem neg1 : ¬ (0 : Int32) ≤ -1 := by decide
theorem E_98 {f : Nat → Int32} (hR : RS m 1 f) (hI : Inv a s f) (ha : 99999 ≤ a) (hb : s + 1 < 1000000) (h5 : m.1 12 1 5 = 1) {c : Nat} (hc : c < 5) (hOK : Ok a s m f [c] 98 Q) (hNO : No m f [c] 98 Q) : w_X1_damageSeal (nI c) m Q := by
  have hsv : ∀ Q' : Mm → Prop, (∀ m1, m1 = m → Q' m1) → w_X3_save 1 m Q' := fun Q' hQ => sv_paused h5 Q' (hQ m rfl)
  have hS : ∀ m1, m1 = m → RS m1 1 f ∧ m1.2 = m.2 := fun m1 e => by rw [e]; exact ⟨hR, rfl⟩
  refine d_break hR hI hsv hS hc (fun hn => hNO (-3) neg3 (fun M hM32 hcv Qm hQ => ?_)) (fun hy m1 m' e hF hR' => ?_)
  · subst hM32
    have hv : M.1 30 1 10 = nI c := hcv
    unfold w_X10_does
    simp (decide := true) only [hv, m_canBrk hc, hn, not_true_eq_false, not_false_eq_true, false_implies, true_implies, true_and, and_true, forall_eq, if_true, if_false, reduceIte]
    exact hQ
  · subst e
    have hr := (hI.cham c hc).1.mono hI.seals.2
    refine hOK _ m' _ (not_neg hr (by have := hI.bnd; omega)).1 hF hR' ((I_break hI hc hy.1).s1 hb) (fun M hM32 hcv Qm hQ => ?_)
    subst hM32
    have hv : M.1 30 1 10 = nI c := hcv
    unfold w_X10_does
    simp (decide := true) only [hv, m_canBrk hc, hy, not_true_eq_false, not_false_eq_true, false_implies, true_implies, true_and, and_true, forall_eq, if_true, if_false, reduceIte]
    rw [m_breakOn hc]
    exact ⟨fun z => absurd z hy.1, fun _ => hQ⟩
theorem E_108 {f : Nat → Int32} (hR : RS m 1 f) (hI : Inv a s f) (ha : 99999 ≤ a) (hb : s + 1 < 1000000) (h5 : m.1 12 1 5 = 1) {c : Nat} (hc : c < 5) (hOK : Ok a s m f [c] 108 Q) (hNO : No m f [c] 108 Q) : w_X1_putSeal (nI c) m Q := by
  have hsv : ∀ Q' : Mm → Prop, (∀ m1, m1 = m → Q' m1) → w_X3_save 1 m Q' := fun Q' hQ => sv_paused h5 Q' (hQ m rfl)
  have hS : ∀ m1, m1 = m → RS m1 1 f ∧ m1.2 = m.2 := fun m1 e => by rw [e]; exact ⟨hR, rfl⟩
  refine d_lock hR hI hsv hS hc (fun hn => hNO (-3) neg3 (fun M hM32 hcv Qm hQ => ?_)) (fun hy m1 m' e hF hR' => ?_) (seal_pos hI).1
  · subst hM32
    have hv : M.1 30 1 10 = nI c := hcv
    unfold w_X10_does
    simp (decide := true) only [hv, m_isShut hc, hn, not_true_eq_false, not_false_eq_true, false_implies, true_implies, true_and, and_true, forall_eq, if_true, if_false, reduceIte]
    exact hQ
  · subst e
    refine hOK _ m' _ (not_neg (seal_pos hI).2 (by omega)).1 hF hR' (I_lock hI hc hb) (fun M hM32 hcv Qm hQ => ?_)
    subst hM32
    have hv : M.1 30 1 10 = nI c := hcv
    unfold w_X10_does
    simp (decide := true) only [hv, m_isShut hc, hy, not_true_eq_false, not_false_eq_true, false_implies, true_implies, true_and, and_true, forall_eq, if_true, if_false, reduceIte]
    rw [m_lockOn hc]
    exact ⟨fun z => absurd z (seal_pos hI).1, fun _ => hQ⟩
theorem E_111 {f : Nat → Int32} (hR : RS m 1 f) (hI : Inv a s f) (ha : 99999 ≤ a) (hb : s + 1 < 1000000) (h5 : m.1 12 1 5 = 1) {c : Nat} (hc : c < 5) (hOK : Ok a s m f [c] 111 Q) (hNO : No m f [c] 111 Q) : w_X1_takeSealOff (nI c) m Q := by
  have hsv : ∀ Q' : Mm → Prop, (∀ m1, m1 = m → Q' m1) → w_X3_save 1 m Q' := fun Q' hQ => sv_paused h5 Q' (hQ m rfl)
  have hS : ∀ m1, m1 = m → RS m1 1 f ∧ m1.2 = m.2 := fun m1 e => by rw [e]; exact ⟨hR, rfl⟩
  refine d_open hR hI hsv hS hc (fun hn => hNO (-3) neg3 (fun M hM32 hcv Qm hQ => ?_)) (fun hy m1 m' e hF hR' => ?_)
  · subst hM32
    have hv : M.1 30 1 10 = nI c := hcv
    unfold w_X10_does
    simp (decide := true) only [hv, m_isShut hc, hn, not_true_eq_false, not_false_eq_true, false_implies, true_implies, true_and, and_true, forall_eq, if_true, if_false, reduceIte]
    exact hQ
  · subst e
    have hr := not_neg (opF_r hI hc) (by decide)
    refine hOK _ m' _ hr.1 hF hR' ((I_op hI hc).s1 hb) (fun M hM32 hcv Qm hQ => ?_)
    subst hM32
    have hv : M.1 30 1 10 = nI c := hcv
    unfold w_X10_does
    simp (decide := true) only [hv, m_isShut hc, hy, not_true_eq_false, not_false_eq_true, false_implies, true_implies, true_and, and_true, forall_eq, if_true, if_false, reduceIte]
    rw [m_openOn hI hc]
    exact ⟨fun z => absurd z hr.2, fun _ => hQ⟩
theorem E_100 {f : Nat → Int32} (hR : RS m 1 f) (hI : Inv a s f) (ha : 99999 ≤ a) (hb : s + 1 < 1000000) (h5 : m.1 12 1 5 = 1) {x : Nat} (hx : 1 ≤ x ∧ x ≤ 9999) (hOK : Ok a s m f [x] 100 Q) (hNO : No m f [x] 100 Q) : w_X1_payIn (nI x) m Q := by
  have hsv : ∀ Q' : Mm → Prop, (∀ m1, m1 = m → Q' m1) → w_X3_save 1 m Q' := fun Q' hQ => sv_paused h5 Q' (hQ m rfl)
  have hS : ∀ m1, m1 = m → RS m1 1 f ∧ m1.2 = m.2 := fun m1 e => by rw [e]; exact ⟨hR, rfl⟩
  have hx' : (1 : Int32) ≤ nI x ∧ nI x ≤ 9999 := ⟨(le9 (c := 1) (by omega) (by decide)).mpr hx.1, (le9 (v := 9999) (by decide) (by omega)).mpr hx.2⟩
  refine d_pay hR hI hsv hS (nI x) hx' (fun hn => hNO (-3) neg3 (fun M hM32 hcv Qm hQ => ?_)) (fun hy m1 m' e hF hR' => ?_)
  · subst hM32
    have hv : M.1 30 1 10 = nI x := hcv
    unfold w_X10_does
    simp (decide := true) only [hv, m_canPay, hn, not_true_eq_false, not_false_eq_true, false_implies, true_implies, true_and, and_true, forall_eq, if_true, if_false, reduceIte]
    exact hQ
  · subst e
    have hr := not_neg (pay_r hI hx').2 (by have := hI.bnd; omega)
    refine hOK _ m' _ hr.1 hF hR' ((I_pay hI hx' hy ha).s1 hb) (fun M hM32 hcv Qm hQ => ?_)
    subst hM32
    have hv : M.1 30 1 10 = nI x := hcv
    unfold w_X10_does
    simp (decide := true) only [hv, m_canPay, hy, not_true_eq_false, not_false_eq_true, false_implies, true_implies, true_and, and_true, forall_eq, if_true, if_false, reduceIte]
    rw [m_payOn, after_eq]
    exact ⟨fun z => absurd z hr.2, fun _ => hQ⟩
theorem E_116 {f : Nat → Int32} (hR : RS m 1 f) (hI : Inv a s f) (ha : 99999 ≤ a) (hb : s + 1 < 1000000) (h5 : m.1 12 1 5 = 1) {x : Nat} (hx : 1 ≤ x ∧ x ≤ 100) (hOK : Ok a s m f [x] 116 Q) (hNO : No m f [x] 116 Q) : w_X1_letPass (nI x) m Q := by
  have hsv : ∀ Q' : Mm → Prop, (∀ m1, m1 = m → Q' m1) → w_X3_save 1 m Q' := fun Q' hQ => sv_paused h5 Q' (hQ m rfl)
  have hS : ∀ m1, m1 = m → RS m1 1 f ∧ m1.2 = m.2 := fun m1 e => by rw [e]; exact ⟨hR, rfl⟩
  have hx' : (1 : Int32) ≤ nI x ∧ nI x ≤ 100 := ⟨(le9 (c := 1) (by omega) (by decide)).mpr hx.1, (le9 (v := 100) (by decide) (by omega)).mpr hx.2⟩
  refine d_pass hR hI hsv hS (nI x) hx' (fun hn => hNO (-3) neg3 (fun M hM32 hcv Qm hQ => ?_)) (fun hy m1 m' e hF hR' => ?_)
  · subst hM32
    have hv : M.1 30 1 10 = nI x := hcv
    unfold w_X10_does
    simp (decide := true) only [hv, ltle, hn, not_true_eq_false, not_false_eq_true, false_implies, true_implies, true_and, and_true, forall_eq, if_true, if_false, reduceIte]
    exact hQ
  · subst e
    have hr := not_neg (psF_r hI (nI x)) (by decide)
    refine hOK _ m' _ hr.1 hF hR' ((I_pass hI hx' hy).s1 hb) (fun M hM32 hcv Qm hQ => ?_)
    subst hM32
    have hv : M.1 30 1 10 = nI x := hcv
    have hy' : ¬ 9999 < M.1 32 1 0 + nI x := Int32.not_lt.mpr hy
    unfold w_X10_does
    simp (decide := true) only [hv, hy', not_true_eq_false, not_false_eq_true, false_implies, true_implies, true_and, and_true, forall_eq, if_true, if_false, reduceIte]
    rw [m_passOn hI]
    exact ⟨fun z => absurd z hr.2, fun _ => hQ⟩
theorem E_101 {f : Nat → Int32} (hR : RS m 1 f) (hI : Inv a s f) (ha : 99999 ≤ a) (hb : s + 1 < 1000000) (h5 : m.1 12 1 5 = 1) {k w v c : Nat} (hk : k < 6) (hw : 1 ≤ w ∧ w ≤ 999) (hvv : 1 ≤ v ∧ v ≤ 9999) (hc : c < 5) (hOK : Ok a s m f [k, w, v, c] 101 Q) (hNO : No m f [k, w, v, c] 101 Q) : w_X1_bringIn (nI k) (nI w) (nI v) (nI c) m Q := by
  have hsv : ∀ Q' : Mm → Prop, (∀ m1, m1 = m → Q' m1) → w_X3_save 1 m Q' := fun Q' hQ => sv_paused h5 Q' (hQ m rfl)
  have hS : ∀ m1, m1 = m → RS m1 1 f ∧ m1.2 = m.2 := fun m1 e => by rw [e]; exact ⟨hR, rfl⟩
  have hw' : (1 : Int32) ≤ nI w ∧ nI w ≤ 999 := ⟨(le9 (c := 1) (by omega) (by decide)).mpr hw.1, (le9 (v := 999) (by decide) (by omega)).mpr hw.2⟩
  have hv' : (1 : Int32) ≤ nI v ∧ nI v ≤ 9999 := ⟨(le9 (c := 1) (by omega) (by decide)).mpr hvv.1, (le9 (v := 9999) (by decide) (by omega)).mpr hvv.2⟩
  have hg : gds (nI k) (nI w) (nI v) (nI c) := ⟨kr6 hk, hw', hv', cr5 hc⟩
  refine d_bringIn hR hI hsv (fun m1 e => (hS m1 e).1) k c (nI w) (nI v) hk hc hg (fun hn => hNO (-3) neg3 (fun M hM32 hcv Qm hQ => ?_)) (fun hy m1 m' e hF hR' => ?_)
  · subst hM32
    obtain ⟨h11, h12, h13, h10⟩ : M.1 30 1 11 = nI k ∧ M.1 30 1 12 = nI w ∧ M.1 30 1 13 = nI v ∧ M.1 30 1 10 = nI c := hcv
    unfold w_X10_does
    simp (decide := true) only [h10, h11, h12, h13, m_whyE hI hk hc, hn, not_true_eq_false, not_false_eq_true, false_implies, true_implies, true_and, and_true, forall_eq, if_true, if_false, reduceIte]
    exact hQ
  · subst e
    have hh := whyE0 hy
    have hmo := lt16 hI.opn hh.2.2.2.1
    have hr := not_neg hI.made (by decide)
    refine hOK _ m' _ hr.1 hF hR' ((I_enter hI hk hc hw' hv' hmo hh.2.2.2.2.1).s1 hb) (fun M hM32 hcv Qm hQ => ?_)
    subst hM32
    obtain ⟨h11, h12, h13, h10⟩ : M.1 30 1 11 = nI k ∧ M.1 30 1 12 = nI w ∧ M.1 30 1 13 = nI v ∧ M.1 30 1 10 = nI c := hcv
    unfold w_X10_does
    simp (decide := true) only [h10, h11, h12, h13, m_whyE hI hk hc, hy, not_true_eq_false, not_false_eq_true, false_implies, true_implies, true_and, and_true, forall_eq, if_true, if_false, reduceIte]
    rw [m_enterOn hI.opn hmo hk]
    exact ⟨fun z => absurd z hr.2, fun _ => hQ⟩
end SEM33
