section SEM26
variable {mc mm m1 m' : Mm} {a s a' s' : Nat} {g : Nat → Int32} {K : Mm → Mm → Prop}
/-- the class's state 1 becomes g, its rings and snapshots stay -/
theorem Rel.swap {mm' : Mm} (h : Rel a s mc mm) (hF : Fr 1 mc m') (hR : RS m' 1 g) (hI : Inv a s g) (e32 : ∀ j, j < 246 → mm'.1 32 1 j = g j) (e33 : mm'.1 33 1 = mm.1 33 1) (e34 : mm'.1 34 1 = mm.1 34 1) (e35 : mm'.1 35 1 = mm.1 35 1) (e31 : mm'.1 31 1 = mm.1 31 1) (e5 : mm'.1 30 1 5 = mm.1 30 1 5) (e2 : mm'.1 30 1 2 = mm.1 30 1 2) : Rel a s m' mm' := by
  have h1 := h.step hF hR hI (Nat.le_refl _) (Nat.le_refl _)
  have hI' : Inv a s (mm'.1 32 1) := hI.c246 e32
  have hR' : RS m' 1 (mm'.1 32 1) := hR.c246 hI.mo16 hI.mr12 e32
  have h2 := h.step hF hR' hI' (Nat.le_refl _) (Nat.le_refl _)
  exact h2.mm rfl (by rw [st_ne _ _ (by decide)]; exact e33) (by rw [st_ne _ _ (by decide)]; exact e34) (by rw [st_ne _ _ (by decide)]; exact e35) (by rw [st_ne _ _ (by decide)]; exact e31) (by rw [st_ne _ _ (by decide)]; exact e5) (by rw [st_ne _ _ (by decide)]; exact e2)
theorem pos_n {n : Nat} (h : n ≤ 6) : (0 < nI n) ↔ 0 < n := by
  have := nI_ltI (a := 0) (b := n) (by decide) (by omega)
  exact this
theorem J_undo (h : Hy a s mc mm K) : w_X9_undo mc (fun r m1 => jq (w_X10_undo mm) (K m1) r) (fun k0 m1 => oK [3] k0 ∧ jx (w_X10_undo mm) (K m1) (nI (k0 - 2))) := by
  have hR := h.1.rs
  have hI := h.1.inv
  obtain ⟨g1, g2, g3, g4, g5, g6⟩ := h.1.2.2.1
  obtain ⟨n, hn6, hn⟩ := g2.ex
  unfold w_X9_undo
  by_cases h0 : 0 < n
  · have hp : 0 < mc.1 12 1 2 := by rw [hn]; exact (pos_n hn6).mpr h0
    have hp' : ¬ mm.1 30 1 5 ≤ 0 := by rw [g3]; exact Int32.not_le.mpr hp
    have e1 : nI n - 1 = nI (n - 1) := pk_sub (b := 1) h0
    have htn : (mc.1 12 1 2).toNatClampNeg = n := by rw [hn]; exact rs_tn (by omega)
    have g4' := g4 (n - 1) (by omega)
    have ho6 : (mc.1 12 1 1).toNatClampNeg < 6 := by have := g1.2; omega
    have hO := g1.1
    generalize (mc.1 12 1 1).toNatClampNeg = o at *
    have hlt : (o + (n - 1)) % 6 < 6 := Nat.mod_lt _ (by decide)
    simp only [hp, not_true_eq_false, not_false_eq_true, false_implies, true_implies, true_and, and_true, forall_eq, if_true, if_false, reduceIte]
    unfold w_X3_restoreLast
    rw [hn, e1]
    intro m1 em1
    have q1 : m1.1 12 1 1 = nI o := by rw [em1, sI_ne (fun z => absurd z.2.2 (by decide)), hO]
    have q2 : m1.1 12 1 2 = nI (n - 1) := by rw [em1, sI_at]
    have qn : ∀ t j q, ¬ t = 12 → m1.1 t j q = mc.1 t j q := fun t j q h => by rw [em1]; exact sI_ne (fun z => h z.1)
    have q5 : ∀ q, ¬ q = 2 → m1.1 12 1 q = mc.1 12 1 q := fun q h => by rw [em1]; exact sI_ne (fun z => h z.2.2)
    have qr : m1.2 = mc.2 := by rw [em1]; rfl
    rw [q1, q2, rem6 (by omega), rs_tn (by omega)]
    refine ⟨vp_in_nI hlt (by decide), ?_⟩
    have hfr : ∀ {x : Nat} {y : Nat → Int32}, RS mc x y → 1 ≤ x → mo y ≤ 16 → mr y ≤ 12 → RS m1 x y := fun hx h1 h16 h12 => hx.frame h1 h16 h12 (fun t j q ho => ⟨qn t j q (fun z => by rw [z, own0 (by decide)] at ho; omega), by rw [qr]⟩)
    have hrp : ∀ x, 1 ≤ x → x ≤ 9 → RSp m1 x := fun x h1 h2 => by
      unfold RSp
      rw [qr]
      exact g6 x h1 h2
    -- the model's memory with one saved state less
    have hRel1 : Rel a s m1 (sI (sI mm 30 1 0 0) 30 1 5 (nI (n - 1))) := by
      obtain ⟨_, _, _, hp0, j1, j2, j3⟩ := h.1
      refine ⟨hfr hR (by decide) hI.mo16 hI.mr12, hI, ⟨?_, ?_, ?_, fun k hk => ?_, fun k hk => ?_, hrp⟩, ?_, ?_, ?_, fun j hj => ?_⟩
      · rw [q1]; exact rng_of (by omega) (by decide)
      · rw [q2]; exact rng_of (by omega) (by decide)
      · rw [q2]; exact ref_ref
      · rw [q2, rs_tn (by omega)] at hk
        rw [q1, rs_tn (by omega)]
        obtain ⟨w1, w2⟩ := g4 k (by omega)
        exact ⟨hfr w1 (by omega) w2.mo16 w2.mr12, w2⟩
      · rw [qn 15 1 k (by decide)]
        obtain ⟨w1, w2, w3⟩ := g5 k hk
        exact ⟨w1, w2, fun z => ⟨hfr (w3 z).1 (by omega) (w3 z).2.mo16 (w3 z).2.mr12, (w3 z).2⟩⟩
      · rw [q5 5 (by decide)]; exact hp0
      · rw [qn 17 1 1 (by decide), ref_ne (by decide), ref_ne (by decide)]; exact j1
      · rw [qn 17 1 1 (by decide)]; exact j2
      · rw [qn 17 1 1 (by decide)] at hj
        rw [qn 18 1 j (by decide)]
        exact j3 j hj
    refine c_copyFrom (hfr g4'.1 (by omega) g4'.2.mo16 g4'.2.mr12) g4'.2 (hrp 1 (by decide) (by decide)) (by omega) i1 ⟨by omega, by omega⟩ _ (fun m4 e4 hF hR4 => ?_)
    have q4 : m4.1 12 1 2 = nI (n - 1) := by rw [(hF 12 1 2 (by decide)).1, q2]
    unfold jq w_X10_undo w_X10_undo_J13
    simp only [hp', m_ref0, not_true_eq_false, not_false_eq_true, false_implies, true_implies, true_and, and_true, forall_eq, if_true, if_false, reduceIte]
    have e5 : (sI mm 30 1 0 0).1 30 1 5 - 1 = nI (n - 1) := by rw [ref_ne (by decide), g3, hn, e1]
    rw [e5]
    have e55 : (sI (sI mm 30 1 0 0) 30 1 5 (nI (n - 1))).1 30 1 5 = nI (n - 1) := ref_ref
    rw [e55, m_cp_33_32 (by omega), q4]
    refine ⟨?_, ?_, h.2.2.2 _ _ (Rel.mono (hRel1.swap hF hR4 g4'.2 (fun j hj => ?_) ?_ ?_ ?_ ?_ ?_ ?_) (by omega) (by omega) h.2.2.1)⟩
    · rw [sx_ne _ _ (by decide), ref_ne (by decide)]; exact ref_ref
    · rw [sx_ne _ _ (by decide)]; exact e55
    · rw [sx_at, ckF_in (by omega)]
      unfold sv
      rw [Nat.sub_zero]
      rfl
    · rw [sx_ne _ _ (by decide)]
    · rw [sx_ne _ _ (by decide)]
    · rw [sx_ne _ _ (by decide)]
    · rw [sx_ne _ _ (by decide)]
    · rw [sx_ne _ _ (by decide)]
    · rw [sx_ne _ _ (by decide)]
  · have hp : ¬ 0 < mc.1 12 1 2 := by rw [hn]; exact fun z => h0 ((pos_n hn6).mp z)
    have hp' : mm.1 30 1 5 ≤ 0 := by rw [g3]; exact Int32.not_lt.mp hp
    simp only [hp, not_true_eq_false, not_false_eq_true, false_implies, true_implies, true_and, and_true, forall_eq, if_true, if_false, reduceIte]
    refine ⟨by unfold oK; decide, ?_⟩
    unfold jx w_X10_undo w_X10_undo_J13
    simp only [hp', m_ref1, z10, not_true_eq_false, not_false_eq_true, false_implies, true_implies, true_and, and_true, forall_eq, if_true, if_false, reduceIte]
    exact ⟨ref_ref, h.k0 1⟩
theorem J_keep (h : Hy a s mc mm K) (p : Int32) : w_X9_keep p mc (fun r m1 => jq (w_X10_keep p mm) (K m1) r) (fun k0 m1 => oK [1] k0 ∧ jx (w_X10_keep p mm) (K m1) (nI k0)) := by
  have hR := h.1.rs
  have hI := h.1.inv
  unfold w_X9_keep
  rw [reqS]
  by_cases hp : 0 ≤ p ∧ p ≤ 1
  · rw [if_pos hp]
    obtain ⟨c, hc1, rfl⟩ := (rng_lit 1 (by decide) hp).ex
    have hc2 : c < 2 := by omega
    have ht : (nI c).toNatClampNeg = c := rs_tn (by omega)
    obtain ⟨_, _, ⟨g1, g2, g3, g4, g5, g6⟩, hp0, j1, j2, j3⟩ := h.1
    unfold w_X3_fillSlot
    rw [ht]
    refine ⟨vp_in_nI hc2 (by decide), ?_⟩
    refine c_copyFrom hR hI (g6 (c + 8) (by omega) (by omega)) (by omega) ⟨by omega, by omega⟩ i1 _ (fun m3 e3 hF hR3 => ?_)
    intro m4 e4
    have q15 : ∀ t j q, ¬ (t = 15 ∧ j = 1 ∧ q = c) → m4.1 t j q = m3.1 t j q := fun t j q z => by rw [e4]; exact sI_ne z
    have q15c : m4.1 15 1 c = 1 := by rw [e4]; exact sI_at _ _ _ _ _
    have q2 : m4.2 = mc.2 := by rw [e4]; exact e3
    have hn : ∀ t j q, ¬ own t j = c + 8 → ¬ (t = 15 ∧ j = 1 ∧ q = c) → m4.1 t j q = mc.1 t j q := fun t j q h1 h2 => (q15 t j q h2).trans (hF t j q h1).1
    have hfr : ∀ {x : Nat} {y : Nat → Int32}, RS mc x y → 1 ≤ x → ¬ x = c + 8 → mo y ≤ 16 → mr y ≤ 12 → RS m4 x y := fun hx h1 hne h16 h12 => hx.frame h1 h16 h12 (fun t j q ho => ⟨hn t j q (by omega) (fun z => by rw [z.1, own0 (by decide)] at ho; omega), by rw [q2]⟩)
    have hR4 : RS m4 (c + 8) (mm.1 32 1) := hR3.frame (by omega) hI.mo16 hI.mr12 (fun t j q ho => ⟨q15 t j q (fun z => by rw [z.1, own0 (by decide)] at ho; omega), by rw [e4]; rfl⟩)
    have hpl : ∀ t j q, 11 ≤ t → ¬ (t = 15 ∧ j = 1 ∧ q = c) → m4.1 t j q = mc.1 t j q := fun t j q ht hne => hn t j q (by rw [own0 ht]; omega) hne
    have hop : m4.1 1 1 1 = mm.1 32 1 117 := by
      rw [hn 1 1 1 (by rw [own1]; omega) (fun z => absurd z.1 (by decide))]
      exact hR.opn
    rw [hop]
    unfold jq w_X10_keep w_X10_keep_J16
    have hin := w_in (A := 0) (B := 1) (nI c) 0 1 rfl rfl mm
    simp only [hin, hp, z10, m_ref0, m_cp_32_34 hc2, ht, vp_in_nI hc2 (show 2 < 2147483648 by decide), not_true_eq_false, not_false_eq_true, false_implies, true_implies, true_and, and_true, forall_eq, if_true, if_false, reduceIte]
    generalize hmx : sI (sx 34 (sI mm 30 1 0 0) (ckF ((sI mm 30 1 0 0).1 32 1) ((sI mm 30 1 0 0).1 34 1) 0 (246 * c) 246)) 35 1 c 1 = mx
    have x34 : mx.1 34 1 = ckF (mm.1 32 1) (mm.1 34 1) 0 (246 * c) 246 := by
      rw [← hmx]
      funext j
      show (if 34 = 35 ∧ 1 = 1 ∧ j = c then (1 : Int32) else if 34 = 34 ∧ 1 = 1 then ckF (mm.1 32 1) (mm.1 34 1) 0 (246 * c) 246 j else mm.1 34 1 j) = _
      rw [if_neg (fun z => absurd z.1 (by decide)), if_pos ⟨rfl, rfl⟩]
    have xo : ∀ t, ¬ t = 34 → ¬ t = 35 → mx.1 t = (sI mm 30 1 0 0).1 t := fun t h1 h2 => by
      rw [← hmx]
      funext i j
      show (if t = 35 ∧ i = 1 ∧ j = c then (1 : Int32) else (sx 34 (sI mm 30 1 0 0) _).1 t i j) = _
      rw [if_neg (fun z => h2 z.1), sx_ne _ _ h1]
    have x35 : ∀ k, mx.1 35 1 k = if k = c then 1 else mm.1 35 1 k := fun k => by
      rw [← hmx]
      show (if 35 = 35 ∧ 1 = 1 ∧ k = c then (1 : Int32) else (sx 34 (sI mm 30 1 0 0) _).1 35 1 k) = _
      by_cases z : k = c
      · rw [if_pos ⟨rfl, rfl, z⟩, if_pos z]
      · rw [if_neg (fun w => z w.2.2), if_neg z, sx_ne _ _ (by decide)]
        rfl
    have x32 : mx.1 32 1 = mm.1 32 1 := by rw [xo 32 (by decide) (by decide)]; rfl
    have x33 : ∀ k, sv mx k = sv mm k := fun k => by
      unfold sv
      rw [xo 33 (by decide) (by decide)]
      rfl
    refine ⟨by rw [xo 30 (by decide) (by decide)]; exact ref_ref, by rw [x32], h.2.2.2 _ _ (Rel.mono (a := a) (s := s) ?_ (by omega) (by omega) h.2.2.1)⟩
    unfold Rel
    rw [x32]
    refine ⟨hfr hR (by decide) (by omega) hI.mo16 hI.mr12, hI, ⟨?_, ?_, ?_, fun k hk => ?_, fun k hk => ?_, fun x h1 h2 => ?_⟩, ?_, ?_, ?_, fun j hj => ?_⟩
    · rw [hpl 12 1 1 (by decide) (fun z => absurd z.1 (by decide))]; exact g1
    · rw [hpl 12 1 2 (by decide) (fun z => absurd z.1 (by decide))]; exact g2
    · rw [hpl 12 1 2 (by decide) (fun z => absurd z.1 (by decide)), xo 30 (by decide) (by decide), ref_ne (by decide)]; exact g3
    · rw [hpl 12 1 2 (by decide) (fun z => absurd z.1 (by decide))] at hk
      rw [hpl 12 1 1 (by decide) (fun z => absurd z.1 (by decide)), x33]
      obtain ⟨w1, w2⟩ := g4 k hk
      have : ((mc.1 12 1 1).toNatClampNeg + k) % 6 < 6 := Nat.mod_lt _ (by decide)
      exact ⟨hfr w1 (by omega) (by omega) w2.mo16 w2.mr12, w2⟩
    · rw [x35]
      by_cases z : k = c
      · subst z
        rw [if_pos rfl, q15c]
        have hk : ∀ j, j < 246 → kp mx k j = mm.1 32 1 j := fun j hj => by
          unfold kp
          rw [x34, ckF_in (by omega), Nat.zero_add, Nat.add_sub_cancel_left]
        exact ⟨rfl, isB1, fun _ => ⟨hR4.c246 hI.mo16 hI.mr12 hk, hI.c246 hk⟩⟩
      · rw [if_neg z, hpl 15 1 k (by decide) (fun w => z w.2.2)]
        obtain ⟨w1, w2, w3⟩ := g5 k hk
        have hk : ∀ j, j < 246 → kp mx k j = kp mm k j := fun j hj => by
          unfold kp
          rw [x34, ckF_out (by omega)]
        exact ⟨w1, w2, fun y => ⟨(hfr (w3 y).1 (by omega) (by omega) (w3 y).2.mo16 (w3 y).2.mr12).c246 (w3 y).2.mo16 (w3 y).2.mr12 hk, (w3 y).2.c246 hk⟩⟩
    · unfold RSp
      rw [q2]
      exact g6 x h1 h2
    · rw [hpl 12 1 5 (by decide) (fun z => absurd z.1 (by decide))]; exact hp0
    · rw [hpl 17 1 1 (by decide) (fun z => absurd z.1 (by decide)), xo 30 (by decide) (by decide), ref_ne (by decide)]; exact j1
    · rw [hpl 17 1 1 (by decide) (fun z => absurd z.1 (by decide))]; exact j2
    · rw [hpl 17 1 1 (by decide) (fun z => absurd z.1 (by decide))] at hj
      rw [hpl 18 1 j (by decide) (fun z => absurd z.1 (by decide)), xo 31 (by decide) (by decide)]
      exact j3 j hj
  · rw [if_neg hp]
    refine ⟨by unfold oK; decide, ?_⟩
    unfold jx w_X10_keep w_X10_keep_J16
    have hin := w_in (A := 0) (B := 1) p 0 1 rfl rfl mm
    simp only [hin, hp, z10, m_ref1, not_true_eq_false, not_false_eq_true, false_implies, true_implies, true_and, and_true, forall_eq, if_true, if_false, reduceIte]
    exact ⟨ref_ref, h.k0 1⟩
theorem J_goBack (h : Hy a s mc mm K) (p : Int32) : w_X9_goBack p mc (fun r m1 => jq (w_X10_goBack p mm) (K m1) r) (fun k0 m1 => oK [1, 3] k0 ∧ jx (w_X10_goBack p mm) (K m1) (xC k0)) := by
  have hR := h.1.rs
  have hI := h.1.inv
  unfold w_X9_goBack
  rw [reqS]
  have hin := w_in (A := 0) (B := 1) p 0 1 rfl rfl mm
  by_cases hp : 0 ≤ p ∧ p ≤ 1
  · rw [if_pos hp]
    obtain ⟨c, hc1, rfl⟩ := (rng_lit 1 (by decide) hp).ex
    have hc2 : c < 2 := by omega
    have ht : (nI c).toNatClampNeg = c := rs_tn (by omega)
    have hv := vp_in_nI hc2 (show 2 < 2147483648 by decide)
    obtain ⟨w1, w2, w3⟩ := h.1.2.2.1.2.2.2.2.1 c hc2
    refine ⟨hv, ?_⟩
    rw [ht]
    by_cases hz : mc.1 15 1 c = 0
    · have hz' : mm.1 35 1 c = 0 := by rw [w1]; exact hz
      simp only [hz, not_true_eq_false, not_false_eq_true, false_implies, true_implies, true_and, and_true, forall_eq, if_true, if_false, reduceIte]
      refine ⟨by unfold oK; decide, ?_⟩
      unfold jx w_X10_goBack w_X10_goBack_J29
      simp only [hin, hp, z10, hv, ht, hz', m_ref2, z21, not_true_eq_false, not_false_eq_true, false_implies, true_implies, true_and, and_true, forall_eq, if_true, if_false, reduceIte]
      exact ⟨ref_ref, h.k0 2⟩
    · have hz' : ¬ mm.1 35 1 c = 0 := by rw [w1]; exact hz
      simp only [hz, not_true_eq_false, not_false_eq_true, false_implies, true_implies, true_and, and_true, forall_eq, if_true, if_false, reduceIte]
      refine h.sv _ (fun m6 hm => ?_)
      obtain ⟨x1, x2, x3⟩ := hm.1.2.2.1.2.2.2.2.1 c hc2
      have hz6 : ¬ m6.1 15 1 c = 0 := by
        rw [← x1]
        show ¬ (svM (sI mm 30 1 0 0)).1 35 1 c = 0
        rw [svM_35]
        exact hz'
      have hk := x3 hz6
      have hr1 := hm.1.2.2.1.2.2.2.2.2 1 (by decide) (by decide)
      refine c_copyFrom hk.1 hk.2 hr1 (by omega) i1 ⟨by omega, by omega⟩ _ (fun m8 e8 hF hR8 => ?_)
      rw [hR8.opn]
      unfold jq w_X10_goBack w_X10_goBack_J29
      simp only [hin, hp, z10, hv, ht, hz', m_ref0, not_true_eq_false, not_false_eq_true, false_implies, true_implies, true_and, and_true, forall_eq, if_true, if_false, reduceIte]
      have hn : rng ((sI mm 30 1 0 0).1 30 1 5) 6 := by
        have h1 := (h.1.ref 0).2.2.1
        rw [h1.2.2.1]
        exact h1.2.1
      rw [m_saves hn]
      show w_X10_copyState_34_32 (246 * nI c) 0 (sv0 mm) _
      rw [m_cp_34_32 hc2]
      have e32 : ∀ j, j < 246 → (sx 32 (sv0 mm) (ckF ((sv0 mm).1 34 1) ((sv0 mm).1 32 1) (246 * c) 0 246)).1 32 1 j = kp (sv0 mm) c j := fun j hj => by
        rw [sx_at, ckF_in (by omega), Nat.sub_zero]
        rfl
      refine ⟨?_, e32 117 (by decide), h.2.2.2 _ _ (Rel.mono (hm.1.swap hF hR8 hk.2 e32 ?_ ?_ ?_ ?_ ?_ ?_) (by omega) (by omega) h.2.2.1)⟩
      · rw [sx_ne _ _ (by decide)]
        show (svM (sI mm 30 1 0 0)).1 30 1 0 = 0
        rw [svM_30 _ (by decide)]
        exact ref_ref
      · rw [sx_ne _ _ (by decide)]
      · rw [sx_ne _ _ (by decide)]
      · rw [sx_ne _ _ (by decide)]
      · rw [sx_ne _ _ (by decide)]
      · rw [sx_ne _ _ (by decide)]
      · rw [sx_ne _ _ (by decide)]
  · rw [if_neg hp]
    refine ⟨by unfold oK; decide, ?_⟩
    unfold jx w_X10_goBack w_X10_goBack_J29
    simp only [hin, hp, z10, m_ref1, not_true_eq_false, not_false_eq_true, false_implies, true_implies, true_and, and_true, forall_eq, if_true, if_false, reduceIte]
    exact ⟨ref_ref, h.k0 1⟩
end SEM26
