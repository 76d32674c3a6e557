section SEM23
variable {m m' mc mm mm1 : Mm} {i p a s a' s' : Nat} {f g : Nat → Int32}
theorem own0 {t j : Nat} (h : 11 ≤ t) : own t j = 0 := by
  unfold own
  rw [if_neg (by omega), if_neg (by omega), if_neg (by omega), if_neg (by omega), if_neg (by omega)]
theorem rem6 {x y : Nat} (h : x + y < 1000) : nI x + nI y - (nI x + nI y) / 6 * 6 = nI ((x + y) % 6) := by
  rw [nI_add, show (6 : Int32) = nI 6 from rfl]
  exact pk_rem (by omega) (by decide) (by decide)
theorem c_saveJ {o n : Nat} (ho : o < 6) (hn : n < 6) (hO : m.1 12 1 1 = nI o) (hC : m.1 12 1 2 = nI n) (hR : RS m 1 f) (hI : Inv a s f) (hp : ∀ i, 1 ≤ i → i ≤ 9 → RSp m i) (Q : Mm → Prop) (hq : ∀ m', m'.2 = m.2 → (∀ t j q, ¬ own t j = (o + n) % 6 + 2 → ¬ t = 12 → m'.1 t j q = m.1 t j q) → (∀ q, ¬ q = 2 → m'.1 12 1 q = m.1 12 1 q) → m'.1 12 1 2 = nI (n + 1) → RS m' ((o + n) % 6 + 2) f → Q m') : w_X3_save_J40 1 Q m := by
  have hlt : (o + n) % 6 < 6 := Nat.mod_lt _ (by decide)
  unfold w_X3_save_J40
  rw [hO, hC, rem6 (by omega), rs_tn (by omega)]
  refine ⟨vp_in_nI hlt (by decide), ?_⟩
  refine c_copyFrom hR hI (hp _ (by omega) (by omega)) (by omega) ⟨by omega, by omega⟩ i1 _ (fun m5 e2 hF hR5 => ?_)
  intro m6 e6
  have h12 : ∀ q, m5.1 12 1 q = m.1 12 1 q := fun q => (hF 12 1 q (by rw [own0 (by decide)]; omega)).1
  have e6r : m6.2 = m.2 := by rw [e6]; exact e2
  have e6n : ∀ t j q, ¬ t = 12 → m6.1 t j q = m5.1 t j q := fun t j q h => by rw [e6]; exact sI_ne (fun z => h z.1)
  refine hq m6 e6r (fun t j q h1 h2 => ?_) (fun q h => ?_) ?_ ?_
  · rw [e6n t j q h2]
    exact (hF t j q h1).1
  · rw [e6, sI_ne (fun z => h z.2.2)]
    exact h12 q
  · rw [e6, sI_at, h12 2, hC, show (1 : Int32) = nI 1 from rfl, nI_add]
  · refine hR5.frame (by omega) hI.mo16 hI.mr12 (fun t j q h => ⟨e6n t j q (fun z => ?_), by rw [e6]; rfl⟩)
    rw [z, own0 (by decide)] at h
    omega
theorem slotk_ne {o k n : Nat} (hk : k < n) (hn : n < 6) : ¬ (o + k) % 6 = (o + n) % 6 := by omega
theorem rel_saved (h : Rel a s mc mm) {m1 : Mm} {o n : Nat} (ho : o < 6) (hn : n < 6) (e1 : ∀ t j q, ¬ t = 12 → m1.1 t j q = mc.1 t j q) (e2 : m1.2 = mc.2) (h5 : m1.1 12 1 5 = 0) (hO : m1.1 12 1 1 = nI o) (hk : ∀ k, k < n → RS mc ((o + k) % 6 + 2) (sv (svM mm) k) ∧ Inv a s (sv (svM mm) k)) (hnow : ∀ j, j < 246 → sv (svM mm) n j = mm.1 32 1 j) (hN : svN mm = nI (n + 1)) (e2' : m'.2 = m1.2) (e1' : ∀ t j q, ¬ own t j = (o + n) % 6 + 2 → ¬ t = 12 → m'.1 t j q = m1.1 t j q) (e12 : ∀ q, ¬ q = 2 → m'.1 12 1 q = m1.1 12 1 q) (eC : m'.1 12 1 2 = nI (n + 1)) (hS : RS m' ((o + n) % 6 + 2) (mm.1 32 1)) : Rel a s m' (svM mm) := by
  obtain ⟨hR, hI, ⟨g1, g2, g3, g4, g5, g6⟩, hp0, j1, j2, j3⟩ := h
  have e3 : ∀ t j q, ¬ own t j = (o + n) % 6 + 2 → ¬ t = 12 → m'.1 t j q = mc.1 t j q := fun t j q h1 h2 => (e1' t j q h1 h2).trans (e1 t j q h2)
  have er : m'.2 = mc.2 := e2'.trans e2
  have hfr : ∀ {x : Nat} {y : Nat → Int32}, RS mc x y → 1 ≤ x → ¬ x = (o + n) % 6 + 2 → mo y ≤ 16 → mr y ≤ 12 → RS m' x y := fun hx h1 hne h16 h12 => hx.frame h1 h16 h12 (fun t j q ho => ⟨e3 t j q (by omega) (fun z => by rw [z, own0 (by decide)] at ho; omega), by rw [er]⟩)
  have hplain : ∀ t j q, 13 ≤ t → m'.1 t j q = mc.1 t j q := fun t j q ht => e3 t j q (by rw [own0 (by omega)]; omega) (by omega)
  have h32 : (svM mm).1 32 1 = mm.1 32 1 := by rw [svM_32]
  have htn : (nI (n + 1)).toNatClampNeg = n + 1 := rs_tn (by omega)
  have hto : (nI o).toNatClampNeg = o := rs_tn (by omega)
  unfold Rel
  rw [h32]
  refine ⟨hfr hR (by decide) (by omega) hI.mo16 hI.mr12, hI, ⟨?_, ?_, ?_, fun k hk' => ?_, fun k hk' => ?_, fun x h1 h2 => ?_⟩, ?_, ?_, ?_, fun j hj => ?_⟩
  · rw [e12 1 (by decide), hO]; exact rng_of (by omega) (by decide)
  · rw [eC]; exact rng_of (by omega) (by decide)
  · rw [svM_5, hN, eC]
  · rw [eC, htn] at hk'
    rw [e12 1 (by decide), hO, hto]
    by_cases z : k = n
    · subst z
      have hIn : Inv a s (sv (svM mm) k) := hI.c246 hnow
      exact ⟨hS.c246 hI.mo16 hI.mr12 hnow, hIn⟩
    · have hkn : k < n := by omega
      obtain ⟨q1, q2⟩ := hk k hkn
      have := slotk_ne (o := o) hkn hn
      exact ⟨hfr q1 (by omega) (by omega) q2.mo16 q2.mr12, q2⟩
  · rw [svM_35, hplain 15 1 k (by decide)]
    obtain ⟨q1, q2, q3⟩ := g5 k hk'
    have hkp : kp (svM mm) k = kp mm k := by unfold kp; rw [svM_34]
    rw [hkp]
    exact ⟨q1, q2, fun hne => ⟨hfr (q3 hne).1 (by omega) (by omega) (q3 hne).2.mo16 (q3 hne).2.mr12, (q3 hne).2⟩⟩
  · unfold RSp
    rw [er]
    exact g6 x h1 h2
  · rw [e12 5 (by decide)]; exact h5
  · rw [svM_30 mm (by decide), hplain 17 1 1 (by decide)]; exact j1
  · rw [hplain 17 1 1 (by decide)]; exact j2
  · rw [hplain 17 1 1 (by decide)] at hj
    rw [svM_31, hplain 18 1 j (by decide)]
    exact j3 j hj
theorem ckF_in {f g : Nat → Int32} {x y n q : Nat} (h : y ≤ q ∧ q < y + n) : ckF f g x y n q = f (x + (q - y)) := if_pos h
theorem ckF_out {f g : Nat → Int32} {x y n q : Nat} (h : ¬ (y ≤ q ∧ q < y + n)) : ckF f g x y n q = g q := if_neg h
theorem sv_svM (mm : Mm) (k j : Nat) : sv (svM mm) k j = svS mm (246 * k + j) := by
  unfold sv
  rw [svM_33]
/-- both save -/
theorem c_save (h : Rel a s mc mm) (Q : Mm → Prop) (hq : ∀ m1, (Rel a s m1 (svM mm) ∧ m1.2 = mc.2) → Q m1) : w_X3_save 1 mc Q := by
  have h' := h
  obtain ⟨hR, hI, ⟨g1, g2, g3, g4, g5, g6⟩, hp0, j1, j2, j3⟩ := h
  have hO := g1.1
  have ho6 : (mc.1 12 1 1).toNatClampNeg < 6 := by have := g1.2; omega
  have hC := g2.1
  unfold w_X3_save
  simp only [hp0, not_true_eq_false, not_false_eq_true, false_implies, true_implies, true_and, and_true, forall_eq, if_true, if_false, reduceIte]
  by_cases h6 : mc.1 12 1 2 = 6
  · simp only [h6, not_true_eq_false, not_false_eq_true, false_implies, true_implies, true_and, and_true, forall_eq, if_true, if_false, reduceIte]
    have e12 : mc.1 12 1 1 + 1 - (mc.1 12 1 1 + 1) / 6 * 6 = nI (((mc.1 12 1 1).toNatClampNeg + 1) % 6) := by
      have := rem6 (x := (mc.1 12 1 1).toNatClampNeg) (y := 1) (by omega)
      rw [← hO] at this
      exact this
    rw [e12]
    have e62 : (sI mc 12 1 1 (nI (((mc.1 12 1 1).toNatClampNeg + 1) % 6))).1 12 1 2 = 6 := (sI_ne (fun z => absurd z.2.2 (by decide))).trans h6
    rw [e62]
    generalize ho : (mc.1 12 1 1).toNatClampNeg = o at *
    have hsvN : svN mm = nI (5 + 1) := if_pos (by rw [g3, h6])
    have hsvS : svS mm = ckF (mm.1 32 1) (shF6 (mm.1 33 1) 1230) 0 (246 * 5) 246 := if_pos (by rw [g3, h6])
    have q1 : ∀ t j q, ¬ t = 12 → (sI (sI mc 12 1 1 (nI ((o + 1) % 6))) 12 1 2 (6 - 1)).1 t j q = mc.1 t j q := fun t j q h => by rw [sI_ne (fun z => h z.1), sI_ne (fun z => h z.1)]
    have q2 : (sI (sI mc 12 1 1 (nI ((o + 1) % 6))) 12 1 2 (6 - 1)).1 12 1 1 = nI ((o + 1) % 6) := by rw [sI_ne (fun z => absurd z.2.2 (by decide)), sI_at]
    have q3 : (sI (sI mc 12 1 1 (nI ((o + 1) % 6))) 12 1 2 (6 - 1)).1 12 1 2 = nI 5 := (sI_at _ _ _ _ _).trans (by decide)
    have q5 : (sI (sI mc 12 1 1 (nI ((o + 1) % 6))) 12 1 2 (6 - 1)).1 12 1 5 = 0 := by rw [sI_ne (fun z => absurd z.2.2 (by decide)), sI_ne (fun z => absurd z.2.2 (by decide)), hp0]
    have q6 : (sI (sI mc 12 1 1 (nI ((o + 1) % 6))) 12 1 2 (6 - 1)).2 = mc.2 := rfl
    generalize sI (sI mc 12 1 1 (nI ((o + 1) % 6))) 12 1 2 (6 - 1) = m1 at *
    have hlt : (o + 1) % 6 < 6 := Nat.mod_lt _ (by decide)
    refine c_saveJ hlt (show 5 < 6 by decide) q2 q3 (hR.frame (by decide) hI.mo16 hI.mr12 (fun t j q hw => ⟨q1 t j q (fun z => by rw [z, own0 (by decide)] at hw; omega), by rw [q6]⟩)) hI (fun x h1 h2 => by
      unfold RSp
      rw [q6]
      exact g6 x h1 h2) _ (fun m' e2' e1' ee eC hS => hq m' ⟨rel_saved h' hlt (show 5 < 6 by decide) q1 q6 q5 q2 (fun k hk => ?_) (fun j hj => ?_) hsvN e2' e1' ee eC hS, e2'.trans q6⟩)
    · have hk6 : k + 1 < (mc.1 12 1 2).toNatClampNeg := by rw [h6, show (6 : Int32).toNatClampNeg = 6 from by decide]; omega
      obtain ⟨w1, w2⟩ := g4 (k + 1) hk6
      have hsl : ((o + 1) % 6 + k) % 6 = (o + (k + 1)) % 6 := by omega
      have hsv : ∀ j, j < 246 → sv (svM mm) k j = sv mm (k + 1) j := fun j hj => by
        rw [sv_svM, hsvS, ckF_out (by omega)]
        unfold sv shF6
        rw [if_pos (by omega)]
        exact congrArg (mm.1 33 1) (by omega)
      rw [hsl]
      exact ⟨w1.c246 w2.mo16 w2.mr12 hsv, w2.c246 hsv⟩
    · rw [sv_svM, hsvS, ckF_in (by omega), Nat.zero_add, Nat.add_sub_cancel_left]
  · have hn6 : (mc.1 12 1 2).toNatClampNeg < 6 := by
      have h1 := g2.2
      by_cases z : (mc.1 12 1 2).toNatClampNeg = 6
      · exact absurd (by rw [hC, z]; rfl) h6
      · omega
    simp only [h6, not_true_eq_false, not_false_eq_true, false_implies, true_implies, true_and, and_true, forall_eq, if_true, if_false, reduceIte]
    have hm5 : ¬ mm.1 30 1 5 = 6 := by rw [g3]; exact h6
    have hsvN : svN mm = nI ((mc.1 12 1 2).toNatClampNeg + 1) := by
      unfold svN
      rw [if_neg hm5, g3]
      conv => lhs; rw [hC]
      exact nI_add _ 1
    have hsvS : svS mm = ckF (mm.1 32 1) (mm.1 33 1) 0 (246 * (mc.1 12 1 2).toNatClampNeg) 246 := by
      unfold svS
      rw [if_neg hm5, g3]
    refine c_saveJ ho6 hn6 hO hC hR hI g6 _ (fun m' e2' e1' ee eC hS => hq m' ⟨rel_saved h' ho6 hn6 (fun _ _ _ _ => rfl) rfl hp0 hO (fun k hk => ?_) (fun j hj => ?_) hsvN e2' e1' ee eC hS, e2'⟩)
    · obtain ⟨w1, w2⟩ := g4 k hk
      have hsv : ∀ j, j < 246 → sv (svM mm) k j = sv mm k j := fun j hj => by
        rw [sv_svM, hsvS, ckF_out (by omega)]
        rfl
      exact ⟨w1.c246 w2.mo16 w2.mr12 hsv, w2.c246 hsv⟩
    · rw [sv_svM, hsvS, ckF_in (by omega), Nat.zero_add, Nat.add_sub_cancel_left]
/-- one deed, both sides -/
theorem Rel.step (h : Rel a s m mm1) (hF : Fr 1 m m') (hR : RS m' 1 g) (hI : Inv a' s' g) (ha : a ≤ a') (hs : s ≤ s') : Rel a' s' m' (st mm1 g) := by
  obtain ⟨_, _, ⟨g1, g2, g3, g4, g5, g6⟩, hp0, j1, j2, j3⟩ := h
  have hpl : ∀ t j q, 11 ≤ t → m'.1 t j q = m.1 t j q := fun t j q ht => (hF t j q (by rw [own0 ht]; decide)).1
  have e33 : ∀ k, sv (st mm1 g) k = sv mm1 k := fun k => by unfold sv; rw [st_ne _ _ (by decide)]
  have e34 : ∀ k, kp (st mm1 g) k = kp mm1 k := fun k => by unfold kp; rw [st_ne _ _ (by decide)]
  have hfr : ∀ {x : Nat} {y : Nat → Int32}, RS m x y → 2 ≤ x → mo y ≤ 16 → mr y ≤ 12 → RS m' x y := fun hx h1 h16 h12 => hx.frame (by omega) h16 h12 (fun t j q ho => hF t j q (by omega))
  refine ⟨hR, hI, ⟨?_, ?_, ?_, fun k hk => ?_, fun k hk => ?_, fun x h1 h2 => ?_⟩, ?_, ?_, ?_, fun j hj => ?_⟩
  · rw [hpl 12 1 1 (by decide)]; exact g1
  · rw [hpl 12 1 2 (by decide)]; exact g2
  · rw [hpl 12 1 2 (by decide), st_ne _ _ (by decide)]; exact g3
  · rw [hpl 12 1 2 (by decide)] at hk
    rw [hpl 12 1 1 (by decide), e33]
    obtain ⟨w1, w2⟩ := g4 k hk
    exact ⟨hfr w1 (by omega) w2.mo16 w2.mr12, w2.mono ha hs hI.bnd⟩
  · rw [hpl 15 1 k (by decide), e34, st_ne _ _ (by decide)]
    obtain ⟨w1, w2, w3⟩ := g5 k hk
    exact ⟨w1, w2, fun hne => ⟨hfr (w3 hne).1 (by omega) (w3 hne).2.mo16 (w3 hne).2.mr12, (w3 hne).2.mono ha hs hI.bnd⟩⟩
  · by_cases z : x = 1
    · subst z; exact hR.2.2.2.2.2.2
    · exact (g6 x h1 h2).frame (fun t j q ho => (hF t j q (by omega)).2)
  · rw [hpl 12 1 5 (by decide)]; exact hp0
  · rw [hpl 17 1 1 (by decide), st_ne _ _ (by decide)]; exact j1
  · rw [hpl 17 1 1 (by decide)]; exact j2
  · rw [hpl 17 1 1 (by decide)] at hj
    rw [hpl 18 1 j (by decide), st_ne _ _ (by decide)]
    exact j3 j hj
end SEM23
