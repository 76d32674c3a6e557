section BACK
variable {mc mm m1 m' : Mm} {a s : Nat}
theorem Rel.jr (h : Rel a s mc mm) (e1 : ∀ t j q, ¬ t = 19 → ¬ (t = 17 ∧ ¬ q = 1) → m1.1 t j q = mc.1 t j q) (e2 : ∀ t j q, ¬ t = 17 → m1.2 t j q = mc.2 t j q) : Rel a s m1 mm := by
  have hI := h.inv
  obtain ⟨hR, _, ⟨g1, g2, g3, g4, g5, g6⟩, hp0, j1, j2, j3⟩ := h
  have hn : ∀ t j q, ¬ t = 19 → ¬ t = 17 → m1.1 t j q = mc.1 t j q := fun t j q h1 h2 => e1 t j q h1 (fun z => h2 z.1)
  have hfr : ∀ {x : Nat} {y : Nat → Int32}, RS mc x y → 1 ≤ x → mo y ≤ 16 → mr y ≤ 12 → RS m1 x y := fun hx h1 h16 h12 => hx.frame h1 h16 h12 (fun t j q ho => ⟨hn t j q (fun z => by rw [z, own0 (by decide)] at ho; omega) (fun z => by rw [z, own0 (by decide)] at ho; omega), e2 t j q (fun z => by rw [z, own0 (by decide)] at ho; omega)⟩)
  refine ⟨hfr hR (by decide) hI.mo16 hI.mr12, hI, ⟨?_, ?_, ?_, fun k hk => ?_, fun k hk => ?_, fun x h1 h2 => ?_⟩, ?_, ?_, ?_, fun j hj => ?_⟩
  · rw [hn 12 1 1 (by decide) (by decide)]; exact g1
  · rw [hn 12 1 2 (by decide) (by decide)]; exact g2
  · rw [hn 12 1 2 (by decide) (by decide)]; exact g3
  · rw [hn 12 1 2 (by decide) (by decide)] at hk
    rw [hn 12 1 1 (by decide) (by decide)]
    obtain ⟨w1, w2⟩ := g4 k hk
    exact ⟨hfr w1 (by omega) w2.mo16 w2.mr12, w2⟩
  · rw [hn 15 1 k (by decide) (by decide)]
    obtain ⟨w1, w2, w3⟩ := g5 k hk
    exact ⟨w1, w2, fun z => ⟨hfr (w3 z).1 (by omega) (w3 z).2.mo16 (w3 z).2.mr12, (w3 z).2⟩⟩
  · exact (g6 x h1 h2).frame (fun t j q ho => e2 t j q (fun z => by rw [z, own0 (by decide)] at ho; omega))
  · rw [hn 12 1 5 (by decide) (by decide)]; exact hp0
  · rw [e1 17 1 1 (by decide) (fun z => z.2 rfl)]; exact j1
  · rw [e1 17 1 1 (by decide) (fun z => z.2 rfl)]; exact j2
  · rw [e1 17 1 1 (by decide) (fun z => z.2 rfl)] at hj
    rw [hn 18 1 j (by decide) (by decide)]
    exact j3 j hj
theorem RelN.hy {k : Nat} {u : PS} (hk : k + 1 ≤ 2400) (h1 : Rel (99999 + 400000 * k) (64 * k) mc mm) (hA : Agr mm u) : Hy (99999 + 400000 * k) (64 * k) mc mm (fun m1 mm1 => ∀ v, Agr mm1 v → RelN (k + 1) m1 v) :=
  ⟨h1, by omega, ⟨by omega, by omega⟩, fun m1 mm1 h v hv => ⟨mm1, by
    have e1 : 99999 + 400000 * (k + 1) = 99999 + 400000 * k + 400000 := by omega
    have e2 : 64 * (k + 1) = 64 * k + 64 := by omega
    rw [e1, e2]
    exact h, hv⟩⟩
theorem itr_1 {α : Type} {B : (α → Prop) → α → Prop} {a : α} (h : B (itr B 0) a) : itr B 1 a := h
/-- the buffer is empty: nothing is run -/
theorem n_run {k : Nat} {u : PS} (h : RelN k mc u) (Q : Int32 → Mm → Prop) (X : Nat → Mm → Prop) (hx : ∀ m1, RelN k m1 u → X 2 m1) : w_X9_run mc Q X := by
  obtain ⟨mm, hR, hA⟩ := h
  have h0 : mc.1 17 1 1 = 0 := by
    have j1 := hR.2.2.2.2.1
    rw [← j1]
    exact hA.2.2.2.2.2
  unfold w_X9_run w_X4_isComplete w_X4_firstWrong w_X4_startLine w_X4_startNumber
  intro m1 e1 m2 e2
  refine ⟨vpl (by decide), fun m3 e3 => ⟨1, ?_⟩⟩
  have ne : ∀ t j q, ¬ t = 19 → ¬ (t = 17 ∧ ¬ q = 1) → m3.1 t j q = mc.1 t j q := fun t j q h1 h2 => by
    rw [e3, sI_ne (fun z => h1 z.1), e2, sI_ne (fun z => h2 ⟨z.1, by omega⟩), e1]
    rfl
  have ne2 : ∀ t j q, ¬ t = 17 → m3.2 t j q = mc.2 t j q := fun t j q h1 => by
    rw [e3, e2, e1]
    show (if t = 17 ∧ j = 1 ∧ q = 3 then 0 else mc.2 t j q) = _
    rw [if_neg (fun z => h1 z.1)]
  have q1 : m3.1 17 1 1 = 0 := by rw [ne 17 1 1 (by decide) (fun z => z.2 rfl)]; exact h0
  have q3 : m3.2 17 1 3 = 0 := by
    rw [e3, e2, e1]
    show (if 17 = 17 ∧ 1 = 1 ∧ 3 = 3 then 0 else mc.2 17 1 3) = 0
    rw [if_pos ⟨rfl, rfl, rfl⟩]
  refine itr_1 ?_
  dsimp only
  unfold w_X4_firstWrong_B6
  rw [q1]
  refine ⟨fun _ => ⟨fun z => absurd q1.symm z, fun _ => ?_⟩, fun z => absurd (by decide) z⟩
  unfold w_X4_isLineComplete
  refine ⟨fun _ => ⟨fun _ => ⟨fun z => absurd rfl z, fun _ => hx m3 ⟨mm, hR.jr ne ne2, hA⟩⟩, fun z => absurd rfl z⟩, fun z => absurd q3 z⟩
theorem n_append (p : Int32) (hp : ¬ (33 ≤ p ∧ p ≤ 126)) (Q : Int32 → Mm → Prop) (X : Nat → Mm → Prop) (hx : X 2 mc) : w_X9_append p mc Q X := by
  unfold w_X9_append
  rw [reqW, if_neg hp]
  exact hx
theorem n_undo {k : Nat} {u : PS} (h : RelN k mc u) (hk : k + 1 ≤ 2400) (Q : Int32 → Mm → Prop) (X : Nat → Mm → Prop) (hq : 0 < u.2.1 → ∀ m1, RelN (k + 1) m1 (unP u) → Q (nI (u.2.1 - 1)) m1) (hx : u.2.1 = 0 → X 3 mc) : w_X9_undo mc Q X := by
  obtain ⟨mm, hRel, hA⟩ := h
  have hR := hRel.rs
  have hI := hRel.inv
  obtain ⟨g1, g2, g3, g4, g5, g6⟩ := hRel.2.2.1
  obtain ⟨n, hn6, hn⟩ := g2.ex
  have hnu : n = u.2.1 := by
    have h2 := hA.2.1
    rw [g3, hn] at h2
    exact (nI_inj (by omega) (by have := hA.2.2.1; omega)).mp h2
  unfold w_X9_undo
  by_cases h0 : 0 < n
  · have hp : 0 < mc.1 12 1 2 := by rw [hn]; exact (pos_n hn6).mpr h0
    have e1 : nI n - 1 = nI (n - 1) := pk_sub (b := 1) h0
    have htn : (mc.1 12 1 2).toNatClampNeg = n := by rw [hn]; exact rs_tn (by omega)
    have g4' := g4 (n - 1) (by omega)
    have ho6 : (mc.1 12 1 1).toNatClampNeg < 6 := by have := g1.2; omega
    have hO := g1.1
    generalize (mc.1 12 1 1).toNatClampNeg = o at *
    have hlt : (o + (n - 1)) % 6 < 6 := Nat.mod_lt _ (by decide)
    simp only [hp, not_true_eq_false, not_false_eq_true, false_implies, true_implies, true_and, and_true, forall_eq, if_true, if_false, reduceIte]
    unfold w_X3_restoreLast
    rw [hn, e1]
    intro m1 em1
    have q1 : m1.1 12 1 1 = nI o := by rw [em1, sI_ne (fun z => absurd z.2.2 (by decide)), hO]
    have q2 : m1.1 12 1 2 = nI (n - 1) := by rw [em1, sI_at]
    have qn : ∀ t j q, ¬ t = 12 → m1.1 t j q = mc.1 t j q := fun t j q h => by rw [em1]; exact sI_ne (fun z => h z.1)
    have q5 : ∀ q, ¬ q = 2 → m1.1 12 1 q = mc.1 12 1 q := fun q h => by rw [em1]; exact sI_ne (fun z => h z.2.2)
    have qr : m1.2 = mc.2 := by rw [em1]; rfl
    rw [q1, q2, rem6 (by omega), rs_tn (by omega)]
    refine ⟨vp_in_nI hlt (by decide), ?_⟩
    have hfr : ∀ {x : Nat} {y : Nat → Int32}, RS mc x y → 1 ≤ x → mo y ≤ 16 → mr y ≤ 12 → RS m1 x y := fun hx h1 h16 h12 => hx.frame h1 h16 h12 (fun t j q ho => ⟨qn t j q (fun z => by rw [z, own0 (by decide)] at ho; omega), by rw [qr]⟩)
    have hrp : ∀ x, 1 ≤ x → x ≤ 9 → RSp m1 x := fun x h1 h2 => by
      unfold RSp
      rw [qr]
      exact g6 x h1 h2
    have hRel1 : Rel (99999 + 400000 * k) (64 * k) m1 (sI (sI mm 30 1 0 0) 30 1 5 (nI (n - 1))) := by
      obtain ⟨_, _, _, hp0, j1, j2, j3⟩ := hRel
      refine ⟨hfr hR (by decide) hI.mo16 hI.mr12, hI, ⟨?_, ?_, ?_, fun k hk => ?_, fun k hk => ?_, hrp⟩, ?_, ?_, ?_, fun j hj => ?_⟩
      · rw [q1]; exact rng_of (by omega) (by decide)
      · rw [q2]; exact rng_of (by omega) (by decide)
      · rw [q2]; exact ref_ref
      · rw [q2, rs_tn (by omega)] at hk
        rw [q1, rs_tn (by omega)]
        obtain ⟨w1, w2⟩ := g4 k (by omega)
        exact ⟨hfr w1 (by omega) w2.mo16 w2.mr12, w2⟩
      · rw [qn 15 1 k (by decide)]
        obtain ⟨w1, w2, w3⟩ := g5 k hk
        exact ⟨w1, w2, fun z => ⟨hfr (w3 z).1 (by omega) (w3 z).2.mo16 (w3 z).2.mr12, (w3 z).2⟩⟩
      · rw [q5 5 (by decide)]; exact hp0
      · rw [qn 17 1 1 (by decide), ref_ne (by decide), ref_ne (by decide)]; exact j1
      · rw [qn 17 1 1 (by decide)]; exact j2
      · rw [qn 17 1 1 (by decide)] at hj
        rw [qn 18 1 j (by decide)]
        exact j3 j hj
    refine c_copyFrom (hfr g4'.1 (by omega) g4'.2.mo16 g4'.2.mr12) g4'.2 (hrp 1 (by decide) (by decide)) (by omega) i1 ⟨by omega, by omega⟩ _ (fun m4 e4 hF hR4 => ?_)
    have q4 : m4.1 12 1 2 = nI (n - 1) := by rw [(hF 12 1 2 (by decide)).1, q2]
    show Q (m4.1 12 1 2) m4
    rw [q4]
    have hfin := hRel1.swap (mm' := st (sI (sI mm 30 1 0 0) 30 1 5 (nI (n - 1))) (u.2.2.1 (n - 1))) hF hR4 g4'.2 (fun j hj => ?_) (by rw [st_ne _ _ (by decide)]) (by rw [st_ne _ _ (by decide)]) (by rw [st_ne _ _ (by decide)]) (by rw [st_ne _ _ (by decide)]) (by rw [st_ne _ _ (by decide)]) (by rw [st_ne _ _ (by decide)])
    · subst hnu
      refine hq h0 m4 (RelN.mono (k := k) ⟨_, hfin, ?_⟩ (Nat.le_succ _) hk)
      obtain ⟨a1, a2, a3, a4, a5, a6⟩ := hA
      refine ⟨rfl, ?_, ?_, fun k9 hk9 j hj => ?_, fun k9 hk9 => ?_, ?_⟩
      · rw [st_ne _ _ (by decide)]; exact ref_ref
      · show u.2.1 - 1 ≤ 6
        omega
      · have hk9 : k9 < u.2.1 - 1 := hk9
        have := a4 k9 (by omega) j hj
        unfold sv at this ⊢
        rw [st_ne _ _ (by decide)]
        exact this
      · have := a5 k9 hk9
        have x2 : ∀ j, kp (st (sI (sI mm 30 1 0 0) 30 1 5 (nI (u.2.1 - 1))) (u.2.2.1 (u.2.1 - 1))) k9 j = kp mm k9 j := fun j => by unfold kp; rw [st_ne _ _ (by decide)]; rfl
        rw [st_ne _ _ (by decide)]
        exact ⟨this.1, fun f hf => ⟨(this.2 f hf).1, fun j hj => by rw [x2]; exact (this.2 f hf).2 j hj⟩⟩
      · rw [st_ne _ _ (by decide), ref_ne (by decide), ref_ne (by decide)]
        exact a6
    · show u.2.2.1 (n - 1) j = sv mm (n - 1) j
      rw [hA.2.2.2.1 (n - 1) (by omega) j hj]
  · have hp : ¬ 0 < mc.1 12 1 2 := by rw [hn]; exact fun z => h0 ((pos_n hn6).mp z)
    simp only [hp, not_true_eq_false, not_false_eq_true, false_implies, true_implies, true_and, and_true, forall_eq, if_true, if_false, reduceIte]
    exact hx (by omega)
def tSlot (p : Int32) : Nat := if 0 ≤ p ∧ p ≤ 1 then 0 else 1
theorem n_keep {k : Nat} {u : PS} (h : RelN k mc u) (hk : k + 1 ≤ 2400) (p : Int32) (Q : Int32 → Mm → Prop) (X : Nat → Mm → Prop) (hq : tSlot p = 0 → ∀ m1, RelN (k + 1) m1 (kpP u p.toNatClampNeg) → Q (u.1 117) m1) (hx : ¬ tSlot p = 0 → X (tSlot p) mc) : w_X9_keep p mc Q X := by
  obtain ⟨mm, hRel, hA⟩ := h
  have hR := hRel.rs
  have hI := hRel.inv
  unfold w_X9_keep
  rw [reqS]
  by_cases hp : 0 ≤ p ∧ p ≤ 1
  · rw [if_pos hp]
    have hq := hq (by unfold tSlot; rw [if_pos hp])
    obtain ⟨c, hc1, rfl⟩ := (rng_lit 1 (by decide) hp).ex
    have hc2 : c < 2 := by omega
    have ht : (nI c).toNatClampNeg = c := rs_tn (by omega)
    obtain ⟨_, _, ⟨g1, g2, g3, g4, g5, g6⟩, hp0, j1, j2, j3⟩ := hRel
    unfold w_X3_fillSlot
    rw [ht]
    refine ⟨vp_in_nI hc2 (by decide), ?_⟩
    refine c_copyFrom hR hI (g6 (c + 8) (by omega) (by omega)) (by omega) ⟨by omega, by omega⟩ i1 _ (fun m3 e3 hF hR3 => ?_)
    intro m4 e4
    have q15 : ∀ t j q, ¬ (t = 15 ∧ j = 1 ∧ q = c) → m4.1 t j q = m3.1 t j q := fun t j q z => by rw [e4]; exact sI_ne z
    have q15c : m4.1 15 1 c = 1 := by rw [e4]; exact sI_at _ _ _ _ _
    have q2 : m4.2 = mc.2 := by rw [e4]; exact e3
    have hn : ∀ t j q, ¬ own t j = c + 8 → ¬ (t = 15 ∧ j = 1 ∧ q = c) → m4.1 t j q = mc.1 t j q := fun t j q h1 h2 => (q15 t j q h2).trans (hF t j q h1).1
    have hfr : ∀ {x : Nat} {y : Nat → Int32}, RS mc x y → 1 ≤ x → ¬ x = c + 8 → mo y ≤ 16 → mr y ≤ 12 → RS m4 x y := fun hx h1 hne h16 h12 => hx.frame h1 h16 h12 (fun t j q ho => ⟨hn t j q (by omega) (fun z => by rw [z.1, own0 (by decide)] at ho; omega), by rw [q2]⟩)
    have hR4 : RS m4 (c + 8) (mm.1 32 1) := hR3.frame (by omega) hI.mo16 hI.mr12 (fun t j q ho => ⟨q15 t j q (fun z => by rw [z.1, own0 (by decide)] at ho; omega), by rw [e4]; rfl⟩)
    have hpl : ∀ t j q, 11 ≤ t → ¬ (t = 15 ∧ j = 1 ∧ q = c) → m4.1 t j q = mc.1 t j q := fun t j q ht hne => hn t j q (by rw [own0 ht]; omega) hne
    have hop : m4.1 1 1 1 = mm.1 32 1 117 := by
      rw [hn 1 1 1 (by rw [own1]; omega) (fun z => absurd z.1 (by decide))]
      exact hR.opn
    rw [hop, hA.1]
    obtain ⟨mx, hmx⟩ : ∃ mx, sI (sx 34 (sI mm 30 1 0 0) (ckF ((sI mm 30 1 0 0).1 32 1) ((sI mm 30 1 0 0).1 34 1) 0 (246 * c) 246)) 35 1 c 1 = mx := ⟨_, rfl⟩
    have x34 : mx.1 34 1 = ckF (mm.1 32 1) (mm.1 34 1) 0 (246 * c) 246 := by
      rw [← hmx]
      funext j
      show (if 34 = 35 ∧ 1 = 1 ∧ j = c then (1 : Int32) else if 34 = 34 ∧ 1 = 1 then ckF (mm.1 32 1) (mm.1 34 1) 0 (246 * c) 246 j else mm.1 34 1 j) = _
      rw [if_neg (fun z => absurd z.1 (by decide)), if_pos ⟨rfl, rfl⟩]
    have xo : ∀ t, ¬ t = 34 → ¬ t = 35 → mx.1 t = (sI mm 30 1 0 0).1 t := fun t h1 h2 => by
      rw [← hmx]
      funext i j
      show (if t = 35 ∧ i = 1 ∧ j = c then (1 : Int32) else (sx 34 (sI mm 30 1 0 0) _).1 t i j) = _
      rw [if_neg (fun z => h2 z.1), sx_ne _ _ h1]
    have x35 : ∀ k, mx.1 35 1 k = if k = c then 1 else mm.1 35 1 k := fun k => by
      rw [← hmx]
      show (if 35 = 35 ∧ 1 = 1 ∧ k = c then (1 : Int32) else (sx 34 (sI mm 30 1 0 0) _).1 35 1 k) = _
      by_cases z : k = c
      · rw [if_pos ⟨rfl, rfl, z⟩, if_pos z]
      · rw [if_neg (fun w => z w.2.2), if_neg z, sx_ne _ _ (by decide)]
        rfl
    have x32 : mx.1 32 1 = mm.1 32 1 := by rw [xo 32 (by decide) (by decide)]; rfl
    have x33 : ∀ k, sv mx k = sv mm k := fun k => by
      unfold sv
      rw [xo 33 (by decide) (by decide)]
      rfl
    have xk : ∀ j, j < 246 → kp mx c j = mm.1 32 1 j := fun j hj => by
      unfold kp
      rw [x34, ckF_in (by omega), Nat.zero_add, Nat.add_sub_cancel_left]
    have xk2 : ∀ k, ¬ k = c → ∀ j, j < 246 → kp mx k j = kp mm k j := fun k z j hj => by
      unfold kp
      rw [x34, ckF_out (by omega)]
    refine hq m4 (RelN.mono (k := k) ⟨mx, ?_, ?_⟩ (Nat.le_succ _) hk)
    · unfold Rel
      rw [x32]
      refine ⟨hfr hR (by decide) (by omega) hI.mo16 hI.mr12, hI, ⟨?_, ?_, ?_, fun k hk => ?_, fun k hk => ?_, fun x h1 h2 => ?_⟩, ?_, ?_, ?_, fun j hj => ?_⟩
      · rw [hpl 12 1 1 (by decide) (fun z => absurd z.1 (by decide))]; exact g1
      · rw [hpl 12 1 2 (by decide) (fun z => absurd z.1 (by decide))]; exact g2
      · rw [hpl 12 1 2 (by decide) (fun z => absurd z.1 (by decide)), xo 30 (by decide) (by decide), ref_ne (by decide)]; exact g3
      · rw [hpl 12 1 2 (by decide) (fun z => absurd z.1 (by decide))] at hk
        rw [hpl 12 1 1 (by decide) (fun z => absurd z.1 (by decide)), x33]
        obtain ⟨w1, w2⟩ := g4 k hk
        have : ((mc.1 12 1 1).toNatClampNeg + k) % 6 < 6 := Nat.mod_lt _ (by decide)
        exact ⟨hfr w1 (by omega) (by omega) w2.mo16 w2.mr12, w2⟩
      · rw [x35]
        by_cases z : k = c
        · subst z
          rw [if_pos rfl, q15c]
          exact ⟨rfl, isB1, fun _ => ⟨hR4.c246 hI.mo16 hI.mr12 xk, hI.c246 xk⟩⟩
        · rw [if_neg z, hpl 15 1 k (by decide) (fun w => z w.2.2)]
          obtain ⟨w1, w2, w3⟩ := g5 k hk
          exact ⟨w1, w2, fun y => ⟨(hfr (w3 y).1 (by omega) (by omega) (w3 y).2.mo16 (w3 y).2.mr12).c246 (w3 y).2.mo16 (w3 y).2.mr12 (xk2 k z), (w3 y).2.c246 (xk2 k z)⟩⟩
      · unfold RSp
        rw [q2]
        exact g6 x h1 h2
      · rw [hpl 12 1 5 (by decide) (fun z => absurd z.1 (by decide))]; exact hp0
      · rw [hpl 17 1 1 (by decide) (fun z => absurd z.1 (by decide)), xo 30 (by decide) (by decide), ref_ne (by decide)]; exact j1
      · rw [hpl 17 1 1 (by decide) (fun z => absurd z.1 (by decide))]; exact j2
      · rw [hpl 17 1 1 (by decide) (fun z => absurd z.1 (by decide))] at hj
        rw [hpl 18 1 j (by decide) (fun z => absurd z.1 (by decide)), xo 31 (by decide) (by decide)]
        exact j3 j hj
    · obtain ⟨a1, a2, a3, a4, a5, a6⟩ := hA
      rw [ht]
      refine ⟨x32.trans a1, ?_, a3, fun k9 hk9 j hj => ?_, fun k9 hk9 => ?_, ?_⟩
      · rw [xo 30 (by decide) (by decide), ref_ne (by decide)]; exact a2
      · rw [x33]; exact a4 k9 hk9 j hj
      · show ((if k9 = c then some u.1 else u.2.2.2 k9) = none → _) ∧ ∀ f, (if k9 = c then some u.1 else u.2.2.2 k9) = some f → _
        rw [x35]
        by_cases z : k9 = c
        · rw [if_pos z, if_pos z]
          refine ⟨(fun y => nomatch y), fun f hf => ⟨by decide, fun j hj => ?_⟩⟩
          cases hf
          rw [z, xk j hj, a1]
        · rw [if_neg z, if_neg z]
          exact ⟨(a5 k9 hk9).1, fun f hf => ⟨((a5 k9 hk9).2 f hf).1, fun j hj => by rw [xk2 k9 z j hj]; exact ((a5 k9 hk9).2 f hf).2 j hj⟩⟩
      · rw [xo 30 (by decide) (by decide), ref_ne (by decide)]; exact a6
  · rw [if_neg hp]
    exact xq hx (by unfold tSlot; rw [if_neg hp]) (by decide)
def tBack (u : PS) (p : Int32) : Nat := if 0 ≤ p ∧ p ≤ 1 then (match u.2.2.2 p.toNatClampNeg with | none => 3 | some _ => 0) else 1
def bkP (u : PS) (p : Int32) : Fn := match u.2.2.2 p.toNatClampNeg with | none => u.1 | some f => f
theorem n_goBack {k : Nat} {u : PS} (h : RelN k mc u) (hk : k + 1 ≤ 2400) (p : Int32) (Q : Int32 → Mm → Prop) (X : Nat → Mm → Prop) (hq : tBack u p = 0 → ∀ m1, RelN (k + 1) m1 (svP u (bkP u p)) → Q (bkP u p 117) m1) (hx : ¬ tBack u p = 0 → X (tBack u p) mc) : w_X9_goBack p mc Q X := by
  obtain ⟨mm, hRel, hA⟩ := h
  have hR := hRel.rs
  have hI := hRel.inv
  have hH := RelN.hy hk hRel hA
  unfold w_X9_goBack
  rw [reqS]
  by_cases hp : 0 ≤ p ∧ p ≤ 1
  · rw [if_pos hp]
    have hp' := hp
    obtain ⟨c, hc1, rfl⟩ := (rng_lit 1 (by decide) hp).ex
    have hc2 : c < 2 := by omega
    have ht : (nI c).toNatClampNeg = c := rs_tn (by omega)
    have hv := vp_in_nI hc2 (show 2 < 2147483648 by decide)
    obtain ⟨w1, w2, w3⟩ := hRel.2.2.1.2.2.2.2.1 c hc2
    obtain ⟨k1, k2⟩ := hA.2.2.2.2.1 c hc2
    refine ⟨hv, ?_⟩
    rw [ht]
    cases hu : u.2.2.2 c with
    | none =>
      have hz : mc.1 15 1 c = 0 := by rw [← w1]; exact k1 hu
      simp only [hz, not_true_eq_false, not_false_eq_true, false_implies, true_implies, true_and, and_true, forall_eq, if_true, if_false, reduceIte]
      exact xq hx (by unfold tBack; rw [if_pos hp', ht, hu]) (by decide)
    | some f =>
      obtain ⟨k3, k4⟩ := k2 f hu
      have hz : ¬ mc.1 15 1 c = 0 := by rw [← w1]; exact k3
      have hq := hq (by unfold tBack; rw [if_pos hp', ht, hu])
      have hb : bkP u (nI c) = f := by unfold bkP; rw [ht, hu]
      rw [hb] at hq
      simp only [hz, not_true_eq_false, not_false_eq_true, false_implies, true_implies, true_and, and_true, forall_eq, if_true, if_false, reduceIte]
      refine hH.sv _ (fun m6 hm => ?_)
      obtain ⟨x1, x2, x3⟩ := hm.1.2.2.1.2.2.2.2.1 c hc2
      have hz6 : ¬ m6.1 15 1 c = 0 := by
        rw [← x1]
        show ¬ (svM (sI mm 30 1 0 0)).1 35 1 c = 0
        rw [svM_35]
        exact k3
      have hkk := x3 hz6
      have hr1 := hm.1.2.2.1.2.2.2.2.2 1 (by decide) (by decide)
      refine c_copyFrom hkk.1 hkk.2 hr1 (by omega) i1 ⟨by omega, by omega⟩ _ (fun m8 e8 hF hR8 => ?_)
      rw [hR8.opn]
      have ekp : ∀ j, j < 246 → f j = kp (sv0 mm) c j := fun j hj => by
        rw [← k4 j hj]
        unfold kp sv0
        rw [svM_34]
        rfl
      rw [← ekp 117 (by decide)]
      refine hq m8 (RelN.mono (k := k) ⟨st (sv0 mm) f, ?_, hA.deed f⟩ (Nat.le_succ _) hk)
      exact hm.1.swap hF hR8 hkk.2 ekp (by rw [st_ne _ _ (by decide)]) (by rw [st_ne _ _ (by decide)]) (by rw [st_ne _ _ (by decide)]) (by rw [st_ne _ _ (by decide)]) (by rw [st_ne _ _ (by decide)]) (by rw [st_ne _ _ (by decide)])
  · rw [if_neg hp]
    exact xq hx (by unfold tBack; rw [if_neg hp]) (by decide)
end BACK
