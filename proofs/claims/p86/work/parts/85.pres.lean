section JPS
theorem leave4 {f : Fn} {e : Nat} {w : Int32} (h : whyL f e w = 0) : f 4 ≤ 0 := by
  unfold whyL at h
  by_cases c0 : f 4 ≤ 0
  · exact c0
  · rw [if_neg c0] at h
    exact absurd h (by decide)
theorem draw4 {f : Fn} {r : Nat} {w : Int32} (h : whyD f r w = 0) : f 4 ≤ 0 := by
  unfold whyD at h
  by_cases c0 : f 4 ≤ 0
  · exact c0
  · rw [if_neg c0] at h
    exact absurd h (by decide)
variable {u : PS} {k : Nat} {f : Fn}
def JP (u : PS) : Prop := JI u.1 ∧ (∀ j, j < u.2.1 → JI (u.2.2.1 j)) ∧ ∀ j f, j < 2 → u.2.2.2 j = some f → JI f
theorem JP.sv {g : Fn} (h : JP u) (hg : JI g) : JP (svP u g) := by
  refine ⟨by rw [svP_now]; exact hg, ?_, by rw [svP_kp]; exact h.2.2⟩
  intro j hj
  unfold svP at hj ⊢
  by_cases z : u.2.1 = 6
  · rw [if_pos z] at hj ⊢
    show JI (if j = 5 then u.1 else u.2.2.1 (j + 1))
    by_cases z5 : j = 5
    · rw [if_pos z5]; exact h.1
    · rw [if_neg z5]
      have hj : j < 6 := hj
      exact h.2.1 (j + 1) (by omega)
  · rw [if_neg z] at hj ⊢
    show JI (if j = u.2.1 then u.1 else u.2.2.1 j)
    by_cases z5 : j = u.2.1
    · rw [if_pos z5]; exact h.1
    · rw [if_neg z5]
      have hj : j < u.2.1 + 1 := hj
      exact h.2.1 j (by omega)
theorem JP.un (h : JP u) (hn : 0 < u.2.1) : JP (unP u) :=
  ⟨h.2.1 (u.2.1 - 1) (by omega), fun j hj => h.2.1 j (by have hj : j < u.2.1 - 1 := hj; omega), h.2.2⟩
theorem JP.kp (h : JP u) (c : Nat) : JP (kpP u c) := by
  refine ⟨h.1, h.2.1, fun j f hj hf => ?_⟩
  have hf : (if j = c then some u.1 else u.2.2.2 j) = some f := hf
  by_cases z : j = c
  · rw [if_pos z] at hf
    cases hf
    exact h.1
  · rw [if_neg z] at hf
    exact h.2.2 j f hj hf
theorem JP.bk (h : JP u) {p : Int32} (ht : tBack u p = 0) : JP (svP u (bkP u p)) := by
  unfold tBack at ht
  by_cases hp : 0 ≤ p ∧ p ≤ 1
  · rw [if_pos hp] at ht
    obtain ⟨c, hc1, rfl⟩ := (rng_lit 1 (by decide) hp).ex
    have hct : (nI c).toNatClampNeg = c := rs_tn (by omega)
    rw [hct] at ht
    cases hu : u.2.2.2 c with
    | none => rw [hu] at ht; exact absurd ht (by decide)
    | some f =>
      have e : bkP u (nI c) = f := by unfold bkP; rw [hct, hu]
      rw [e]
      exact h.sv (h.2.2 c f (by omega) hu)
  · rw [if_neg hp] at ht
    exact absurd ht (by decide)
theorem tEnter0 {f : Fn} {k w v c : Int32} (h : tEnter f k w v c = 0) : ((0 ≤ k ∧ k ≤ 5) ∧ (1 ≤ w ∧ w ≤ 999) ∧ (1 ≤ v ∧ v ≤ 9999) ∧ (0 ≤ c ∧ c ≤ 4)) ∧ (whyE f k.toNatClampNeg w v c = 0) := by
  unfold tEnter at h
  by_cases c0 : (0 ≤ k ∧ k ≤ 5) ∧ (1 ≤ w ∧ w ≤ 999) ∧ (1 ≤ v ∧ v ≤ 9999) ∧ (0 ≤ c ∧ c ≤ 4)
  · rw [if_pos c0] at h
    by_cases c1 : whyE f k.toNatClampNeg w v c = 0
    · rw [if_pos c1] at h
      exact ⟨c0, c1⟩
    · rw [if_neg c1] at h
      exact absurd h (by decide)
  · rw [if_neg c0] at h
    exact absurd h (by decide)
theorem tOut0 {f : Fn} {p w : Int32} (h : tOut f p w = 0) : (fiE f p < mo f) ∧ (1 ≤ w ∧ w ≤ 999) ∧ (whyW f (fiE f p) w = 0) := by
  unfold tOut at h
  by_cases c0 : fiE f p < mo f
  · rw [if_pos c0] at h
    by_cases c1 : 1 ≤ w ∧ w ≤ 999
    · rw [if_pos c1] at h
      by_cases c2 : whyW f (fiE f p) w = 0
      · rw [if_pos c2] at h
        exact ⟨c0, c1, c2⟩
      · rw [if_neg c2] at h
        exact absurd h (by decide)
    · rw [if_neg c1] at h
      exact absurd h (by decide)
  · rw [if_neg c0] at h
    exact absurd h (by decide)
theorem tSend0 {f : Fn} {p w : Int32} (h : tSend f p w = 0) : (fiE f p < mo f) ∧ (1 ≤ w ∧ w ≤ 999) ∧ (whyX f (fiE f p) w = 0) := by
  unfold tSend at h
  by_cases c0 : fiE f p < mo f
  · rw [if_pos c0] at h
    by_cases c1 : 1 ≤ w ∧ w ≤ 999
    · rw [if_pos c1] at h
      by_cases c2 : whyX f (fiE f p) w = 0
      · rw [if_pos c2] at h
        exact ⟨c0, c1, c2⟩
      · rw [if_neg c2] at h
        exact absurd h (by decide)
    · rw [if_neg c1] at h
      exact absurd h (by decide)
  · rw [if_neg c0] at h
    exact absurd h (by decide)
theorem tDraw0 {f : Fn} {p w : Int32} (h : tDraw f p w = 0) : (0 ≤ p ∧ p ≤ f 68 - 1) ∧ (1 ≤ w ∧ w ≤ 999) ∧ (whyD f p.toNatClampNeg w = 0) := by
  unfold tDraw at h
  by_cases c0 : 0 ≤ p ∧ p ≤ f 68 - 1
  · rw [if_pos c0] at h
    by_cases c1 : 1 ≤ w ∧ w ≤ 999
    · rw [if_pos c1] at h
      by_cases c2 : whyD f p.toNatClampNeg w = 0
      · rw [if_pos c2] at h
        exact ⟨c0, c1, c2⟩
      · rw [if_neg c2] at h
        exact absurd h (by decide)
    · rw [if_neg c1] at h
      exact absurd h (by decide)
  · rw [if_neg c0] at h
    exact absurd h (by decide)
theorem tMove0 {f : Fn} {p c : Int32} (h : tMove f p c = 0) : (fiE f p < mo f) ∧ (0 ≤ c ∧ c ≤ 4) ∧ (whyM f (fiE f p) c = 0) := by
  unfold tMove at h
  by_cases c0 : fiE f p < mo f
  · rw [if_pos c0] at h
    by_cases c1 : 0 ≤ c ∧ c ≤ 4
    · rw [if_pos c1] at h
      by_cases c2 : whyM f (fiE f p) c = 0
      · rw [if_pos c2] at h
        exact ⟨c0, c1, c2⟩
      · rw [if_neg c2] at h
        exact absurd h (by decide)
    · rw [if_neg c1] at h
      exact absurd h (by decide)
  · rw [if_neg c0] at h
    exact absurd h (by decide)
theorem tSplit0 {f : Fn} {p w : Int32} (h : tSplit f p w = 0) : (fiE f p < mo f) ∧ (1 ≤ w ∧ w ≤ en f (fiE f p) 2 - 1) ∧ (f (10 + chm f (fiE f p)) ≤ 0 ∧ ¬ 16 ≤ f 117 ∧ ¬ 60 ≤ f 1) := by
  unfold tSplit at h
  by_cases c0 : fiE f p < mo f
  · rw [if_pos c0] at h
    by_cases c1 : 1 ≤ w ∧ w ≤ en f (fiE f p) 2 - 1
    · rw [if_pos c1] at h
      by_cases c2 : f (10 + chm f (fiE f p)) ≤ 0 ∧ ¬ 16 ≤ f 117 ∧ ¬ 60 ≤ f 1
      · rw [if_pos c2] at h
        exact ⟨c0, c1, c2⟩
      · rw [if_neg c2] at h
        exact absurd h (by decide)
    · rw [if_neg c1] at h
      exact absurd h (by decide)
  · rw [if_neg c0] at h
    exact absurd h (by decide)
theorem tWeigh0 {f : Fn} {p w : Int32} (h : tWeigh f p w = 0) : (fiE f p < mo f) ∧ (0 ≤ w ∧ w ≤ en f (fiE f p) 2) ∧ (f (10 + chm f (fiE f p)) ≤ 0) := by
  unfold tWeigh at h
  by_cases c0 : fiE f p < mo f
  · rw [if_pos c0] at h
    by_cases c1 : 0 ≤ w ∧ w ≤ en f (fiE f p) 2
    · rw [if_pos c1] at h
      by_cases c2 : f (10 + chm f (fiE f p)) ≤ 0
      · rw [if_pos c2] at h
        exact ⟨c0, c1, c2⟩
      · rw [if_neg c2] at h
        exact absurd h (by decide)
    · rw [if_neg c1] at h
      exact absurd h (by decide)
  · rw [if_neg c0] at h
    exact absurd h (by decide)
theorem tPay0 {f : Fn} {x : Int32} (h : tPay f x = 0) : (1 ≤ x ∧ x ≤ 9999) ∧ (afterF f x ≤ 99999) := by
  unfold tPay at h
  by_cases c0 : 1 ≤ x ∧ x ≤ 9999
  · rw [if_pos c0] at h
    by_cases c1 : afterF f x ≤ 99999
    · rw [if_pos c1] at h
      exact ⟨c0, c1⟩
    · rw [if_neg c1] at h
      exact absurd h (by decide)
  · rw [if_neg c0] at h
    exact absurd h (by decide)
theorem tLock0 {f : Fn} {p : Int32} (h : tLock f p = 0) : (0 ≤ p ∧ p ≤ 4) ∧ (f (10 + p.toNatClampNeg) ≤ 0) := by
  unfold tLock at h
  by_cases c0 : 0 ≤ p ∧ p ≤ 4
  · rw [if_pos c0] at h
    by_cases c1 : f (10 + p.toNatClampNeg) ≤ 0
    · rw [if_pos c1] at h
      exact ⟨c0, c1⟩
    · rw [if_neg c1] at h
      exact absurd h (by decide)
  · rw [if_neg c0] at h
    exact absurd h (by decide)
theorem tBreak0 {f : Fn} {p : Int32} (h : tBreak f p = 0) : (0 ≤ p ∧ p ≤ 4) ∧ (¬ f (10 + p.toNatClampNeg) ≤ 0 ∧ f (15 + p.toNatClampNeg) = 0) := by
  unfold tBreak at h
  by_cases c0 : 0 ≤ p ∧ p ≤ 4
  · rw [if_pos c0] at h
    by_cases c1 : ¬ f (10 + p.toNatClampNeg) ≤ 0 ∧ f (15 + p.toNatClampNeg) = 0
    · rw [if_pos c1] at h
      exact ⟨c0, c1⟩
    · rw [if_neg c1] at h
      exact absurd h (by decide)
  · rw [if_neg c0] at h
    exact absurd h (by decide)
theorem tOpen0 {f : Fn} {p : Int32} (h : tOpen f p = 0) : (0 ≤ p ∧ p ≤ 4) ∧ ¬ f (10 + p.toNatClampNeg) ≤ 0 := by
  unfold tOpen at h
  by_cases c0 : 0 ≤ p ∧ p ≤ 4
  · rw [if_pos c0] at h
    by_cases c1 : f (10 + p.toNatClampNeg) ≤ 0
    · rw [if_pos c1] at h
      exact absurd h (by decide)
    · exact ⟨c0, c1⟩
  · rw [if_neg c0] at h
    exact absurd h (by decide)
theorem tMerge0 {f : Fn} {p q : Int32} (h : tMerge f p q = 0) : (fiE f p < mo f ∧ fiE f q < mo f) ∧ ¬ p = q ∧ (en f (fiE f p) 1 = en f (fiE f q) 1 ∧ en f (fiE f p) 4 = en f (fiE f q) 4 ∧ f (10 + chm f (fiE f p)) ≤ 0 ∧ ¬ en f (fiE f p) 7 = 0 ∧ ¬ en f (fiE f q) 7 = 0 ∧ ¬ 999 < en f (fiE f p) 2 + en f (fiE f q) 2) := by
  unfold tMerge at h
  by_cases c0 : fiE f p < mo f ∧ fiE f q < mo f
  · rw [if_pos c0] at h
    by_cases c1 : p = q
    · rw [if_pos c1] at h
      exact absurd h (by decide)
    · rw [if_neg c1] at h
      by_cases c2 : (en f (fiE f p) 1 = en f (fiE f q) 1 ∧ en f (fiE f p) 4 = en f (fiE f q) 4 ∧ f (10 + chm f (fiE f p)) ≤ 0 ∧ ¬ en f (fiE f p) 7 = 0 ∧ ¬ en f (fiE f q) 7 = 0 ∧ ¬ 999 < en f (fiE f p) 2 + en f (fiE f q) 2)
      · exact ⟨c0, c1, c2⟩
      · rw [if_neg c2] at h
        exact absurd h (by decide)
  · rw [if_neg c0] at h
    exact absurd h (by decide)
theorem tUndo0 {u : PS} (h : tUndo u = 0) : 0 < u.2.1 := by
  unfold tUndo at h
  by_cases c0 : u.2.1 = 0
  · rw [if_pos c0] at h
    exact absurd h (by decide)
  · omega
theorem P_enter {mc : Mm} (hR : RelN k mc u) (h : JP u) (p0 : Int32) (p1 : Int32) (p2 : Int32) (p3 : Int32) : JP (z_enter p0 p1 p2 p3 u).2.1 := by
  have hI := hR.inv
  unfold z_enter
  by_cases ht : tEnter u.1 p0 p1 p2 p3 = 0
  · rw [if_pos ht]
    obtain ⟨⟨g1, g2, g3, g4⟩, hy⟩ := tEnter0 ht
    obtain ⟨k0, hk, rfl⟩ := (rng_lit 5 (by decide) g1).ex
    obtain ⟨c, hc, rfl⟩ := (rng_lit 4 (by decide) g4).ex
    have hkt : (nI k0).toNatClampNeg = k0 := rs_tn (by omega)
    rw [hkt] at hy ⊢
    exact h.sv (JI.enter hI h.1 (by omega) (by omega) g2 (whyE0 hy).2.2.1)
  · rw [if_neg ht]; exact h
theorem P_tryWithdraw {mc : Mm} (hR : RelN k mc u) (h : JP u) (p0 : Int32) (p1 : Int32) : JP (z_tryWithdraw p0 p1 u).2.1 := by
  have hI := hR.inv
  unfold z_tryWithdraw
  by_cases ht : tOut u.1 p0 p1 = 0
  · rw [if_pos ht]
    obtain ⟨hF, hw, hy⟩ := tOut0 ht
    have hL := whyL0 (whyW0 hy).1
    have hwr : rng p1 (en u.1 (fiE u.1 p0) 2).toNatClampNeg := rng_le (hI.ent _ hF).2.1 (by decide) (one_le hw.1) hL.2.2
    exact h.sv (JI.withdraw hI h.1 hF hwr (leave4 (whyW0 hy).1))
  · rw [if_neg ht]; exact h
theorem P_trySend {mc : Mm} (hR : RelN k mc u) (h : JP u) (p0 : Int32) (p1 : Int32) : JP (z_trySend p0 p1 u).2.1 := by
  have hI := hR.inv
  unfold z_trySend
  by_cases ht : tSend u.1 p0 p1 = 0
  · rw [if_pos ht]
    obtain ⟨hF, hw, hy⟩ := tSend0 ht
    have hL := whyL0 (whyX0 hy).1
    have hwr : rng p1 (en u.1 (fiE u.1 p0) 2).toNatClampNeg := rng_le (hI.ent _ hF).2.1 (by decide) (one_le hw.1) hL.2.2
    exact h.sv (JI.send hI h.1 hF hwr)
  · rw [if_neg ht]; exact h
theorem P_tryDraw {mc : Mm} (hR : RelN k mc u) (h : JP u) (p0 : Int32) (p1 : Int32) : JP (z_tryDraw p0 p1 u).2.1 := by
  have hI := hR.inv
  unfold z_tryDraw
  by_cases ht : tDraw u.1 p0 p1 = 0
  · rw [if_pos ht]
    obtain ⟨hF, hw, hy⟩ := tDraw0 ht
    obtain ⟨r, hr, rfl⟩ := (rng_ix hI.recs (by decide)).mp hF
    have hr : r < mr u.1 := hr
    have hr12 : r < 12 := Nat.lt_of_lt_of_le hr hI.mr12
    have hrt : (nI r).toNatClampNeg = r := rs_tn (by omega)
    rw [hrt] at hy ⊢
    have hle := (whyD0 hy).2
    exact h.sv (JI.draw hI h.1 hr (back_r hI hr ⟨hw.1, hle⟩).2.2 (draw4 hy))
  · rw [if_neg ht]; exact h
theorem P_tryMove {mc : Mm} (hR : RelN k mc u) (h : JP u) (p0 : Int32) (p1 : Int32) : JP (z_tryMove p0 p1 u).2.1 := by
  have hI := hR.inv
  unfold z_tryMove
  by_cases ht : tMove u.1 p0 p1 = 0
  · rw [if_pos ht]
    obtain ⟨hF, hc, hy⟩ := tMove0 ht
    obtain ⟨c, hc4, rfl⟩ := (rng_lit 4 (by decide) hc).ex
    exact h.sv (JI.move hI h.1 hF (by omega) hy)
  · rw [if_neg ht]; exact h
theorem P_trySplit {mc : Mm} (hR : RelN k mc u) (h : JP u) (p0 : Int32) (p1 : Int32) : JP (z_trySplit p0 p1 u).2.1 := by
  have hI := hR.inv
  unfold z_trySplit
  by_cases ht : tSplit u.1 p0 p1 = 0
  · rw [if_pos ht]
    obtain ⟨hF, hw, hy⟩ := tSplit0 ht
    exact h.sv (JI.split hI h.1 hF (spl_r (hI.ent _ hF).2.1 hw).1 (lt16 hI.opn hy.2.1))
  · rw [if_neg ht]; exact h
theorem P_tryMerge {mc : Mm} (hR : RelN k mc u) (h : JP u) (p0 : Int32) (p1 : Int32) : JP (z_tryMerge p0 p1 u).2.1 := by
  have hI := hR.inv
  unfold z_tryMerge
  by_cases ht : tMerge u.1 p0 p1 = 0
  · rw [if_pos ht]
    obtain ⟨⟨hF, hG⟩, hpq, hy⟩ := tMerge0 ht
    exact h.sv (JI.merge hI h.1 hF hG (fun z => hpq (by rw [← fiE_num hF, ← fiE_num hG, z])) hy.1 hy.2.1)
  · rw [if_neg ht]; exact h
theorem P_tryWeigh {mc : Mm} (hR : RelN k mc u) (h : JP u) (p0 : Int32) (p1 : Int32) : JP (z_tryWeigh p0 p1 u).2.1 := by
  have hI := hR.inv
  unfold z_tryWeigh
  by_cases ht : tWeigh u.1 p0 p1 = 0
  · rw [if_pos ht]
    obtain ⟨hF, hw, hy⟩ := tWeigh0 ht
    exact h.sv (JI.weigh hI h.1 hF (rng_le (hI.ent _ hF).2.1 (by decide) hw.1 hw.2))
  · rw [if_neg ht]; exact h
theorem P_tryLock {mc : Mm} (hR : RelN k mc u) (h : JP u) (p0 : Int32) : JP (z_tryLock p0 u).2.1 := by
  have hI := hR.inv
  unfold z_tryLock
  by_cases ht : tLock u.1 p0 = 0
  · rw [if_pos ht]
    obtain ⟨hc, hy⟩ := tLock0 ht
    obtain ⟨c, hc4, rfl⟩ := (rng_lit 4 (by decide) hc).ex
    have hct : (nI c).toNatClampNeg = c := rs_tn (by omega)
    rw [hct]
    exact h.sv (h.1.lock hI.mr12 (by omega))
  · rw [if_neg ht]; exact h
theorem P_tryOpen {mc : Mm} (hR : RelN k mc u) (h : JP u) (p0 : Int32) : JP (z_tryOpen p0 u).2.1 := by
  have hI := hR.inv
  unfold z_tryOpen
  by_cases ht : tOpen u.1 p0 = 0
  · rw [if_pos ht]
    obtain ⟨hc, hy⟩ := tOpen0 ht
    obtain ⟨c, hc4, rfl⟩ := (rng_lit 4 (by decide) hc).ex
    have hct : (nI c).toNatClampNeg = c := rs_tn (by omega)
    rw [hct]
    exact h.sv (h.1.unseal hI.mr12 (by omega))
  · rw [if_neg ht]; exact h
theorem P_tryBreak {mc : Mm} (hR : RelN k mc u) (h : JP u) (p0 : Int32) : JP (z_tryBreak p0 u).2.1 := by
  have hI := hR.inv
  unfold z_tryBreak
  by_cases ht : tBreak u.1 p0 = 0
  · rw [if_pos ht]
    obtain ⟨hc, hy⟩ := tBreak0 ht
    obtain ⟨c, hc4, rfl⟩ := (rng_lit 4 (by decide) hc).ex
    have hct : (nI c).toNatClampNeg = c := rs_tn (by omega)
    rw [hct]
    exact h.sv (h.1.up1 hI.mr12 (Or.inr ⟨by omega, by omega⟩) _)
  · rw [if_neg ht]; exact h
theorem P_tryPay {mc : Mm} (hR : RelN k mc u) (h : JP u) (p0 : Int32) : JP (z_tryPay p0 u).2.1 := by
  have hI := hR.inv
  unfold z_tryPay
  by_cases ht : tPay u.1 p0 = 0
  · rw [if_pos ht]
    exact h.sv (h.1.pay hI.mr12 p0 (tPay0 ht).1.1)
  · rw [if_neg ht]; exact h
theorem P_trySetBond {mc : Mm} (hR : RelN k mc u) (h : JP u) (p0 : Int32) : JP (z_trySetBond p0 u).2.1 := by
  have hI := hR.inv
  unfold z_trySetBond
  by_cases ht : tBond u.1 p0 = 0
  · rw [if_pos ht]
    exact h.sv (h.1.up1 hI.mr12 (Or.inl rfl) _)
  · rw [if_neg ht]; exact h
theorem P_trySetValue {mc : Mm} (hR : RelN k mc u) (h : JP u) (p0 : Int32) (p1 : Int32) : JP (z_trySetValue p0 p1 u).2.1 := by
  have hI := hR.inv
  unfold z_trySetValue
  by_cases ht : tValue p0 p1 = 0
  · rw [if_pos ht]
    have hk : 0 ≤ p0 ∧ p0 ≤ 5 := by
      unfold tValue at ht
      by_cases z : (0 ≤ p0 ∧ p0 ≤ 5) ∧ (0 ≤ p1 ∧ p1 ≤ 60)
      · exact z.1
      · rw [if_neg z] at ht; exact absurd ht (by decide)
    obtain ⟨n, hn5, rfl⟩ := (rng_lit 5 (by decide) hk).ex
    have hnt : (nI n).toNatClampNeg = n := rs_tn (by omega)
    rw [hnt]
    exact h.sv (h.1.up1 hI.mr12 (Or.inr ⟨by omega, by omega⟩) _)
  · rw [if_neg ht]; exact h
theorem P_trySetWeight {mc : Mm} (hR : RelN k mc u) (h : JP u) (p0 : Int32) (p1 : Int32) : JP (z_trySetWeight p0 p1 u).2.1 := by
  have hI := hR.inv
  unfold z_trySetWeight
  by_cases ht : tWeight p0 p1 = 0
  · rw [if_pos ht]
    have hk : 0 ≤ p0 ∧ p0 ≤ 5 := by
      unfold tWeight at ht
      by_cases z : (0 ≤ p0 ∧ p0 ≤ 5) ∧ (0 ≤ p1 ∧ p1 ≤ 80)
      · exact z.1
      · rw [if_neg z] at ht; exact absurd ht (by decide)
    obtain ⟨n, hn5, rfl⟩ := (rng_lit 5 (by decide) hk).ex
    have hnt : (nI n).toNatClampNeg = n := rs_tn (by omega)
    rw [hnt]
    exact h.sv (h.1.up1 hI.mr12 (Or.inr ⟨by omega, by omega⟩) _)
  · rw [if_neg ht]; exact h
theorem P_tryPass {mc : Mm} (hR : RelN k mc u) (h : JP u) (p0 : Int32) : JP (z_tryPass p0 u).2.1 := by
  have hI := hR.inv
  unfold z_tryPass
  by_cases ht : tPass u.1 p0 = 0
  · rw [if_pos ht]
    exact h.sv (h.1.pass hI.mr12 p0)
  · rw [if_neg ht]; exact h
theorem P_tryUndo {mc : Mm} (hR : RelN k mc u) (h : JP u) : JP (z_tryUndo u).2.1 := by
  have hI := hR.inv
  unfold z_tryUndo
  by_cases ht : tUndo u = 0
  · rw [if_pos ht]
    exact h.un (tUndo0 ht)
  · rw [if_neg ht]; exact h
theorem P_tryKeep {mc : Mm} (hR : RelN k mc u) (h : JP u) (p0 : Int32) : JP (z_tryKeep p0 u).2.1 := by
  have hI := hR.inv
  unfold z_tryKeep
  by_cases ht : tSlot p0 = 0
  · rw [if_pos ht]
    exact h.kp _
  · rw [if_neg ht]; exact h
theorem P_tryBack {mc : Mm} (hR : RelN k mc u) (h : JP u) (p0 : Int32) : JP (z_tryBack p0 u).2.1 := by
  have hI := hR.inv
  unfold z_tryBack
  by_cases ht : tBack u p0 = 0
  · rw [if_pos ht]
    exact h.bk ht
  · rw [if_neg ht]; exact h
end JPS
