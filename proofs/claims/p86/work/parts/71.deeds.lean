section DEED
variable {mc mm m1 m' : Mm} {a s a' s' : Nat} {g : Nat → Int32} {K : Mm → Mm → Prop}
theorem xq {t k : Nat} {X : Nat → Mm → Prop} (hx : ¬ t = 0 → X t mc) (ht : t = k) (hk : ¬ k = 0) : X k mc := by
  subst ht
  exact hx hk
def chm (f : Nat → Int32) (e : Nat) : Nat := (en f e 4).toNatClampNeg
def tEnter (f : Nat → Int32) (k w v c : Int32) : Nat := if (0 ≤ k ∧ k ≤ 5) ∧ (1 ≤ w ∧ w ≤ 999) ∧ (1 ≤ v ∧ v ≤ 9999) ∧ (0 ≤ c ∧ c ≤ 4) then (if whyE f k.toNatClampNeg w v c = 0 then 0 else 3) else 2
def tOut (f : Nat → Int32) (p w : Int32) : Nat := if fiE f p < mo f then (if 1 ≤ w ∧ w ≤ 999 then (if whyW f (fiE f p) w = 0 then 0 else 3) else 2) else 1
def tSend (f : Nat → Int32) (p w : Int32) : Nat := if fiE f p < mo f then (if 1 ≤ w ∧ w ≤ 999 then (if whyX f (fiE f p) w = 0 then 0 else 3) else 2) else 1
def tDraw (f : Nat → Int32) (p w : Int32) : Nat := if 0 ≤ p ∧ p ≤ f 68 - 1 then (if 1 ≤ w ∧ w ≤ 999 then (if whyD f p.toNatClampNeg w = 0 then 0 else 3) else 2) else 1
def tMove (f : Nat → Int32) (p c : Int32) : Nat := if fiE f p < mo f then (if 0 ≤ c ∧ c ≤ 4 then (if whyM f (fiE f p) c = 0 then 0 else 3) else 1) else 1
def tSplit (f : Nat → Int32) (p w : Int32) : Nat := if fiE f p < mo f then (if 1 ≤ w ∧ w ≤ en f (fiE f p) 2 - 1 then (if f (10 + chm f (fiE f p)) ≤ 0 ∧ ¬ 16 ≤ f 117 ∧ ¬ 60 ≤ f 1 then 0 else 3) else 2) else 1
def tMerge (f : Nat → Int32) (p q : Int32) : Nat := if fiE f p < mo f ∧ fiE f q < mo f then (if p = q then 2 else (if en f (fiE f p) 1 = en f (fiE f q) 1 ∧ en f (fiE f p) 4 = en f (fiE f q) 4 ∧ f (10 + chm f (fiE f p)) ≤ 0 ∧ ¬ en f (fiE f p) 7 = 0 ∧ ¬ en f (fiE f q) 7 = 0 ∧ ¬ 999 < en f (fiE f p) 2 + en f (fiE f q) 2 then 0 else 3)) else 1
def tWeigh (f : Nat → Int32) (p w : Int32) : Nat := if fiE f p < mo f then (if 0 ≤ w ∧ w ≤ en f (fiE f p) 2 then (if f (10 + chm f (fiE f p)) ≤ 0 then 0 else 3) else 2) else 1
def tLock (f : Nat → Int32) (p : Int32) : Nat := if 0 ≤ p ∧ p ≤ 4 then (if f (10 + p.toNatClampNeg) ≤ 0 then 0 else 3) else 1
def tOpen (f : Nat → Int32) (p : Int32) : Nat := if 0 ≤ p ∧ p ≤ 4 then (if f (10 + p.toNatClampNeg) ≤ 0 then 3 else 0) else 1
def tBreak (f : Nat → Int32) (p : Int32) : Nat := if 0 ≤ p ∧ p ≤ 4 then (if ¬ f (10 + p.toNatClampNeg) ≤ 0 ∧ f (15 + p.toNatClampNeg) = 0 then 0 else 3) else 1
def tPay (f : Nat → Int32) (x : Int32) : Nat := if 1 ≤ x ∧ x ≤ 9999 then (if afterF f x ≤ 99999 then 0 else 3) else 2
def tBond (f : Nat → Int32) (x : Int32) : Nat := if 0 ≤ x ∧ x ≤ 50000 then (if stakeF f ≤ x then 0 else 3) else 2
def tValue (k x : Int32) : Nat := if (0 ≤ k ∧ k ≤ 5) ∧ (0 ≤ x ∧ x ≤ 60) then 0 else 2
def tWeight (k x : Int32) : Nat := if (0 ≤ k ∧ k ≤ 5) ∧ (0 ≤ x ∧ x ≤ 80) then 0 else 2
def tPass (f : Nat → Int32) (x : Int32) : Nat := if 1 ≤ x ∧ x ≤ 100 then (if f 0 + x ≤ 9999 then 0 else 3) else 2
theorem n_enter (h : Hy a s mc mm K) (k w v c : Int32) (Q : Int32 → Mm → Prop) (X : Nat → Mm → Prop) (hq : tEnter (mm.1 32 1) k w v c = 0 → ∀ m1, K m1 (st (sv0 mm) (enterF (mm.1 32 1) k.toNatClampNeg w v c)) → Q ((mm.1 32 1) 1) m1) (hx : ¬ tEnter (mm.1 32 1) k w v c = 0 → X (tEnter (mm.1 32 1) k w v c) mc) : w_X9_enter k w v c mc Q X := by
  have hR := h.1.rs
  have hI := h.1.inv
  unfold w_X9_enter
  by_cases hg : gds k w v c
  · obtain ⟨g1, g2, g3, g4⟩ := id hg
    have hg' : (0 ≤ k ∧ k ≤ 5) ∧ (1 ≤ w ∧ w ≤ 999) ∧ (1 ≤ v ∧ v ≤ 9999) ∧ (0 ≤ c ∧ c ≤ 4) := hg
    obtain ⟨k, hk, rfl⟩ := (rng_lit 5 (by decide) g1).ex
    obtain ⟨c, hc, rfl⟩ := (rng_lit 4 (by decide) g4).ex
    have hk6 : k < 6 := by omega
    have hc5 : c < 5 := by omega
    have hkt : (nI k).toNatClampNeg = k := rs_tn (by omega)
    refine d_bringIn hR hI h.sv (fun m1 hm => (h.hS m1 hm).1) k c w v hk6 hc5 hg (fun hn => ?_) (fun hy m1 m' hm hFr hR' => ?_)
    · rw [c_answer3]
      exact xq hx (by unfold tEnter; rw [if_pos hg', hkt, if_neg hn]) (by decide)
    · rw [c_answer (hI.made.okA (by decide))]
      have hh := whyE0 hy
      have hmo := lt16 hI.opn hh.2.2.2.1
      refine hq (by unfold tEnter; rw [if_pos hg', hkt, if_pos hy]) m' ?_
      rw [hkt]
      exact (h.end hm hFr hR' (I_enter hI hk6 hc5 g2 g3 hmo hh.2.2.2.2.1) bd0 bd1 0).2.2
  · unfold w_X1_bringIn
    have hg' : ¬ ((0 ≤ k ∧ k ≤ 5) ∧ (1 ≤ w ∧ w ≤ 999) ∧ (1 ≤ v ∧ v ≤ 9999) ∧ (0 ≤ c ∧ c ≤ 4)) := hg
    simp only [c_goods, hg, false_and, false_or, z10, not_true_eq_false, not_false_eq_true, false_implies, true_implies, true_and, and_true, forall_eq, if_true, if_false, reduceIte]
    rw [c_answer2]
    exact xq hx (by unfold tEnter; rw [if_neg hg']) (by decide)
theorem n_withdraw (h : Hy a s mc mm K) (p w : Int32) (Q : Int32 → Mm → Prop) (X : Nat → Mm → Prop) (hq : tOut (mm.1 32 1) p w = 0 → ∀ m1, K m1 (st (sv0 mm) (withdrawF (mm.1 32 1) (fiE (mm.1 32 1) p) w)) → Q (dutyPF (mm.1 32 1) (fiE (mm.1 32 1) p) w) m1) (hx : ¬ tOut (mm.1 32 1) p w = 0 → X (tOut (mm.1 32 1) p w) mc) : w_X9_withdraw p w mc Q X := by
  have hR := h.1.rs
  have hI := h.1.inv
  unfold w_X9_withdraw
  by_cases hF : fiE (mm.1 32 1) p < mo (mm.1 32 1)
  · have h6 : fiE (mm.1 32 1) p < 16 := Nat.lt_of_lt_of_le hF hI.mo16
    by_cases hw : 1 ≤ w ∧ w ≤ 999
    · refine d_withdraw hR hI h.sv h.hS p w hF hw (fun hn => ?_) (fun hy m1 m' hm hFr hR' => ?_)
      · rw [c_answer3]
        exact xq hx (by unfold tOut; rw [if_pos hF, if_pos hw, if_neg hn]) (by decide)
      · have hle : w ≤ en (mm.1 32 1) (fiE (mm.1 32 1) p) 2 := (whyL0 (whyW0 hy).1).2.2
        have hwr : rng w (en (mm.1 32 1) (fiE (mm.1 32 1) p) 2).toNatClampNeg := rng_le (hI.ent _ hF).2.1 (by decide) (one_le hw.1) hle
        rw [c_answer ((dutyP_r hI hF hwr).okA (by decide))]
        exact hq (by unfold tOut; rw [if_pos hF, if_pos hw, if_pos hy]) m' (h.end hm hFr hR' (I_withdraw hI hF hwr (whyW0 hy).2) bd0 bd1 0).2.2
    · unfold w_X1_takeIntoCountry
      simp only [c_findEntry hR hI i1, hF, hR.ne0 h6, isWithin_iff, hw, z10, not_true_eq_false, not_false_eq_true, false_implies, true_implies, true_and, and_true, forall_eq, if_true, if_false, reduceIte]
      rw [c_answer2]
      exact xq hx (by unfold tOut; rw [if_pos hF, if_neg hw]) (by decide)
  · unfold w_X1_takeIntoCountry
    simp only [c_findEntry hR hI i1, hF, z10, not_true_eq_false, not_false_eq_true, false_implies, true_implies, true_and, and_true, forall_eq, if_true, if_false, reduceIte]
    rw [c_answer1]
    exact xq hx (by unfold tOut; rw [if_neg hF]) (by decide)
theorem n_sendAbroad (h : Hy a s mc mm K) (p w : Int32) (Q : Int32 → Mm → Prop) (X : Nat → Mm → Prop) (hq : tSend (mm.1 32 1) p w = 0 → ∀ m1, K m1 (st (sv0 mm) (sendF (mm.1 32 1) (fiE (mm.1 32 1) p) w)) → Q (en (mm.1 32 1) (fiE (mm.1 32 1) p) 2 - w) m1) (hx : ¬ tSend (mm.1 32 1) p w = 0 → X (tSend (mm.1 32 1) p w) mc) : w_X9_sendAbroad p w mc Q X := by
  have hR := h.1.rs
  have hI := h.1.inv
  unfold w_X9_sendAbroad
  by_cases hF : fiE (mm.1 32 1) p < mo (mm.1 32 1)
  · have h6 : fiE (mm.1 32 1) p < 16 := Nat.lt_of_lt_of_le hF hI.mo16
    by_cases hw : 1 ≤ w ∧ w ≤ 999
    · refine d_send hR hI h.sv h.hS p w hF hw (fun hn => ?_) (fun hy m1 m' hm hFr hR' => ?_)
      · rw [c_answer3]
        exact xq hx (by unfold tSend; rw [if_pos hF, if_pos hw, if_neg hn]) (by decide)
      · have hle : w ≤ en (mm.1 32 1) (fiE (mm.1 32 1) p) 2 := (whyL0 (whyX0 hy).1).2.2
        have hwr : rng w (en (mm.1 32 1) (fiE (mm.1 32 1) p) 2).toNatClampNeg := rng_le (hI.ent _ hF).2.1 (by decide) (one_le hw.1) hle
        rw [c_answer ((sub_r (hI.ent _ hF).2.1 (by decide) hwr).1.okA (by decide))]
        exact hq (by unfold tSend; rw [if_pos hF, if_pos hw, if_pos hy]) m' (h.end hm hFr hR' (I_send hI hF hwr) bd0 bd1 0).2.2
    · unfold w_X1_takeAbroad
      simp only [c_findEntry hR hI i1, hF, hR.ne0 h6, isWithin_iff, hw, z10, not_true_eq_false, not_false_eq_true, false_implies, true_implies, true_and, and_true, forall_eq, if_true, if_false, reduceIte]
      rw [c_answer2]
      exact xq hx (by unfold tSend; rw [if_pos hF, if_neg hw]) (by decide)
  · unfold w_X1_takeAbroad
    simp only [c_findEntry hR hI i1, hF, z10, not_true_eq_false, not_false_eq_true, false_implies, true_implies, true_and, and_true, forall_eq, if_true, if_false, reduceIte]
    rw [c_answer1]
    exact xq hx (by unfold tSend; rw [if_neg hF]) (by decide)
theorem n_drawBack (h : Hy a s mc mm K) (p w : Int32) (Q : Int32 → Mm → Prop) (X : Nat → Mm → Prop) (hq : tDraw (mm.1 32 1) p w = 0 → ∀ m1, K m1 (st (sv0 mm) (drawF (mm.1 32 1) p.toNatClampNeg w)) → Q (backF (mm.1 32 1) p.toNatClampNeg w) m1) (hx : ¬ tDraw (mm.1 32 1) p w = 0 → X (tDraw (mm.1 32 1) p w) mc) : w_X9_drawBack p w mc Q X := by
  have hR := h.1.rs
  have hI := h.1.inv
  unfold w_X9_drawBack
  by_cases hF : 0 ≤ p ∧ p ≤ mm.1 32 1 68 - 1
  · obtain ⟨r, hr, rfl⟩ := (rng_ix hI.recs (by decide)).mp hF
    have hr : r < mr (mm.1 32 1) := hr
    have h12 : r < 12 := Nat.lt_of_lt_of_le hr hI.mr12
    have hrt : (nI r).toNatClampNeg = r := rs_tn (by omega)
    by_cases hw : 1 ≤ w ∧ w ≤ 999
    · refine d_payBack hR hI h.sv h.hS r w hr hw (fun hn => ?_) (fun hy m1 m' hm hFr hR' => ?_)
      · rw [c_answer3]
        exact xq hx (by unfold tDraw; rw [if_pos hF, if_pos hw, hrt, if_neg hn]) (by decide)
      · have hle := (whyD0 hy).2
        rw [c_answer ((back_r hI hr ⟨hw.1, hle⟩).2.1.okA (by decide))]
        have hq := hq (by unfold tDraw; rw [if_pos hF, if_pos hw, hrt, if_pos hy]) m'
        rw [hrt] at hq
        exact hq (h.end hm hFr hR' (I_draw hI hr ⟨hw.1, hle⟩ h.2.2.1.1) ⟨Nat.le_add_right _ _, Nat.le_refl _⟩ bd1 0).2.2
    · unfold w_X1_payBack
      have hnr : ¬ mc.2 8 1 (nI r).toNatClampNeg = 0 := by rw [rs_tn (by omega)]; exact hR.nr0 h12
      simp only [c_findReceipt hR hI, hF, hnr, isWithin_iff, hw, z10, not_true_eq_false, not_false_eq_true, false_implies, true_implies, true_and, and_true, forall_eq, if_true, if_false, reduceIte]
      rw [c_answer2]
      exact xq hx (by unfold tDraw; rw [if_pos hF, if_neg hw]) (by decide)
  · unfold w_X1_payBack
    simp only [c_findReceipt hR hI, hF, z10, not_true_eq_false, not_false_eq_true, false_implies, true_implies, true_and, and_true, forall_eq, if_true, if_false, reduceIte]
    rw [c_answer1]
    exact xq hx (by unfold tDraw; rw [if_neg hF]) (by decide)
theorem n_move (h : Hy a s mc mm K) (p c : Int32) (Q : Int32 → Mm → Prop) (X : Nat → Mm → Prop) (hq : tMove (mm.1 32 1) p c = 0 → ∀ m1, K m1 (st (sv0 mm) (moveF (mm.1 32 1) (fiE (mm.1 32 1) p) c)) → Q (roomF (moveF (mm.1 32 1) (fiE (mm.1 32 1) p) c) c) m1) (hx : ¬ tMove (mm.1 32 1) p c = 0 → X (tMove (mm.1 32 1) p c) mc) : w_X9_move p c mc Q X := by
  have hR := h.1.rs
  have hI := h.1.inv
  unfold w_X9_move
  by_cases hF : fiE (mm.1 32 1) p < mo (mm.1 32 1)
  · have h6 : fiE (mm.1 32 1) p < 16 := Nat.lt_of_lt_of_le hF hI.mo16
    by_cases hc : 0 ≤ c ∧ c ≤ 4
    · have hc' := hc
      obtain ⟨c, hc4, rfl⟩ := (rng_lit 4 (by decide) hc).ex
      have hc5 : c < 5 := by omega
      refine d_move hR hI h.sv h.hS p c hF hc5 (fun hn => ?_) (fun hy m1 m' hm hFr hR' => ?_)
      · rw [c_answer3]
        exact xq hx (by unfold tMove; rw [if_pos hF, if_pos hc', if_neg hn]) (by decide)
      · rw [c_answer ((move_r hI hF hy).okA (by decide))]
        exact hq (by unfold tMove; rw [if_pos hF, if_pos hc', if_pos hy]) m' (h.end hm hFr hR' (I_move hI hc5) bd0 bd1 0).2.2
    · unfold w_X1_carryOver
      simp only [c_findEntry hR hI i1, hF, hR.ne0 h6, isWithin_iff, hc, z10, not_true_eq_false, not_false_eq_true, false_implies, true_implies, true_and, and_true, forall_eq, if_true, if_false, reduceIte]
      rw [c_answer1]
      exact xq hx (by unfold tMove; rw [if_pos hF, if_neg hc]) (by decide)
  · unfold w_X1_carryOver
    simp only [c_findEntry hR hI i1, hF, z10, not_true_eq_false, not_false_eq_true, false_implies, true_implies, true_and, and_true, forall_eq, if_true, if_false, reduceIte]
    rw [c_answer1]
    exact xq hx (by unfold tMove; rw [if_neg hF]) (by decide)
theorem n_split (h : Hy a s mc mm K) (p w : Int32) (Q : Int32 → Mm → Prop) (X : Nat → Mm → Prop) (hq : tSplit (mm.1 32 1) p w = 0 → ∀ m1, K m1 (st (sv0 mm) (splitF (mm.1 32 1) (fiE (mm.1 32 1) p) w)) → Q ((mm.1 32 1) 1) m1) (hx : ¬ tSplit (mm.1 32 1) p w = 0 → X (tSplit (mm.1 32 1) p w) mc) : w_X9_split p w mc Q X := by
  have hR := h.1.rs
  have hI := h.1.inv
  unfold w_X9_split
  by_cases hF : fiE (mm.1 32 1) p < mo (mm.1 32 1)
  · have h6 : fiE (mm.1 32 1) p < 16 := Nat.lt_of_lt_of_le hF hI.mo16
    have hE := hI.ent _ hF
    by_cases hw : 1 ≤ w ∧ w ≤ en (mm.1 32 1) (fiE (mm.1 32 1) p) 2 - 1
    · have hwr := spl_r hE.2.1 hw
      obtain ⟨w1, w2⟩ := (spl_iff (w := w) hE.2.1).mp hw
      refine d_split hR hI h.sv h.hS p w hF hw hwr.1 hwr.2 (fun hn => ?_) (fun hy m1 m' hm hFr hR' => ?_)
      · rw [c_answer3]
        exact xq hx (by unfold tSplit chm; rw [if_pos hF, if_pos hw, if_neg hn]) (by decide)
      · rw [c_answer (hI.made.okA (by decide))]
        have hmo := lt16 hI.opn hy.2.1
        have hw1 := (rngw 998 (by decide) w1.1 w1.2).2
        exact hq (by unfold tSplit chm; rw [if_pos hF, if_pos hw, if_pos hy]) m' (h.end hm hFr hR' (I_split hI hF hwr.1 hw1 hmo hy.2.2) bd0 bd1 0).2.2
    · unfold w_X1_partOff
      simp only [c_findEntry hR hI i1, hF, hR.ne0 h6, hR.oke i1 h6, isWithin_iff, hR.e2 hF, hw, z10, not_true_eq_false, not_false_eq_true, false_implies, true_implies, true_and, and_true, forall_eq, if_true, if_false, reduceIte]
      rw [c_answer2]
      exact xq hx (by unfold tSplit; rw [if_pos hF, if_neg hw]) (by decide)
  · unfold w_X1_partOff
    simp only [c_findEntry hR hI i1, hF, z10, not_true_eq_false, not_false_eq_true, false_implies, true_implies, true_and, and_true, forall_eq, if_true, if_false, reduceIte]
    rw [c_answer1]
    exact xq hx (by unfold tSplit; rw [if_neg hF]) (by decide)
theorem n_merge (h : Hy a s mc mm K) (p q : Int32) (Q : Int32 → Mm → Prop) (X : Nat → Mm → Prop) (hq : tMerge (mm.1 32 1) p q = 0 → ∀ m1, K m1 (st (sv0 mm) (mergeF (mm.1 32 1) (fiE (mm.1 32 1) p) (fiE (mm.1 32 1) q))) → Q (en (mm.1 32 1) (fiE (mm.1 32 1) p) 2 + en (mm.1 32 1) (fiE (mm.1 32 1) q) 2) m1) (hx : ¬ tMerge (mm.1 32 1) p q = 0 → X (tMerge (mm.1 32 1) p q) mc) : w_X9_merge p q mc Q X := by
  have hR := h.1.rs
  have hI := h.1.inv
  unfold w_X9_merge
  by_cases hF : fiE (mm.1 32 1) p < mo (mm.1 32 1)
  · have h6 : fiE (mm.1 32 1) p < 16 := Nat.lt_of_lt_of_le hF hI.mo16
    by_cases hG : fiE (mm.1 32 1) q < mo (mm.1 32 1)
    · have h7 : fiE (mm.1 32 1) q < 16 := Nat.lt_of_lt_of_le hG hI.mo16
      by_cases hpq : p = q
      · subst hpq
        unfold w_X1_join
        simp only [c_findEntry hR hI i1, hF, hR.ne0 h6, z10, not_true_eq_false, not_false_eq_true, false_implies, true_implies, true_and, and_true, forall_eq, if_true, if_false, reduceIte]
        rw [c_answer2]
        exact xq hx (by unfold tMerge; rw [if_pos ⟨hF, hF⟩, if_pos rfl]) (by decide)
      · have hxy : ¬ fiE (mm.1 32 1) p = fiE (mm.1 32 1) q := fun z => hpq (by rw [← fiE_num hF, ← fiE_num hG, z])
        refine d_merge hR hI h.sv h.hS p q hF hG hpq hxy (fun hn => ?_) (fun hy m1 m' hm hFr hR' => ?_)
        · rw [c_answer3]
          exact xq hx (by unfold tMerge chm; unfold canJ at hn; rw [if_pos ⟨hF, hG⟩, if_neg hpq, if_neg hn]) (by decide)
        · have s2 := add_r (hI.ent _ hF).2.1 (hI.ent _ hG).2.1 (by decide)
          rw [c_answer (s2.1.okA (by decide))]
          have hy' := hy
          unfold canJ at hy'
          exact hq (by unfold tMerge chm; rw [if_pos ⟨hF, hG⟩, if_neg hpq, if_pos hy']) m' (h.end hm hFr hR' (I_merge hI hF hG hxy hy) bd0 bd1 0).2.2
    · unfold w_X1_join
      simp only [c_findEntry hR hI i1, hF, hG, hR.ne0 h6, z10, not_true_eq_false, not_false_eq_true, false_implies, true_implies, true_and, and_true, forall_eq, if_true, if_false, reduceIte]
      rw [c_answer1]
      exact xq hx (by unfold tMerge; rw [if_neg (fun z => hG z.2)]) (by decide)
  · unfold w_X1_join
    by_cases hG : fiE (mm.1 32 1) q < mo (mm.1 32 1)
    · simp only [c_findEntry hR hI i1, hF, hG, z10, not_true_eq_false, not_false_eq_true, false_implies, true_implies, true_and, and_true, forall_eq, if_true, if_false, reduceIte]
      rw [c_answer1]
      exact xq hx (by unfold tMerge; rw [if_neg (fun z => hF z.1)]) (by decide)
    · simp only [c_findEntry hR hI i1, hF, hG, z10, not_true_eq_false, not_false_eq_true, false_implies, true_implies, true_and, and_true, forall_eq, if_true, if_false, reduceIte]
      rw [c_answer1]
      exact xq hx (by unfold tMerge; rw [if_neg (fun z => hF z.1)]) (by decide)
theorem n_weigh (h : Hy a s mc mm K) (p w : Int32) (Q : Int32 → Mm → Prop) (X : Nat → Mm → Prop) (hq : tWeigh (mm.1 32 1) p w = 0 → ∀ m1, K m1 (st (sv0 mm) (weighF (mm.1 32 1) (fiE (mm.1 32 1) p) w)) → Q (chargeF (mm.1 32 1) (fiE (mm.1 32 1) p) (lossF (mm.1 32 1) (fiE (mm.1 32 1) p) w)) m1) (hx : ¬ tWeigh (mm.1 32 1) p w = 0 → X (tWeigh (mm.1 32 1) p w) mc) : w_X9_weigh p w mc Q X := by
  have hR := h.1.rs
  have hI := h.1.inv
  unfold w_X9_weigh
  by_cases hF : fiE (mm.1 32 1) p < mo (mm.1 32 1)
  · have h6 : fiE (mm.1 32 1) p < 16 := Nat.lt_of_lt_of_le hF hI.mo16
    have hE := hI.ent _ hF
    by_cases hw : 0 ≤ w ∧ w ≤ en (mm.1 32 1) (fiE (mm.1 32 1) p) 2
    · have hwr : rng w (en (mm.1 32 1) (fiE (mm.1 32 1) p) 2).toNatClampNeg := rng_le hE.2.1 (by decide) hw.1 hw.2
      refine d_weigh hR hI h.sv h.hS p w hF hw (fun hn => ?_) (fun hy m1 m' hm hFr hR' => ?_)
      · rw [c_answer3]
        exact xq hx (by unfold tWeigh chm; rw [if_pos hF, if_pos hw, if_neg hn]) (by decide)
      · have hgo := sub_r hE.2.1 (by decide) hwr
        have hgw : rng (en (mm.1 32 1) (fiE (mm.1 32 1) p) 2 - w) (en (mm.1 32 1) (fiE (mm.1 32 1) p) 2).toNatClampNeg := ⟨hgo.1.1, by rw [hgo.2]; omega⟩
        have hL := loss_rng hI hF hwr
        have hC := charge_r hI hF hgw (L := lossF (mm.1 32 1) (fiE (mm.1 32 1) p) w) (by rw [hgo.2]; exact hL)
        rw [c_answer (hC.1.okA (by decide))]
        exact hq (by unfold tWeigh chm; rw [if_pos hF, if_pos hw, if_pos hy]) m' (h.end hm hFr hR' (I_weigh hI hF hwr) bd0 bd1 0).2.2
    · unfold w_X1_putOnScales
      simp only [c_findEntry hR hI i1, hF, hR.ne0 h6, hR.oke i1 h6, isWithin_iff, hR.e2 hF, hw, z10, not_true_eq_false, not_false_eq_true, false_implies, true_implies, true_and, and_true, forall_eq, if_true, if_false, reduceIte]
      rw [c_answer2]
      exact xq hx (by unfold tWeigh; rw [if_pos hF, if_neg hw]) (by decide)
  · unfold w_X1_putOnScales
    simp only [c_findEntry hR hI i1, hF, z10, not_true_eq_false, not_false_eq_true, false_implies, true_implies, true_and, and_true, forall_eq, if_true, if_false, reduceIte]
    rw [c_answer1]
    exact xq hx (by unfold tWeigh; rw [if_neg hF]) (by decide)
theorem n_lock (h : Hy a s mc mm K) (p : Int32) (Q : Int32 → Mm → Prop) (X : Nat → Mm → Prop) (hq : tLock (mm.1 32 1) p = 0 → ∀ m1, K m1 (st (sv0 mm) (lockF (mm.1 32 1) p.toNatClampNeg)) → Q ((mm.1 32 1) 2 + 1) m1) (hx : ¬ tLock (mm.1 32 1) p = 0 → X (tLock (mm.1 32 1) p) mc) : w_X9_lock p mc Q X := by
  have hR := h.1.rs
  have hI := h.1.inv
  unfold w_X9_lock
  by_cases hc : 0 ≤ p ∧ p ≤ 4
  · have hc' := hc
    obtain ⟨c, hc4, rfl⟩ := (rng_lit 4 (by decide) hc).ex
    have hc5 : c < 5 := by omega
    have hct : (nI c).toNatClampNeg = c := rs_tn (by omega)
    refine d_lock hR hI h.sv h.hS hc5 (fun hn => ?_) (fun hy m1 m' hm hFr hR' => ?_) (seal_pos hI).1
    · rw [c_answer3]
      exact xq hx (by unfold tLock; rw [if_pos hc', hct, if_neg hn]) (by decide)
    · rw [c_answer ((seal_pos hI).2.okA (by have := h.2.2.1.2; omega))]
      have hq := hq (by unfold tLock; rw [if_pos hc', hct, if_pos hy]) m'
      rw [hct] at hq
      exact hq (h.end hm hFr hR' (I_lock hI hc5 (by have := h.2.2.1.2; omega)) bd0 ⟨by omega, by omega⟩ 0).2.2
  · unfold w_X1_putSeal
    simp only [isWithin_iff, hc, z10, not_true_eq_false, not_false_eq_true, false_implies, true_implies, true_and, and_true, forall_eq, if_true, if_false, reduceIte]
    rw [c_answer1]
    exact xq hx (by unfold tLock; rw [if_neg hc]) (by decide)
theorem n_open (h : Hy a s mc mm K) (p : Int32) (Q : Int32 → Mm → Prop) (X : Nat → Mm → Prop) (hq : tOpen (mm.1 32 1) p = 0 → ∀ m1, K m1 (st (sv0 mm) (opF (mm.1 32 1) p.toNatClampNeg).2) → Q (opF (mm.1 32 1) p.toNatClampNeg).1 m1) (hx : ¬ tOpen (mm.1 32 1) p = 0 → X (tOpen (mm.1 32 1) p) mc) : w_X9_open p mc Q X := by
  have hR := h.1.rs
  have hI := h.1.inv
  unfold w_X9_open
  by_cases hc : 0 ≤ p ∧ p ≤ 4
  · have hc' := hc
    obtain ⟨c, hc4, rfl⟩ := (rng_lit 4 (by decide) hc).ex
    have hc5 : c < 5 := by omega
    have hct : (nI c).toNatClampNeg = c := rs_tn (by omega)
    refine d_open hR hI h.sv h.hS hc5 (fun hn => ?_) (fun hy m1 m' hm hFr hR' => ?_)
    · rw [c_answer3]
      exact xq hx (by unfold tOpen; rw [if_pos hc', hct, if_pos hn]) (by decide)
    · rw [c_answer ((opF_r hI hc5).okA (by decide))]
      have hq := hq (by unfold tOpen; rw [if_pos hc', hct, if_neg hy]) m'
      rw [hct] at hq
      exact hq (h.end hm hFr hR' (I_op hI hc5) bd0 bd1 0).2.2
  · unfold w_X1_takeSealOff
    simp only [isWithin_iff, hc, z10, not_true_eq_false, not_false_eq_true, false_implies, true_implies, true_and, and_true, forall_eq, if_true, if_false, reduceIte]
    rw [c_answer1]
    exact xq hx (by unfold tOpen; rw [if_neg hc]) (by decide)
theorem n_breakSeal (h : Hy a s mc mm K) (p : Int32) (Q : Int32 → Mm → Prop) (X : Nat → Mm → Prop) (hq : tBreak (mm.1 32 1) p = 0 → ∀ m1, K m1 (st (sv0 mm) (breakF (mm.1 32 1) p.toNatClampNeg)) → Q ((mm.1 32 1) (10 + p.toNatClampNeg)) m1) (hx : ¬ tBreak (mm.1 32 1) p = 0 → X (tBreak (mm.1 32 1) p) mc) : w_X9_breakSeal p mc Q X := by
  have hR := h.1.rs
  have hI := h.1.inv
  unfold w_X9_breakSeal
  by_cases hc : 0 ≤ p ∧ p ≤ 4
  · have hc' := hc
    obtain ⟨c, hc4, rfl⟩ := (rng_lit 4 (by decide) hc).ex
    have hc5 : c < 5 := by omega
    have hct : (nI c).toNatClampNeg = c := rs_tn (by omega)
    refine d_break hR hI h.sv h.hS hc5 (fun hn => ?_) (fun hy m1 m' hm hFr hR' => ?_)
    · rw [c_answer3]
      exact xq hx (by unfold tBreak; rw [if_pos hc', hct, if_neg hn]) (by decide)
    · rw [c_answer (((hI.cham c hc5).1.mono hI.seals.2).okA (by have := hI.bnd; omega))]
      have hq := hq (by unfold tBreak; rw [if_pos hc', hct, if_pos hy]) m'
      rw [hct] at hq
      exact hq (h.end hm hFr hR' (I_break hI hc5 hy.1) bd0 bd1 0).2.2
  · unfold w_X1_damageSeal
    simp only [isWithin_iff, hc, z10, not_true_eq_false, not_false_eq_true, false_implies, true_implies, true_and, and_true, forall_eq, if_true, if_false, reduceIte]
    rw [c_answer1]
    exact xq hx (by unfold tBreak; rw [if_neg hc]) (by decide)
theorem n_deposit (h : Hy a s mc mm K) (x : Int32) (Q : Int32 → Mm → Prop) (X : Nat → Mm → Prop) (hq : tPay (mm.1 32 1) x = 0 → ∀ m1, K m1 (st (sv0 mm) (payF (mm.1 32 1) x)) → Q (afterF (mm.1 32 1) x) m1) (hx : ¬ tPay (mm.1 32 1) x = 0 → X (tPay (mm.1 32 1) x) mc) : w_X9_deposit x mc Q X := by
  have hR := h.1.rs
  have hI := h.1.inv
  unfold w_X9_deposit
  by_cases hw : 1 ≤ x ∧ x ≤ 9999
  · refine d_pay hR hI h.sv h.hS x hw (fun hn => ?_) (fun hy m1 m' hm hFr hR' => ?_)
    · rw [c_answer3]
      exact xq hx (by unfold tPay; rw [if_pos hw, if_neg hn]) (by decide)
    · rw [c_answer ((pay_r hI hw).2.okA (by have := hI.bnd; omega))]
      exact hq (by unfold tPay; rw [if_pos hw, if_pos hy]) m' (h.end hm hFr hR' (I_pay hI hw hy h.2.1) bd0 bd1 0).2.2
  · unfold w_X1_payIn
    simp only [isWithin_iff, hw, z10, not_true_eq_false, not_false_eq_true, false_implies, true_implies, true_and, and_true, forall_eq, if_true, if_false, reduceIte]
    rw [c_answer2]
    exact xq hx (by unfold tPay; rw [if_neg hw]) (by decide)
theorem n_setBond (h : Hy a s mc mm K) (x : Int32) (Q : Int32 → Mm → Prop) (X : Nat → Mm → Prop) (hq : tBond (mm.1 32 1) x = 0 → ∀ m1, K m1 (st (sv0 mm) (up (mm.1 32 1) 5 x)) → Q ((mm.1 32 1) 5) m1) (hx : ¬ tBond (mm.1 32 1) x = 0 → X (tBond (mm.1 32 1) x) mc) : w_X9_setBond x mc Q X := by
  have hR := h.1.rs
  have hI := h.1.inv
  unfold w_X9_setBond
  by_cases hw : 0 ≤ x ∧ x ≤ 50000
  · refine d_bond hR hI h.sv h.hS x hw (fun hn => ?_) (fun hy m1 m' hm hFr hR' => ?_)
    · rw [c_answer3]
      exact xq hx (by unfold tBond; rw [if_pos hw, if_neg hn]) (by decide)
    · rw [c_answer (hI.bond.okA (by decide))]
      exact hq (by unfold tBond; rw [if_pos hw, if_pos hy]) m' (h.end hm hFr hR' (I_bond hI hw) bd0 bd1 0).2.2
  · unfold w_X1_changeBond
    simp only [isWithin_iff, hw, z10, not_true_eq_false, not_false_eq_true, false_implies, true_implies, true_and, and_true, forall_eq, if_true, if_false, reduceIte]
    rw [c_answer2]
    exact xq hx (by unfold tBond; rw [if_neg hw]) (by decide)
theorem n_pass (h : Hy a s mc mm K) (x : Int32) (Q : Int32 → Mm → Prop) (X : Nat → Mm → Prop) (hq : tPass (mm.1 32 1) x = 0 → ∀ m1, K m1 (st (sv0 mm) (passF (mm.1 32 1) x)) → Q (psL (mm.1 32 1) x (mo (mm.1 32 1))).1 m1) (hx : ¬ tPass (mm.1 32 1) x = 0 → X (tPass (mm.1 32 1) x) mc) : w_X9_pass x mc Q X := by
  have hR := h.1.rs
  have hI := h.1.inv
  unfold w_X9_pass
  by_cases hw : 1 ≤ x ∧ x ≤ 100
  · refine d_pass hR hI h.sv h.hS x hw (fun hn => ?_) (fun hy m1 m' hm hFr hR' => ?_)
    · rw [c_answer3]
      exact xq hx (by unfold tPass; rw [if_pos hw, if_neg hn]) (by decide)
    · rw [c_answer ((psF_r hI x).okA (by decide))]
      exact hq (by unfold tPass; rw [if_pos hw, if_pos hy]) m' (h.end hm hFr hR' (I_pass hI hw hy) bd0 bd1 0).2.2
  · unfold w_X1_letPass
    simp only [isWithin_iff, hw, z10, not_true_eq_false, not_false_eq_true, false_implies, true_implies, true_and, and_true, forall_eq, if_true, if_false, reduceIte]
    rw [c_answer2]
    exact xq hx (by unfold tPass; rw [if_neg hw]) (by decide)
theorem n_setRateByValue (h : Hy a s mc mm K) (k x : Int32) (Q : Int32 → Mm → Prop) (X : Nat → Mm → Prop) (hq : tValue k x = 0 → ∀ m1, K m1 (st (sv0 mm) (up (mm.1 32 1) (20 + k.toNatClampNeg) x)) → Q ((mm.1 32 1) (20 + k.toNatClampNeg)) m1) (hx : ¬ tValue k x = 0 → X (tValue k x) mc) : w_X9_setRateByValue k x mc Q X := by
  have hR := h.1.rs
  have hI := h.1.inv
  unfold w_X9_setRateByValue
  by_cases hk : 0 ≤ k ∧ k ≤ 5
  · by_cases hw : 0 ≤ x ∧ x ≤ 60
    · have hk' := hk
      obtain ⟨n, hn5, rfl⟩ := (rng_lit 5 (by decide) hk).ex
      have hn6 : n < 6 := by omega
      have hnt : (nI n).toNatClampNeg = n := rs_tn (by omega)
      refine d_rateV hR hI h.sv h.hS hn6 x hw (fun m1 m' hm hFr hR' => ?_)
      rw [c_answer ((hI.kinds n hn6).1.okA (by decide))]
      have hq := hq (by unfold tValue; rw [if_pos ⟨hk', hw⟩]) m'
      rw [hnt] at hq
      exact hq (h.end hm hFr hR' (I_rate hI (k := 20 + n) ⟨by omega, by omega⟩ (fun _ => rng_lit 60 (by decide) hw) (fun _ => absurd ‹26 ≤ 20 + n› (by omega))) bd0 bd1 0).2.2
    · unfold w_X1_changeRateByValue
      simp only [isWithin_iff, hk, hw, z10, not_true_eq_false, not_false_eq_true, false_implies, true_implies, true_and, and_true, forall_eq, if_true, if_false, reduceIte]
      rw [c_answer2]
      exact xq hx (by unfold tValue; rw [if_neg (fun z => hw z.2)]) (by decide)
  · unfold w_X1_changeRateByValue
    simp only [isWithin_iff, hk, z10, not_true_eq_false, not_false_eq_true, false_implies, true_implies, true_and, and_true, forall_eq, if_true, if_false, reduceIte]
    rw [c_answer2]
    exact xq hx (by unfold tValue; rw [if_neg (fun z => hk z.1)]) (by decide)
theorem n_setRateByWeight (h : Hy a s mc mm K) (k x : Int32) (Q : Int32 → Mm → Prop) (X : Nat → Mm → Prop) (hq : tWeight k x = 0 → ∀ m1, K m1 (st (sv0 mm) (up (mm.1 32 1) (26 + k.toNatClampNeg) x)) → Q ((mm.1 32 1) (26 + k.toNatClampNeg)) m1) (hx : ¬ tWeight k x = 0 → X (tWeight k x) mc) : w_X9_setRateByWeight k x mc Q X := by
  have hR := h.1.rs
  have hI := h.1.inv
  unfold w_X9_setRateByWeight
  by_cases hk : 0 ≤ k ∧ k ≤ 5
  · by_cases hw : 0 ≤ x ∧ x ≤ 80
    · have hk' := hk
      obtain ⟨n, hn5, rfl⟩ := (rng_lit 5 (by decide) hk).ex
      have hn6 : n < 6 := by omega
      have hnt : (nI n).toNatClampNeg = n := rs_tn (by omega)
      refine d_rateW hR hI h.sv h.hS hn6 x hw (fun m1 m' hm hFr hR' => ?_)
      rw [c_answer ((hI.kinds n hn6).2.okA (by decide))]
      have hq := hq (by unfold tWeight; rw [if_pos ⟨hk', hw⟩]) m'
      rw [hnt] at hq
      exact hq (h.end hm hFr hR' (I_rate hI (k := 26 + n) ⟨by omega, by omega⟩ (fun _ => absurd ‹26 + n < 26› (by omega)) (fun _ => rng_lit 80 (by decide) hw)) bd0 bd1 0).2.2
    · unfold w_X1_changeRateByWeight
      simp only [isWithin_iff, hk, hw, z10, not_true_eq_false, not_false_eq_true, false_implies, true_implies, true_and, and_true, forall_eq, if_true, if_false, reduceIte]
      rw [c_answer2]
      exact xq hx (by unfold tWeight; rw [if_neg (fun z => hw z.2)]) (by decide)
  · unfold w_X1_changeRateByWeight
    simp only [isWithin_iff, hk, z10, not_true_eq_false, not_false_eq_true, false_implies, true_implies, true_and, and_true, forall_eq, if_true, if_false, reduceIte]
    rw [c_answer2]
    exact xq hx (by unfold tWeight; rw [if_neg (fun z => hk z.1)]) (by decide)
end DEED
