section SEM24
variable {mc mm m1 m' : Mm} {a s a' s' : Nat} {g : Nat → Int32} {K : Mm → Mm → Prop}
def mdl (v : Int32) (D : Mm → (Int32 → Mm → Prop) → Prop) (mm : Mm) (Q9 : Int32 → Mm → Prop) : Prop := w_X10_refused v mm (fun r m5 => (r = 0 → w_X10_saves m5 (fun m8 => D m8 Q9)) ∧ (¬ r = 0 → Q9 0 m5))
def Hy (a s : Nat) (mc mm : Mm) (K : Mm → Mm → Prop) : Prop := Rel a s mc mm ∧ 99999 ≤ a ∧ (a + 400000 < 1000000000 ∧ s + 64 < 1000000) ∧ ∀ m1 mm1, Rel (a + 400000) (s + 64) m1 mm1 → K m1 mm1
def sv0 (mm : Mm) : Mm := svM (sI mm 30 1 0 0)
theorem sv0_32 (mm : Mm) : (sv0 mm).1 32 1 = mm.1 32 1 := by
  show (svM (sI mm 30 1 0 0)).1 32 1 = _
  rw [svM_32]
  rfl
def S0 (a s : Nat) (mc mm : Mm) (m1 : Mm) : Prop := Rel a s m1 (sv0 mm) ∧ m1.2 = mc.2
theorem Hy.sv (h : Hy a s mc mm K) (Q' : Mm → Prop) (hQ : ∀ m1, S0 a s mc mm m1 → Q' m1) : w_X3_save 1 mc Q' := c_save (h.1.ref 0) Q' hQ
theorem Hy.hS (_h : Hy a s mc mm K) (m1 : Mm) (hm : S0 a s mc mm m1) : RS m1 1 (mm.1 32 1) ∧ m1.2 = mc.2 := by
  have := hm.1.rs
  rw [sv0_32] at this
  exact ⟨this, hm.2⟩
theorem Hy.k0 (h : Hy a s mc mm K) (v : Int32) : K mc (sI mm 30 1 0 v) := h.2.2.2 _ _ ((h.1.ref v).mono (by omega) (by omega) h.2.2.1)
theorem Hy.no1 (h : Hy a s mc mm K) (D : Mm → (Int32 → Mm → Prop) → Prop) : mdl 1 D mm (fun _ m' => m'.1 30 1 0 = 1 ∧ K mc m') := by
  unfold mdl
  rw [m_ref1]
  exact ⟨fun z => absurd z (by decide), fun _ => ⟨ref_ref, h.k0 1⟩⟩
theorem Hy.no2 (h : Hy a s mc mm K) (D : Mm → (Int32 → Mm → Prop) → Prop) : mdl 2 D mm (fun _ m' => m'.1 30 1 0 = 2 ∧ K mc m') := by
  unfold mdl
  rw [m_ref2]
  exact ⟨fun z => absurd z (by decide), fun _ => ⟨ref_ref, h.k0 2⟩⟩
theorem Hy.no3 (h : Hy a s mc mm K) (D : Mm → (Int32 → Mm → Prop) → Prop) : mdl 3 D mm (fun _ m' => m'.1 30 1 0 = 3 ∧ K mc m') := by
  unfold mdl
  rw [m_ref3]
  exact ⟨fun z => absurd z (by decide), fun _ => ⟨ref_ref, h.k0 3⟩⟩
theorem Hy.end (h : Hy a s mc mm K) (hm : S0 a s mc mm m1) (hF : Fr 1 m1 m') (hR : RS m' 1 g) (hI : Inv a' s' g) (ha : a ≤ a' ∧ a' ≤ a + 400000) (hs : s ≤ s' ∧ s' ≤ s + 64) (r : Int32) : (st (sv0 mm) g).1 30 1 0 = 0 ∧ r = r ∧ K m' (st (sv0 mm) g) := by
  refine ⟨?_, rfl, h.2.2.2 _ _ ((hm.1.step hF hR hI ha.1 hs.1).mono ha.2 hs.2 h.2.2.1)⟩
  rw [st_ne _ _ (by decide)]
  show (svM (sI mm 30 1 0 0)).1 30 1 0 = 0
  rw [svM_30 _ (by decide)]
  exact ref_ref
theorem Hy.yes (h : Hy a s mc mm K) {D : Mm → (Int32 → Mm → Prop) → Prop} {r : Int32} (hm : S0 a s mc mm m1) (hF : Fr 1 m1 m') (hR : RS m' 1 g) (hI : Inv a' s' g) (ha : a ≤ a' ∧ a' ≤ a + 400000) (hs : s ≤ s' ∧ s' ≤ s + 64) (hD : ∀ Q9, D (sv0 mm) Q9 ↔ Q9 r (st (sv0 mm) g)) : mdl 0 D mm (fun b m'' => m''.1 30 1 0 = 0 ∧ b = r ∧ K m' m'') := by
  unfold mdl
  rw [m_ref0]
  refine ⟨fun _ => ?_, fun z => absurd rfl z⟩
  have hn : rng ((sI mm 30 1 0 0).1 30 1 5) 6 := by
    have h1 := (h.1.ref 0).2.2.1
    rw [h1.2.2.1]
    exact h1.2.1
  rw [m_saves hn]
  exact (hD _).mpr (h.end hm hF hR hI ha hs r)
theorem Hy.I0 (h : Hy a s mc mm K) : Inv a s ((sv0 mm).1 32 1) := by rw [sv0_32]; exact h.1.inv
theorem bd0 {x : Nat} : x ≤ x ∧ x ≤ x + 400000 := ⟨Nat.le_refl _, Nat.le_add_right _ _⟩
theorem bd1 {x : Nat} : x ≤ x ∧ x ≤ x + 64 := ⟨Nat.le_refl _, Nat.le_add_right _ _⟩
theorem whyE_nn (f : Nat → Int32) (k : Nat) (w v c : Int32) : (whyE f k w v c ≤ 0) ↔ whyE f k w v c = 0 := by
  unfold whyE
  split
  · split
    · split
      · split
        · decide
        · split
          · decide
          · split <;> decide
      · decide
    · decide
  · decide
theorem whyW_nn (f : Nat → Int32) (e : Nat) (w : Int32) : (whyW f e w ≤ 0) ↔ whyW f e w = 0 := by
  have h := whyL_nn f e w
  unfold whyW
  split
  · split <;> first | decide | exact h
  · exact h
theorem whyX_nn (f : Nat → Int32) (e : Nat) (w : Int32) : (whyX f e w ≤ 0) ↔ whyX f e w = 0 := by
  have h := whyL_nn f e w
  unfold whyX
  split
  · split <;> first | decide | exact h
  · exact h
theorem whyM_nn (f : Nat → Int32) (e : Nat) (c : Int32) : (whyM f e c ≤ 0) ↔ whyM f e c = 0 := by
  unfold whyM
  split
  · decide
  · split
    · split
      · decide
      · split
        · split <;> decide
        · decide
    · decide
theorem whyD_nn (f : Nat → Int32) (r : Nat) (w : Int32) : (whyD f r w ≤ 0) ↔ whyD f r w = 0 := by
  unfold whyD
  split
  · split
    · split <;> decide
    · decide
  · decide
theorem J_enter (h : Hy a s mc mm K) (k w v c : Int32) : w_X9_enter k w v c mc (fun r m1 => jq (w_X10_enter k w v c mm) (K m1) r) (fun k0 m1 => oK [2, 3] k0 ∧ jx (w_X10_enter k w v c mm) (K m1) (xB k0)) := by
  have hR := h.1.rs
  have hI := h.1.inv
  unfold w_X9_enter
  by_cases hg : gds k w v c
  · obtain ⟨g1, g2, g3, g4⟩ := id hg
    obtain ⟨k, hk, rfl⟩ := (rng_lit 5 (by decide) g1).ex
    obtain ⟨c, hc, rfl⟩ := (rng_lit 4 (by decide) g4).ex
    have hk6 : k < 6 := by omega
    have hc5 : c < 5 := by omega
    refine d_bringIn hR hI h.sv (fun m1 hm => (h.hS m1 hm).1) k c w v hk6 hc5 hg (fun hn => ?_) (fun hy m1 m' hm hF hR' => ?_)
    · rw [c_answer3]
      refine ⟨by unfold oK; decide, ?_⟩
      unfold jx w_X10_enter w_X10_enter_J33
      have hn' : ¬ whyE (mm.1 32 1) k w v (nI c) ≤ 0 := fun z => hn ((whyE_nn _ _ _ _ _).mp z)
      simp only [m_goods, hg, m_whyE hI hk6 hc5, hn', false_and, or_false, z10, not_true_eq_false, not_false_eq_true, false_implies, true_implies, true_and, and_true, forall_eq, if_true, if_false, reduceIte]
      exact h.no2 (fun m8 Q9 => w_X10_enterOn (nI k) w v (nI c) m8 Q9)
    · rw [c_answer (hI.made.okA (by decide))]
      unfold jq w_X10_enter w_X10_enter_J33
      have hn' : whyE (mm.1 32 1) k w v (nI c) ≤ 0 := (whyE_nn _ _ _ _ _).mpr hy
      simp only [m_goods, hg, m_whyE hI hk6 hc5, hn', false_and, or_false, z10, not_true_eq_false, not_false_eq_true, false_implies, true_implies, true_and, and_true, forall_eq, if_true, if_false, reduceIte]
      have hh := whyE0 hy
      have hmo := lt16 hI.opn hh.2.2.2.1
      refine h.yes (D := fun m8 Q9 => w_X10_enterOn (nI k) w v (nI c) m8 Q9) hm hF hR' (I_enter hI hk6 hc5 g2 g3 hmo hh.2.2.2.2.1) bd0 bd1 (fun Q9 => ?_)
      have := m_enterOn (mm := sv0 mm) (by rw [sv0_32]; exact hI.opn) (by rw [sv0_32]; exact hmo) hk6 w v (nI c) Q9
      rw [sv0_32] at this
      exact this
  · unfold w_X1_bringIn
    simp only [c_goods, hg, false_and, false_or, z10, not_true_eq_false, not_false_eq_true, false_implies, true_implies, true_and, and_true, forall_eq, if_true, if_false, reduceIte]
    rw [c_answer2]
    refine ⟨by unfold oK; decide, ?_⟩
    unfold jx w_X10_enter w_X10_enter_J33
    simp only [m_goods, hg, false_and, false_or, z10, not_true_eq_false, not_false_eq_true, false_implies, true_implies, true_and, and_true, forall_eq, if_true, if_false, reduceIte]
    exact h.no1 (fun m8 Q9 => w_X10_enterOn k w v c m8 Q9)
theorem J_withdraw (h : Hy a s mc mm K) (p w : Int32) : w_X9_withdraw p w mc (fun r m1 => jq (w_X10_withdraw p w mm) (K m1) r) (fun k0 m1 => oK [1, 2, 3] k0 ∧ jx (w_X10_withdraw p w mm) (K m1) (xA k0)) := by
  have hR := h.1.rs
  have hI := h.1.inv
  unfold w_X9_withdraw
  by_cases hF : fiE (mm.1 32 1) p < mo (mm.1 32 1)
  · have h6 : fiE (mm.1 32 1) p < 16 := Nat.lt_of_lt_of_le hF hI.mo16
    have hm1 : ¬ nI (fiE (mm.1 32 1) p) = (-1) := nI_nm1 (by omega)
    by_cases hw : 1 ≤ w ∧ w ≤ 999
    · refine d_withdraw hR hI h.sv h.hS p w hF hw (fun hn => ?_) (fun hy m1 m' hm hFr hR' => ?_)
      · rw [c_answer3]
        refine ⟨by unfold oK; decide, ?_⟩
        unfold jx w_X10_withdraw w_X10_withdraw_J41
        have hn' : ¬ whyW (mm.1 32 1) (fiE (mm.1 32 1) p) w ≤ 0 := fun z => hn ((whyW_nn _ _ _).mp z)
        simp only [m_find hI, hF, hm1, m_isWeight, hw, m_whyW hI hF, hn', z10, not_true_eq_false, not_false_eq_true, false_implies, true_implies, true_and, and_true, forall_eq, if_true, if_false, reduceIte]
        exact h.no3 (fun m8 Q9 => w_X10_withdrawOn (nI (fiE (mm.1 32 1) p)) w m8 Q9)
      · have hle : w ≤ en (mm.1 32 1) (fiE (mm.1 32 1) p) 2 := (whyL0 (whyW0 hy).1).2.2
        have hwr : rng w (en (mm.1 32 1) (fiE (mm.1 32 1) p) 2).toNatClampNeg := rng_le (hI.ent _ hF).2.1 (by decide) (one_le hw.1) hle
        rw [c_answer ((dutyP_r hI hF hwr).okA (by decide))]
        unfold jq w_X10_withdraw w_X10_withdraw_J41
        have hn' : whyW (mm.1 32 1) (fiE (mm.1 32 1) p) w ≤ 0 := (whyW_nn _ _ _).mpr hy
        simp only [m_find hI, hF, hm1, m_isWeight, hw, m_whyW hI hF, hn', z10, not_true_eq_false, not_false_eq_true, false_implies, true_implies, true_and, and_true, forall_eq, if_true, if_false, reduceIte]
        refine h.yes (D := fun m8 Q9 => w_X10_withdrawOn (nI (fiE (mm.1 32 1) p)) w m8 Q9) hm hFr hR' (I_withdraw hI hF hwr (whyW0 hy).2) bd0 bd1 (fun Q9 => ?_)
        have := m_withdrawOn h.I0 (e := fiE (mm.1 32 1) p) (by rw [sv0_32]; exact hF) w Q9
        rw [sv0_32] at this
        exact this
    · unfold w_X1_takeIntoCountry
      simp only [c_findEntry hR hI i1, hF, hR.ne0 h6, isWithin_iff, hw, z10, not_true_eq_false, not_false_eq_true, false_implies, true_implies, true_and, and_true, forall_eq, if_true, if_false, reduceIte]
      rw [c_answer2]
      refine ⟨by unfold oK; decide, ?_⟩
      unfold jx w_X10_withdraw w_X10_withdraw_J41
      simp only [m_find hI, hF, hm1, m_isWeight, hw, z10, not_true_eq_false, not_false_eq_true, false_implies, true_implies, true_and, and_true, forall_eq, if_true, if_false, reduceIte]
      exact h.no2 (fun m8 Q9 => w_X10_withdrawOn (nI (fiE (mm.1 32 1) p)) w m8 Q9)
  · unfold w_X1_takeIntoCountry
    simp only [c_findEntry hR hI i1, hF, z10, not_true_eq_false, not_false_eq_true, false_implies, true_implies, true_and, and_true, forall_eq, if_true, if_false, reduceIte]
    rw [c_answer1]
    refine ⟨by unfold oK; decide, ?_⟩
    unfold jx w_X10_withdraw w_X10_withdraw_J41
    simp only [m_find hI, hF, z10, not_true_eq_false, not_false_eq_true, false_implies, true_implies, true_and, and_true, forall_eq, if_true, if_false, reduceIte]
    exact h.no1 (fun m8 Q9 => w_X10_withdrawOn (-1) w m8 Q9)
theorem J_sendAbroad (h : Hy a s mc mm K) (p w : Int32) : w_X9_sendAbroad p w mc (fun r m1 => jq (w_X10_sendAbroad p w mm) (K m1) r) (fun k0 m1 => oK [1, 2, 3] k0 ∧ jx (w_X10_sendAbroad p w mm) (K m1) (xA k0)) := by
  have hR := h.1.rs
  have hI := h.1.inv
  unfold w_X9_sendAbroad
  by_cases hF : fiE (mm.1 32 1) p < mo (mm.1 32 1)
  · have h6 : fiE (mm.1 32 1) p < 16 := Nat.lt_of_lt_of_le hF hI.mo16
    have hm1 : ¬ nI (fiE (mm.1 32 1) p) = (-1) := nI_nm1 (by omega)
    by_cases hw : 1 ≤ w ∧ w ≤ 999
    · refine d_send hR hI h.sv h.hS p w hF hw (fun hn => ?_) (fun hy m1 m' hm hFr hR' => ?_)
      · rw [c_answer3]
        refine ⟨by unfold oK; decide, ?_⟩
        unfold jx w_X10_sendAbroad w_X10_sendAbroad_J41
        have hn' : ¬ whyX (mm.1 32 1) (fiE (mm.1 32 1) p) w ≤ 0 := fun z => hn ((whyX_nn _ _ _).mp z)
        simp only [m_find hI, hF, hm1, m_isWeight, hw, m_whyX hI hF, hn', z10, not_true_eq_false, not_false_eq_true, false_implies, true_implies, true_and, and_true, forall_eq, if_true, if_false, reduceIte]
        exact h.no3 (fun m8 Q9 => w_X10_sendOn (nI (fiE (mm.1 32 1) p)) w m8 Q9)
      · have hle : w ≤ en (mm.1 32 1) (fiE (mm.1 32 1) p) 2 := (whyL0 (whyX0 hy).1).2.2
        have hwr : rng w (en (mm.1 32 1) (fiE (mm.1 32 1) p) 2).toNatClampNeg := rng_le (hI.ent _ hF).2.1 (by decide) (one_le hw.1) hle
        rw [c_answer ((sub_r (hI.ent _ hF).2.1 (by decide) hwr).1.okA (by decide))]
        unfold jq w_X10_sendAbroad w_X10_sendAbroad_J41
        have hn' : whyX (mm.1 32 1) (fiE (mm.1 32 1) p) w ≤ 0 := (whyX_nn _ _ _).mpr hy
        simp only [m_find hI, hF, hm1, m_isWeight, hw, m_whyX hI hF, hn', z10, not_true_eq_false, not_false_eq_true, false_implies, true_implies, true_and, and_true, forall_eq, if_true, if_false, reduceIte]
        refine h.yes (D := fun m8 Q9 => w_X10_sendOn (nI (fiE (mm.1 32 1) p)) w m8 Q9) hm hFr hR' (I_send hI hF hwr) bd0 bd1 (fun Q9 => ?_)
        have := m_sendOn h.I0 (e := fiE (mm.1 32 1) p) (by rw [sv0_32]; exact hF) w Q9
        rw [sv0_32] at this
        exact this
    · unfold w_X1_takeAbroad
      simp only [c_findEntry hR hI i1, hF, hR.ne0 h6, isWithin_iff, hw, z10, not_true_eq_false, not_false_eq_true, false_implies, true_implies, true_and, and_true, forall_eq, if_true, if_false, reduceIte]
      rw [c_answer2]
      refine ⟨by unfold oK; decide, ?_⟩
      unfold jx w_X10_sendAbroad w_X10_sendAbroad_J41
      simp only [m_find hI, hF, hm1, m_isWeight, hw, z10, not_true_eq_false, not_false_eq_true, false_implies, true_implies, true_and, and_true, forall_eq, if_true, if_false, reduceIte]
      exact h.no2 (fun m8 Q9 => w_X10_sendOn (nI (fiE (mm.1 32 1) p)) w m8 Q9)
  · unfold w_X1_takeAbroad
    simp only [c_findEntry hR hI i1, hF, z10, not_true_eq_false, not_false_eq_true, false_implies, true_implies, true_and, and_true, forall_eq, if_true, if_false, reduceIte]
    rw [c_answer1]
    refine ⟨by unfold oK; decide, ?_⟩
    unfold jx w_X10_sendAbroad w_X10_sendAbroad_J41
    simp only [m_find hI, hF, z10, not_true_eq_false, not_false_eq_true, false_implies, true_implies, true_and, and_true, forall_eq, if_true, if_false, reduceIte]
    exact h.no1 (fun m8 Q9 => w_X10_sendOn (-1) w m8 Q9)
theorem J_drawBack (h : Hy a s mc mm K) (p w : Int32) : w_X9_drawBack p w mc (fun r m1 => jq (w_X10_drawBack p w mm) (K m1) r) (fun k0 m1 => oK [1, 2, 3] k0 ∧ jx (w_X10_drawBack p w mm) (K m1) (xA k0)) := by
  have hR := h.1.rs
  have hI := h.1.inv
  unfold w_X9_drawBack
  by_cases hF : 0 ≤ p ∧ p ≤ mm.1 32 1 68 - 1
  · obtain ⟨r, hr, rfl⟩ := (rng_ix hI.recs (by decide)).mp hF
    have hr : r < mr (mm.1 32 1) := hr
    have h12 : r < 12 := Nat.lt_of_lt_of_le hr hI.mr12
    by_cases hw : 1 ≤ w ∧ w ≤ 999
    · refine d_payBack hR hI h.sv h.hS r w hr hw (fun hn => ?_) (fun hy m1 m' hm hFr hR' => ?_)
      · rw [c_answer3]
        refine ⟨by unfold oK; decide, ?_⟩
        unfold jx w_X10_drawBack w_X10_drawBack_J38
        have hn' : ¬ whyD (mm.1 32 1) r w ≤ 0 := fun z => hn ((whyD_nn _ _ _).mp z)
        simp only [m_isPaper, hF, m_isWeight, hw, m_whyD h12, hn', z10, not_true_eq_false, not_false_eq_true, false_implies, true_implies, true_and, and_true, forall_eq, if_true, if_false, reduceIte]
        exact h.no3 (fun m8 Q9 => w_X10_drawOn (nI r) w m8 Q9)
      · have hle := (whyD0 hy).2
        rw [c_answer ((back_r hI hr ⟨hw.1, hle⟩).2.1.okA (by decide))]
        unfold jq w_X10_drawBack w_X10_drawBack_J38
        have hn' : whyD (mm.1 32 1) r w ≤ 0 := (whyD_nn _ _ _).mpr hy
        simp only [m_isPaper, hF, m_isWeight, hw, m_whyD h12, hn', z10, not_true_eq_false, not_false_eq_true, false_implies, true_implies, true_and, and_true, forall_eq, if_true, if_false, reduceIte]
        refine h.yes (D := fun m8 Q9 => w_X10_drawOn (nI r) w m8 Q9) hm hFr hR' (I_draw hI hr ⟨hw.1, hle⟩ h.2.2.1.1) ⟨Nat.le_add_right _ _, Nat.le_refl _⟩ bd1 (fun Q9 => ?_)
        have h0 : ¬ rc (mm.1 32 1) r 1 = 0 := fun z => by
          have := pos_of hw.1 hle
          rw [z] at this
          exact absurd this (by decide)
        have := m_drawOn h.I0 (r := r) (by rw [sv0_32]; exact hr) (by rw [sv0_32]; exact h0) w Q9
        rw [sv0_32] at this
        exact this
    · unfold w_X1_payBack
      have hnr : ¬ mc.2 8 1 (nI r).toNatClampNeg = 0 := by rw [rs_tn (by omega)]; exact hR.nr0 h12
      simp only [c_findReceipt hR hI, hF, hnr, isWithin_iff, hw, z10, not_true_eq_false, not_false_eq_true, false_implies, true_implies, true_and, and_true, forall_eq, if_true, if_false, reduceIte]
      rw [c_answer2]
      refine ⟨by unfold oK; decide, ?_⟩
      unfold jx w_X10_drawBack w_X10_drawBack_J38
      simp only [m_isPaper, hF, m_isWeight, hw, z10, not_true_eq_false, not_false_eq_true, false_implies, true_implies, true_and, and_true, forall_eq, if_true, if_false, reduceIte]
      exact h.no2 (fun m8 Q9 => w_X10_drawOn (nI r) w m8 Q9)
  · unfold w_X1_payBack
    simp only [c_findReceipt hR hI, hF, z10, not_true_eq_false, not_false_eq_true, false_implies, true_implies, true_and, and_true, forall_eq, if_true, if_false, reduceIte]
    rw [c_answer1]
    refine ⟨by unfold oK; decide, ?_⟩
    unfold jx w_X10_drawBack w_X10_drawBack_J38
    simp only [m_isPaper, hF, z10, not_true_eq_false, not_false_eq_true, false_implies, true_implies, true_and, and_true, forall_eq, if_true, if_false, reduceIte]
    exact h.no1 (fun m8 Q9 => w_X10_drawOn p w m8 Q9)
theorem J_move (h : Hy a s mc mm K) (p c : Int32) : w_X9_move p c mc (fun r m1 => jq (w_X10_move p c mm) (K m1) r) (fun k0 m1 => oK [1, 3] k0 ∧ jx (w_X10_move p c mm) (K m1) (xC k0)) := by
  have hR := h.1.rs
  have hI := h.1.inv
  unfold w_X9_move
  by_cases hF : fiE (mm.1 32 1) p < mo (mm.1 32 1)
  · have h6 : fiE (mm.1 32 1) p < 16 := Nat.lt_of_lt_of_le hF hI.mo16
    have hm1 : ¬ nI (fiE (mm.1 32 1) p) = (-1) := nI_nm1 (by omega)
    by_cases hc : 0 ≤ c ∧ c ≤ 4
    · obtain ⟨c, hc4, rfl⟩ := (rng_lit 4 (by decide) hc).ex
      have hc5 : c < 5 := by omega
      refine d_move hR hI h.sv h.hS p c hF hc5 (fun hn => ?_) (fun hy m1 m' hm hFr hR' => ?_)
      · rw [c_answer3]
        refine ⟨by unfold oK; decide, ?_⟩
        unfold jx w_X10_move w_X10_move_J19 w_X10_move_J37
        have hn' : ¬ whyM (mm.1 32 1) (fiE (mm.1 32 1) p) (nI c) ≤ 0 := fun z => hn ((whyM_nn _ _ _).mp z)
        simp only [m_find hI, hF, hm1, m_isChamber, hc, m_whyM hI hF hc5, hn', z10, not_true_eq_false, not_false_eq_true, false_implies, true_implies, true_and, and_true, forall_eq, if_true, if_false, reduceIte]
        exact h.no2 (fun m8 Q9 => w_X10_moveOn (nI (fiE (mm.1 32 1) p)) (nI c) m8 Q9)
      · rw [c_answer ((move_r hI hF hy).okA (by decide))]
        unfold jq w_X10_move w_X10_move_J19 w_X10_move_J37
        have hn' : whyM (mm.1 32 1) (fiE (mm.1 32 1) p) (nI c) ≤ 0 := (whyM_nn _ _ _).mpr hy
        simp only [m_find hI, hF, hm1, m_isChamber, hc, m_whyM hI hF hc5, hn', z10, not_true_eq_false, not_false_eq_true, false_implies, true_implies, true_and, and_true, forall_eq, if_true, if_false, reduceIte]
        refine h.yes (D := fun m8 Q9 => w_X10_moveOn (nI (fiE (mm.1 32 1) p)) (nI c) m8 Q9) hm hFr hR' (I_move hI hc5) bd0 bd1 (fun Q9 => ?_)
        have := m_moveOn h.I0 (e := fiE (mm.1 32 1) p) (by rw [sv0_32]; exact hF) (nI c) Q9
        rw [sv0_32] at this
        exact this
    · unfold w_X1_carryOver
      simp only [c_findEntry hR hI i1, hF, hR.ne0 h6, isWithin_iff, hc, z10, not_true_eq_false, not_false_eq_true, false_implies, true_implies, true_and, and_true, forall_eq, if_true, if_false, reduceIte]
      rw [c_answer1]
      refine ⟨by unfold oK; decide, ?_⟩
      unfold jx w_X10_move w_X10_move_J19 w_X10_move_J37
      simp only [m_find hI, hF, hm1, m_isChamber, hc, z10, not_true_eq_false, not_false_eq_true, false_implies, true_implies, true_and, and_true, forall_eq, if_true, if_false, reduceIte]
      exact h.no1 (fun m8 Q9 => w_X10_moveOn (nI (fiE (mm.1 32 1) p)) c m8 Q9)
  · unfold w_X1_carryOver
    simp only [c_findEntry hR hI i1, hF, z10, not_true_eq_false, not_false_eq_true, false_implies, true_implies, true_and, and_true, forall_eq, if_true, if_false, reduceIte]
    rw [c_answer1]
    refine ⟨by unfold oK; decide, ?_⟩
    unfold jx w_X10_move w_X10_move_J19 w_X10_move_J37
    simp only [m_find hI, hF, z10, not_true_eq_false, not_false_eq_true, false_implies, true_implies, true_and, and_true, forall_eq, if_true, if_false, reduceIte]
    exact h.no1 (fun m8 Q9 => w_X10_moveOn (-1) c m8 Q9)
end SEM24
