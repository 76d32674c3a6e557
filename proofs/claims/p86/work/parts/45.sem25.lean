section SEM25
variable {mc mm m1 m' : Mm} {a s a' s' : Nat} {g : Nat → Int32} {K : Mm → Mm → Prop}
theorem fiE_num {f : Nat → Int32} {p : Int32} (h : fiE f p < mo f) : en f (fiE f p) 0 = p := by
  have := fnd_P (fun e => decide (en f e 0 = p)) (mo f) 0 (by rw [Nat.zero_add]; exact h)
  exact of_decide_eq_true this
theorem spl_iff {W w : Int32} (hW : rng W 999) : (1 ≤ w ∧ w ≤ W - 1) ↔ ((1 ≤ w ∧ w ≤ 998) ∧ w < W) := by
  obtain ⟨n, hn, rfl⟩ := hW.ex
  have e1 : (nI n - 1).toInt = (n : Int) - 1 := pk_sub_toInt (b := 1) (by omega) (by decide)
  have e2 : (nI n).toInt = n := nI_toInt (by omega)
  have e3 : (998 : Int32).toInt = 998 := rfl
  rw [Int32.le_iff_toInt_le, Int32.le_iff_toInt_le, Int32.le_iff_toInt_le, Int32.lt_iff_toInt_lt, e1, e2, e3]
  omega
theorem spl_r {W w : Int32} (hW : rng W 999) (h : 1 ≤ w ∧ w ≤ W - 1) : rng w W.toNatClampNeg ∧ ¬ W - w = 0 := by
  have h2 := (spl_iff hW).mp h
  obtain ⟨n, hn, rfl⟩ := hW.ex
  rw [rs_tn (by omega)]
  have hr := (rngw 998 (by decide) h2.1.1 h2.1.2).1
  obtain ⟨k, hk, rfl⟩ := hr.ex
  have hlt := (nI_ltI (by omega) (by omega)).mp h2.2
  refine ⟨rng_of (by omega) (by omega), fun z => ?_⟩
  rw [pk_sub (by omega)] at z
  have := (nI_eq (a := n - k) (b := 0) (by omega) (by decide)).mp z
  omega
theorem J_split (h : Hy a s mc mm K) (p w : Int32) : w_X9_split p w mc (fun r m1 => jq (w_X10_split p w mm) (K m1) r) (fun k0 m1 => oK [1, 2, 3] k0 ∧ jx (w_X10_split p w mm) (K m1) (xA k0)) := by
  have hR := h.1.rs
  have hI := h.1.inv
  unfold w_X9_split
  let D : Int32 → Mm → (Int32 → Mm → Prop) → Prop := fun r_1 m_8 Q9 => w_X10_share r_1 w m_8 (fun (r_9 : Int32) => w_X10_of r_1 1 m_8 (fun (r_11 : Int32) => w_X10_of r_1 4 m_8 (fun (r_13 : Int32) => w_X10_makes r_11 w r_9 r_13 m_8 (fun (r_15 : Int32) (m_16 : Mm) => ∀ x_17 : Int32, x_17 = ((m_16.1 32 1 117) - 1) → (w_X10_of r_1 5 m_16 (fun (r_18 : Int32) => w_X10_put x_17 5 r_18 m_16 (fun (m_21 : Mm) => w_X10_of r_1 6 m_21 (fun (r_22 : Int32) => w_X10_put x_17 6 r_22 m_21 (fun (m_25 : Mm) => w_X10_of r_1 7 m_25 (fun (r_26 : Int32) => w_X10_put x_17 7 r_26 m_25 (fun (m_29 : Mm) => w_X10_goes r_1 w m_29 (fun (m_31 : Mm) => Q9 r_15 m_31))))))))))))
  by_cases hF : fiE (mm.1 32 1) p < mo (mm.1 32 1)
  · have h6 : fiE (mm.1 32 1) p < 16 := Nat.lt_of_lt_of_le hF hI.mo16
    have hE := hI.ent _ hF
    have hm1 : ¬ nI (fiE (mm.1 32 1) p) = (-1) := nI_nm1 (by omega)
    have hsi := spl_iff (w := w) hE.2.1
    by_cases hw : 1 ≤ w ∧ w ≤ en (mm.1 32 1) (fiE (mm.1 32 1) p) 2 - 1
    · have hwr := spl_r hE.2.1 hw
      obtain ⟨w1, w2⟩ := hsi.mp hw
      refine d_split hR hI h.sv h.hS p w hF hw hwr.1 hwr.2 (fun hn => ?_) (fun hy m1 m' hm hFr hR' => ?_)
      · rw [c_answer3]
        refine ⟨by unfold oK; decide, ?_⟩
        unfold jx w_X10_split w_X10_split_J38 w_X10_split_J78
        by_cases b1 : mm.1 32 1 (10 + (en (mm.1 32 1) (fiE (mm.1 32 1) p) 4).toNatClampNeg) ≤ 0
        · by_cases b2 : mm.1 32 1 117 = 16
          · simp only [m_find hI, hF, hm1, w_1_998, w1, m_of2 h6, w2, m_of4 h6, shut_e hE, b1, b2, z10, not_true_eq_false, not_false_eq_true, false_implies, true_implies, true_and, and_true, forall_eq, if_true, if_false, reduceIte]
            exact h.no3 (D (nI (fiE (mm.1 32 1) p)))
          · by_cases b3 : mm.1 32 1 1 = 60
            · simp only [m_find hI, hF, hm1, w_1_998, w1, m_of2 h6, w2, m_of4 h6, shut_e hE, b1, b2, b3, z10, not_true_eq_false, not_false_eq_true, false_implies, true_implies, true_and, and_true, forall_eq, if_true, if_false, reduceIte]
              exact h.no3 (D (nI (fiE (mm.1 32 1) p)))
            · exact absurd ⟨b1, fun z => b2 ((eq16 hI.opn).mp z), fun z => b3 ((eq60 hI.made).mp z)⟩ hn
        · simp only [m_find hI, hF, hm1, w_1_998, w1, m_of2 h6, w2, m_of4 h6, shut_e hE, b1, z10, not_true_eq_false, not_false_eq_true, false_implies, true_implies, true_and, and_true, forall_eq, if_true, if_false, reduceIte]
          exact h.no3 (D (nI (fiE (mm.1 32 1) p)))
      · rw [c_answer (hI.made.okA (by decide))]
        unfold jq w_X10_split w_X10_split_J38 w_X10_split_J78
        have b2 : ¬ mm.1 32 1 117 = 16 := fun z => hy.2.1 ((eq16 hI.opn).mpr z)
        have b3 : ¬ mm.1 32 1 1 = 60 := fun z => hy.2.2 ((eq60 hI.made).mpr z)
        simp only [m_find hI, hF, hm1, w_1_998, w1, m_of2 h6, w2, m_of4 h6, shut_e hE, hy.1, b2, b3, z10, not_true_eq_false, not_false_eq_true, false_implies, true_implies, true_and, and_true, forall_eq, if_true, if_false, reduceIte]
        have hmo := lt16 hI.opn hy.2.1
        have hw1 := (rngw 998 (by decide) w1.1 w1.2).2
        refine h.yes (D := D (nI (fiE (mm.1 32 1) p))) hm hFr hR' (I_split hI hF hwr.1 hw1 hmo hy.2.2) bd0 bd1 (fun Q9 => ?_)
        have := m_splitB h.I0 (e := fiE (mm.1 32 1) p) (by rw [sv0_32]; exact hF) (by rw [sv0_32]; exact hmo) w Q9
        rw [sv0_32] at this
        exact this
    · unfold w_X1_partOff
      simp only [c_findEntry hR hI i1, hF, hR.ne0 h6, hR.oke i1 h6, isWithin_iff, hR.e2 hF, hw, z10, not_true_eq_false, not_false_eq_true, false_implies, true_implies, true_and, and_true, forall_eq, if_true, if_false, reduceIte]
      rw [c_answer2]
      refine ⟨by unfold oK; decide, ?_⟩
      unfold jx w_X10_split w_X10_split_J38 w_X10_split_J78
      by_cases w1 : 1 ≤ w ∧ w ≤ 998
      · have w2 : ¬ w < en (mm.1 32 1) (fiE (mm.1 32 1) p) 2 := fun z => hw (hsi.mpr ⟨w1, z⟩)
        simp only [m_find hI, hF, hm1, w_1_998, w1, m_of2 h6, w2, z10, not_true_eq_false, not_false_eq_true, false_implies, true_implies, true_and, and_true, forall_eq, if_true, if_false, reduceIte]
        exact h.no2 (D (nI (fiE (mm.1 32 1) p)))
      · simp only [m_find hI, hF, hm1, w_1_998, w1, z10, not_true_eq_false, not_false_eq_true, false_implies, true_implies, true_and, and_true, forall_eq, if_true, if_false, reduceIte]
        exact h.no2 (D (nI (fiE (mm.1 32 1) p)))
  · unfold w_X1_partOff
    simp only [c_findEntry hR hI i1, hF, z10, not_true_eq_false, not_false_eq_true, false_implies, true_implies, true_and, and_true, forall_eq, if_true, if_false, reduceIte]
    rw [c_answer1]
    refine ⟨by unfold oK; decide, ?_⟩
    unfold jx w_X10_split w_X10_split_J38 w_X10_split_J78
    simp only [m_find hI, hF, z10, not_true_eq_false, not_false_eq_true, false_implies, true_implies, true_and, and_true, forall_eq, if_true, if_false, reduceIte]
    exact h.no1 (D (-1))
theorem J_merge (h : Hy a s mc mm K) (p q : Int32) : w_X9_merge p q mc (fun r m1 => jq (w_X10_merge p q mm) (K m1) r) (fun k0 m1 => oK [1, 2, 3] k0 ∧ jx (w_X10_merge p q mm) (K m1) (xA k0)) := by
  have hR := h.1.rs
  have hI := h.1.inv
  unfold w_X9_merge
  let D : Int32 → Int32 → Mm → (Int32 → Mm → Prop) → Prop := fun r_1 r_3 m_10 Q9 => w_X10_of r_1 2 m_10 (fun (r_11 : Int32) => w_X10_of r_3 2 m_10 (fun (r_13 : Int32) => ∀ x_15 : Int32, x_15 = (r_11 + r_13) → (w_X10_put r_1 2 x_15 m_10 (fun (m_17 : Mm) => w_X10_of r_1 3 m_17 (fun (r_18 : Int32) => w_X10_of r_3 3 m_17 (fun (r_20 : Int32) => w_X10_put r_1 3 (r_18 + r_20) m_17 (fun (m_23 : Mm) => w_X10_of r_1 5 m_23 (fun (r_24 : Int32) => w_X10_of r_3 5 m_23 (fun (r_26 : Int32) => ((r_24 ≤ r_26 → w_X10_of r_3 5 m_23 (fun (r_49 : Int32) => w_X10_merge_J145 Q9 r_1 r_3 x_15 m_23 r_49)) ∧
  (¬ r_24 ≤ r_26 → w_X10_of r_1 5 m_23 (fun (r_51 : Int32) => w_X10_merge_J145 Q9 r_1 r_3 x_15 m_23 r_51))))))))))))
  by_cases hF : fiE (mm.1 32 1) p < mo (mm.1 32 1)
  · have h6 : fiE (mm.1 32 1) p < 16 := Nat.lt_of_lt_of_le hF hI.mo16
    have hm1 : ¬ nI (fiE (mm.1 32 1) p) = (-1) := nI_nm1 (by omega)
    by_cases hG : fiE (mm.1 32 1) q < mo (mm.1 32 1)
    · have h7 : fiE (mm.1 32 1) q < 16 := Nat.lt_of_lt_of_le hG hI.mo16
      have hm2 : ¬ nI (fiE (mm.1 32 1) q) = (-1) := nI_nm1 (by omega)
      by_cases hpq : p = q
      · subst hpq
        unfold w_X1_join
        simp only [c_findEntry hR hI i1, hF, hR.ne0 h6, z10, not_true_eq_false, not_false_eq_true, false_implies, true_implies, true_and, and_true, forall_eq, if_true, if_false, reduceIte]
        rw [c_answer2]
        refine ⟨by unfold oK; decide, ?_⟩
        unfold jx w_X10_merge w_X10_merge_J25
        simp only [m_find hI, hF, hm1, z10, not_true_eq_false, not_false_eq_true, false_implies, true_implies, true_and, and_true, forall_eq, if_true, if_false, reduceIte]
        exact h.no2 (D (nI (fiE (mm.1 32 1) p)) (nI (fiE (mm.1 32 1) p)))
      · have hxy : ¬ fiE (mm.1 32 1) p = fiE (mm.1 32 1) q := fun z => hpq (by rw [← fiE_num hF, ← fiE_num hG, z])
        have hxy' : ¬ nI (fiE (mm.1 32 1) p) = nI (fiE (mm.1 32 1) q) := fun z => hxy ((nI_eq (by omega) (by omega)).mp z)
        refine d_merge hR hI h.sv h.hS p q hF hG hpq hxy (fun hn => ?_) (fun hy m1 m' hm hFr hR' => ?_)
        · rw [c_answer3]
          refine ⟨by unfold oK; decide, ?_⟩
          unfold jx w_X10_merge w_X10_merge_J25
          simp only [m_find hI, hF, hG, hm1, hm2, hxy', m_canJ hI hF hG, hn, false_and, false_or, z10, not_true_eq_false, not_false_eq_true, false_implies, true_implies, true_and, and_true, forall_eq, if_true, if_false, reduceIte]
          exact h.no3 (D (nI (fiE (mm.1 32 1) p)) (nI (fiE (mm.1 32 1) q)))
        · have s2 := add_r (hI.ent _ hF).2.1 (hI.ent _ hG).2.1 (by decide)
          rw [c_answer (s2.1.okA (by decide))]
          unfold jq w_X10_merge w_X10_merge_J25
          simp only [m_find hI, hF, hG, hm1, hm2, hxy', m_canJ hI hF hG, hy, false_and, or_false, z10, not_true_eq_false, not_false_eq_true, false_implies, true_implies, true_and, and_true, forall_eq, if_true, if_false, reduceIte]
          refine h.yes (D := D (nI (fiE (mm.1 32 1) p)) (nI (fiE (mm.1 32 1) q))) hm hFr hR' (I_merge hI hF hG hxy hy) bd0 bd1 (fun Q9 => ?_)
          have := m_mergeB h.I0 (x := fiE (mm.1 32 1) p) (y := fiE (mm.1 32 1) q) (by rw [sv0_32]; exact hF) (by rw [sv0_32]; exact hG) hxy Q9
          rw [sv0_32] at this
          exact this
    · unfold w_X1_join
      simp only [c_findEntry hR hI i1, hF, hG, hR.ne0 h6, z10, not_true_eq_false, not_false_eq_true, false_implies, true_implies, true_and, and_true, forall_eq, if_true, if_false, reduceIte]
      rw [c_answer1]
      refine ⟨by unfold oK; decide, ?_⟩
      unfold jx w_X10_merge w_X10_merge_J25
      simp only [m_find hI, hF, hG, hm1, z10, not_true_eq_false, not_false_eq_true, false_implies, true_implies, true_and, and_true, forall_eq, if_true, if_false, reduceIte]
      exact h.no1 (D (nI (fiE (mm.1 32 1) p)) (-1))
  · unfold w_X1_join
    by_cases hG : fiE (mm.1 32 1) q < mo (mm.1 32 1)
    · simp only [c_findEntry hR hI i1, hF, hG, z10, not_true_eq_false, not_false_eq_true, false_implies, true_implies, true_and, and_true, forall_eq, if_true, if_false, reduceIte]
      rw [c_answer1]
      refine ⟨by unfold oK; decide, ?_⟩
      unfold jx w_X10_merge w_X10_merge_J25
      simp only [m_find hI, hF, hG, z10, not_true_eq_false, not_false_eq_true, false_implies, true_implies, true_and, and_true, forall_eq, if_true, if_false, reduceIte]
      exact h.no1 (D (-1) (nI (fiE (mm.1 32 1) q)))
    · simp only [c_findEntry hR hI i1, hF, hG, z10, not_true_eq_false, not_false_eq_true, false_implies, true_implies, true_and, and_true, forall_eq, if_true, if_false, reduceIte]
      rw [c_answer1]
      refine ⟨by unfold oK; decide, ?_⟩
      unfold jx w_X10_merge w_X10_merge_J25
      simp only [m_find hI, hF, hG, z10, not_true_eq_false, not_false_eq_true, false_implies, true_implies, true_and, and_true, forall_eq, if_true, if_false, reduceIte]
      exact h.no1 (D (-1) (-1))
theorem J_weigh (h : Hy a s mc mm K) (p w : Int32) : w_X9_weigh p w mc (fun r m1 => jq (w_X10_weigh p w mm) (K m1) r) (fun k0 m1 => oK [1, 2, 3] k0 ∧ jx (w_X10_weigh p w mm) (K m1) (xA k0)) := by
  have hR := h.1.rs
  have hI := h.1.inv
  unfold w_X9_weigh
  by_cases hF : fiE (mm.1 32 1) p < mo (mm.1 32 1)
  · have h6 : fiE (mm.1 32 1) p < 16 := Nat.lt_of_lt_of_le hF hI.mo16
    have hE := hI.ent _ hF
    have hm1 : ¬ nI (fiE (mm.1 32 1) p) = (-1) := nI_nm1 (by omega)
    by_cases hw : 0 ≤ w ∧ w ≤ en (mm.1 32 1) (fiE (mm.1 32 1) p) 2
    · have hwr : rng w (en (mm.1 32 1) (fiE (mm.1 32 1) p) 2).toNatClampNeg := rng_le hE.2.1 (by decide) hw.1 hw.2
      refine d_weigh hR hI h.sv h.hS p w hF hw (fun hn => ?_) (fun hy m1 m' hm hFr hR' => ?_)
      · rw [c_answer3]
        refine ⟨by unfold oK; decide, ?_⟩
        unfold jx w_X10_weigh w_X10_weigh_J54
        simp only [m_find hI, hF, hm1, m_of2 h6, w_0_e, hw, m_of4 h6, shut_e hE, hn, z10, not_true_eq_false, not_false_eq_true, false_implies, true_implies, true_and, and_true, forall_eq, if_true, if_false, reduceIte]
        exact h.no3 (fun m8 Q9 => w_X10_weighOn (nI (fiE (mm.1 32 1) p)) w m8 Q9)
      · have hgo := sub_r hE.2.1 (by decide) hwr
        have hgw : rng (en (mm.1 32 1) (fiE (mm.1 32 1) p) 2 - w) (en (mm.1 32 1) (fiE (mm.1 32 1) p) 2).toNatClampNeg := ⟨hgo.1.1, by rw [hgo.2]; omega⟩
        have hL := loss_rng hI hF hwr
        have hC := charge_r hI hF hgw (L := lossF (mm.1 32 1) (fiE (mm.1 32 1) p) w) (by rw [hgo.2]; exact hL)
        rw [c_answer (hC.1.okA (by decide))]
        unfold jq w_X10_weigh w_X10_weigh_J54
        simp only [m_find hI, hF, hm1, m_of2 h6, w_0_e, hw, m_of4 h6, shut_e hE, hy, z10, not_true_eq_false, not_false_eq_true, false_implies, true_implies, true_and, and_true, forall_eq, if_true, if_false, reduceIte]
        refine h.yes (D := fun m8 Q9 => w_X10_weighOn (nI (fiE (mm.1 32 1) p)) w m8 Q9) hm hFr hR' (I_weigh hI hF hwr) bd0 bd1 (fun Q9 => ?_)
        have := m_weighOn h.I0 (e := fiE (mm.1 32 1) p) (by rw [sv0_32]; exact hF) (w := w) (by rw [sv0_32]; exact hwr) Q9
        rw [sv0_32] at this
        exact this
    · unfold w_X1_putOnScales
      simp only [c_findEntry hR hI i1, hF, hR.ne0 h6, hR.oke i1 h6, isWithin_iff, hR.e2 hF, hw, z10, not_true_eq_false, not_false_eq_true, false_implies, true_implies, true_and, and_true, forall_eq, if_true, if_false, reduceIte]
      rw [c_answer2]
      refine ⟨by unfold oK; decide, ?_⟩
      unfold jx w_X10_weigh w_X10_weigh_J54
      simp only [m_find hI, hF, hm1, m_of2 h6, w_0_e, hw, z10, not_true_eq_false, not_false_eq_true, false_implies, true_implies, true_and, and_true, forall_eq, if_true, if_false, reduceIte]
      exact h.no2 (fun m8 Q9 => w_X10_weighOn (nI (fiE (mm.1 32 1) p)) w m8 Q9)
  · unfold w_X1_putOnScales
    simp only [c_findEntry hR hI i1, hF, z10, not_true_eq_false, not_false_eq_true, false_implies, true_implies, true_and, and_true, forall_eq, if_true, if_false, reduceIte]
    rw [c_answer1]
    refine ⟨by unfold oK; decide, ?_⟩
    unfold jx w_X10_weigh w_X10_weigh_J54
    simp only [m_find hI, hF, z10, not_true_eq_false, not_false_eq_true, false_implies, true_implies, true_and, and_true, forall_eq, if_true, if_false, reduceIte]
    exact h.no1 (fun m8 Q9 => w_X10_weighOn (-1) w m8 Q9)
theorem seal_pos {f : Nat → Int32} (hI : Inv a s f) : ¬ f 2 + 1 ≤ 0 ∧ rng (f 2 + 1) (s + 1) := by
  have h2 := add_r (y := 1) (c := 1) hI.seals (rng_of (n := 1) (by decide) (by decide)) (by have := hI.bnd; omega)
  refine ⟨fun z => ?_, h2.1⟩
  have e1 := h2.2
  have h1 := h2.1.1
  have hb := h2.1.2
  have hb2 := hI.bnd
  have e11 : (1 : Int32).toNatClampNeg = 1 := by decide
  rw [e11] at e1
  rw [h1, Int32.le_iff_toInt_le, nI_toInt (by omega)] at z
  have : (0 : Int32).toInt = 0 := rfl
  omega
theorem m_canBrk {mm : Mm} {c : Nat} (hc : c < 5) (Q : Int32 → Prop) : w_X10_canBreak (nI c) mm Q ↔ if ¬ mm.1 32 1 (10 + c) ≤ 0 ∧ mm.1 32 1 (15 + c) = 0 then Q 1 else Q 0 := by
  unfold w_X10_canBreak
  simp only [m_isShut hc, cix15 hc]
  by_cases b1 : mm.1 32 1 (10 + c) ≤ 0
  · simp only [b1, z10, false_and, not_true_eq_false, not_false_eq_true, false_implies, true_implies, true_and, and_true, forall_eq, if_true, if_false, reduceIte]
  · by_cases b2 : mm.1 32 1 (15 + c) = 0
    · simp only [b1, b2, z10, and_self, not_true_eq_false, not_false_eq_true, false_implies, true_implies, true_and, and_true, forall_eq, if_true, if_false, reduceIte]
    · simp only [b1, b2, z10, and_false, not_true_eq_false, not_false_eq_true, false_implies, true_implies, true_and, and_true, forall_eq, if_true, if_false, reduceIte]
theorem J_lock (h : Hy a s mc mm K) (p : Int32) : w_X9_lock p mc (fun r m1 => jq (w_X10_lock p mm) (K m1) r) (fun k0 m1 => oK [1, 3] k0 ∧ jx (w_X10_lock p mm) (K m1) (xC k0)) := by
  have hR := h.1.rs
  have hI := h.1.inv
  unfold w_X9_lock
  by_cases hc : 0 ≤ p ∧ p ≤ 4
  · obtain ⟨c, hc4, rfl⟩ := (rng_lit 4 (by decide) hc).ex
    have hc5 : c < 5 := by omega
    refine d_lock hR hI h.sv h.hS hc5 (fun hn => ?_) (fun hy m1 m' hm hFr hR' => ?_) (seal_pos hI).1
    · rw [c_answer3]
      refine ⟨by unfold oK; decide, ?_⟩
      unfold jx w_X10_lock
      simp only [m_isChamber, hc, m_isShut hc5, hn, z10, not_true_eq_false, not_false_eq_true, false_implies, true_implies, true_and, and_true, forall_eq, if_true, if_false, reduceIte]
      exact h.no2 (fun m8 Q9 => w_X10_lockOn (nI c) m8 Q9)
    · rw [c_answer ((seal_pos hI).2.okA (by have := h.2.2.1.2; omega))]
      unfold jq w_X10_lock
      simp only [m_isChamber, hc, m_isShut hc5, hy, z10, not_true_eq_false, not_false_eq_true, false_implies, true_implies, true_and, and_true, forall_eq, if_true, if_false, reduceIte]
      refine h.yes (D := fun m8 Q9 => w_X10_lockOn (nI c) m8 Q9) hm hFr hR' (I_lock hI hc5 (by have := h.2.2.1.2; omega)) bd0 ⟨by omega, by omega⟩ (fun Q9 => ?_)
      have := m_lockOn hc5 (sv0 mm) Q9
      rw [sv0_32] at this
      exact this
  · unfold w_X1_putSeal
    simp only [isWithin_iff, hc, z10, not_true_eq_false, not_false_eq_true, false_implies, true_implies, true_and, and_true, forall_eq, if_true, if_false, reduceIte]
    rw [c_answer1]
    refine ⟨by unfold oK; decide, ?_⟩
    unfold jx w_X10_lock
    simp only [m_isChamber, hc, z10, not_true_eq_false, not_false_eq_true, false_implies, true_implies, true_and, and_true, forall_eq, if_true, if_false, reduceIte]
    exact h.no1 (fun m8 Q9 => w_X10_lockOn p m8 Q9)
theorem J_open (h : Hy a s mc mm K) (p : Int32) : w_X9_open p mc (fun r m1 => jq (w_X10_open p mm) (K m1) r) (fun k0 m1 => oK [1, 3] k0 ∧ jx (w_X10_open p mm) (K m1) (xC k0)) := by
  have hR := h.1.rs
  have hI := h.1.inv
  unfold w_X9_open
  by_cases hc : 0 ≤ p ∧ p ≤ 4
  · obtain ⟨c, hc4, rfl⟩ := (rng_lit 4 (by decide) hc).ex
    have hc5 : c < 5 := by omega
    refine d_open hR hI h.sv h.hS hc5 (fun hn => ?_) (fun hy m1 m' hm hFr hR' => ?_)
    · rw [c_answer3]
      refine ⟨by unfold oK; decide, ?_⟩
      unfold jx w_X10_open
      simp only [m_isChamber, hc, m_isShut hc5, hn, z10, not_true_eq_false, not_false_eq_true, false_implies, true_implies, true_and, and_true, forall_eq, if_true, if_false, reduceIte]
      exact h.no2 (fun m8 Q9 => w_X10_openOn (nI c) m8 Q9)
    · rw [c_answer ((opF_r hI hc5).okA (by decide))]
      unfold jq w_X10_open
      simp only [m_isChamber, hc, m_isShut hc5, hy, z10, not_true_eq_false, not_false_eq_true, false_implies, true_implies, true_and, and_true, forall_eq, if_true, if_false, reduceIte]
      refine h.yes (D := fun m8 Q9 => w_X10_openOn (nI c) m8 Q9) hm hFr hR' (I_op hI hc5) bd0 bd1 (fun Q9 => ?_)
      have := m_openOn h.I0 hc5 Q9
      rw [sv0_32] at this
      exact this
  · unfold w_X1_takeSealOff
    simp only [isWithin_iff, hc, z10, not_true_eq_false, not_false_eq_true, false_implies, true_implies, true_and, and_true, forall_eq, if_true, if_false, reduceIte]
    rw [c_answer1]
    refine ⟨by unfold oK; decide, ?_⟩
    unfold jx w_X10_open
    simp only [m_isChamber, hc, z10, not_true_eq_false, not_false_eq_true, false_implies, true_implies, true_and, and_true, forall_eq, if_true, if_false, reduceIte]
    exact h.no1 (fun m8 Q9 => w_X10_openOn p m8 Q9)
theorem J_breakSeal (h : Hy a s mc mm K) (p : Int32) : w_X9_breakSeal p mc (fun r m1 => jq (w_X10_breakSeal p mm) (K m1) r) (fun k0 m1 => oK [1, 3] k0 ∧ jx (w_X10_breakSeal p mm) (K m1) (xC k0)) := by
  have hR := h.1.rs
  have hI := h.1.inv
  unfold w_X9_breakSeal
  by_cases hc : 0 ≤ p ∧ p ≤ 4
  · obtain ⟨c, hc4, rfl⟩ := (rng_lit 4 (by decide) hc).ex
    have hc5 : c < 5 := by omega
    refine d_break hR hI h.sv h.hS hc5 (fun hn => ?_) (fun hy m1 m' hm hFr hR' => ?_)
    · rw [c_answer3]
      refine ⟨by unfold oK; decide, ?_⟩
      unfold jx w_X10_breakSeal
      simp only [m_isChamber, hc, m_canBrk hc5, hn, z10, not_true_eq_false, not_false_eq_true, false_implies, true_implies, true_and, and_true, forall_eq, if_true, if_false, reduceIte]
      exact h.no2 (fun m8 Q9 => w_X10_breakOn (nI c) m8 Q9)
    · rw [c_answer (((hI.cham c hc5).1.mono hI.seals.2).okA (by have := hI.bnd; omega))]
      unfold jq w_X10_breakSeal
      simp only [m_isChamber, hc, m_canBrk hc5, hy, z10, not_true_eq_false, not_false_eq_true, false_implies, true_implies, true_and, and_true, forall_eq, if_true, if_false, reduceIte]
      refine h.yes (D := fun m8 Q9 => w_X10_breakOn (nI c) m8 Q9) hm hFr hR' (I_break hI hc5 hy.1) bd0 bd1 (fun Q9 => ?_)
      have := m_breakOn hc5 (sv0 mm) Q9
      rw [sv0_32] at this
      exact this
  · unfold w_X1_damageSeal
    simp only [isWithin_iff, hc, z10, not_true_eq_false, not_false_eq_true, false_implies, true_implies, true_and, and_true, forall_eq, if_true, if_false, reduceIte]
    rw [c_answer1]
    refine ⟨by unfold oK; decide, ?_⟩
    unfold jx w_X10_breakSeal
    simp only [m_isChamber, hc, z10, not_true_eq_false, not_false_eq_true, false_implies, true_implies, true_and, and_true, forall_eq, if_true, if_false, reduceIte]
    exact h.no1 (fun m8 Q9 => w_X10_breakOn p m8 Q9)
theorem J_deposit (h : Hy a s mc mm K) (x : Int32) : w_X9_deposit x mc (fun r m1 => jq (w_X10_deposit x mm) (K m1) r) (fun k0 m1 => oK [2, 3] k0 ∧ jx (w_X10_deposit x mm) (K m1) (xB k0)) := by
  have hR := h.1.rs
  have hI := h.1.inv
  unfold w_X9_deposit
  by_cases hx : 1 ≤ x ∧ x ≤ 9999
  · refine d_pay hR hI h.sv h.hS x hx (fun hn => ?_) (fun hy m1 m' hm hFr hR' => ?_)
    · rw [c_answer3]
      refine ⟨by unfold oK; decide, ?_⟩
      unfold jx w_X10_deposit
      simp only [w_1_9999, hx, m_canPay, hn, z10, not_true_eq_false, not_false_eq_true, false_implies, true_implies, true_and, and_true, forall_eq, if_true, if_false, reduceIte]
      exact h.no2 (fun m8 Q9 => w_X10_payOn x m8 Q9)
    · rw [c_answer ((pay_r hI hx).2.okA (by have := hI.bnd; omega))]
      unfold jq w_X10_deposit
      simp only [w_1_9999, hx, m_canPay, hy, z10, not_true_eq_false, not_false_eq_true, false_implies, true_implies, true_and, and_true, forall_eq, if_true, if_false, reduceIte]
      refine h.yes (D := fun m8 Q9 => w_X10_payOn x m8 Q9) hm hFr hR' (I_pay hI hx hy h.2.1) bd0 bd1 (fun Q9 => ?_)
      have := m_payOn x (sv0 mm) Q9
      rw [sv0_32, after_eq] at this
      exact this
  · unfold w_X1_payIn
    simp only [isWithin_iff, hx, z10, not_true_eq_false, not_false_eq_true, false_implies, true_implies, true_and, and_true, forall_eq, if_true, if_false, reduceIte]
    rw [c_answer2]
    refine ⟨by unfold oK; decide, ?_⟩
    unfold jx w_X10_deposit
    simp only [w_1_9999, hx, z10, not_true_eq_false, not_false_eq_true, false_implies, true_implies, true_and, and_true, forall_eq, if_true, if_false, reduceIte]
    exact h.no1 (fun m8 Q9 => w_X10_payOn x m8 Q9)
theorem m_setD {j : Nat} {p : Int32} (hj : p.toNatClampNeg = j ∧ vp_in p 246) (x : Int32) (m8 : Mm) (Q9 : Int32 → Mm → Prop) : (vp_in p 246 ∧ (∀ x_4 : Int32, x_4 = (m8.1 32 1 p.toNatClampNeg) → (∀ m_5 : Mm, m_5 = sI m8 32 1 p.toNatClampNeg x → (Q9 x_4 m_5)))) ↔ Q9 (m8.1 32 1 j) (st m8 (up (m8.1 32 1) j x)) := by
  simp only [hj, forall_eq, st_sI, true_and]
theorem J_setBond (h : Hy a s mc mm K) (x : Int32) : w_X9_setBond x mc (fun r m1 => jq (w_X10_setBond x mm) (K m1) r) (fun k0 m1 => oK [2, 3] k0 ∧ jx (w_X10_setBond x mm) (K m1) (xB k0)) := by
  have hR := h.1.rs
  have hI := h.1.inv
  let D : Mm → (Int32 → Mm → Prop) → Prop := fun m8 Q9 => (vp_in 5 246 ∧ (∀ x_4 : Int32, x_4 = (m8.1 32 1 (5 : Int32).toNatClampNeg) → (∀ m_5 : Mm, m_5 = sI m8 32 1 (5 : Int32).toNatClampNeg x → (Q9 x_4 m_5))))
  unfold w_X9_setBond
  by_cases hx : 0 ≤ x ∧ x ≤ 50000
  · refine d_bond hR hI h.sv h.hS x hx (fun hn => ?_) (fun hy m1 m' hm hFr hR' => ?_)
    · rw [c_answer3]
      refine ⟨by unfold oK; decide, ?_⟩
      unfold jx w_X10_setBond
      simp only [w_0_50000, hx, m_stake hI, hn, z10, not_true_eq_false, not_false_eq_true, false_implies, true_implies, true_and, and_true, forall_eq, if_true, if_false, reduceIte]
      exact h.no2 D
    · rw [c_answer (hI.bond.okA (by decide))]
      unfold jq w_X10_setBond
      simp only [w_0_50000, hx, m_stake hI, hy, z10, not_true_eq_false, not_false_eq_true, false_implies, true_implies, true_and, and_true, forall_eq, if_true, if_false, reduceIte]
      refine h.yes (D := D) hm hFr hR' (I_bond hI hx) bd0 bd1 (fun Q9 => ?_)
      have := m_setD (p := 5) (j := 5) ⟨by decide, vp_in_nI (n := 5) (by decide) (by decide)⟩ x (sv0 mm) Q9
      rw [sv0_32] at this
      exact this
  · unfold w_X1_changeBond
    simp only [isWithin_iff, hx, z10, not_true_eq_false, not_false_eq_true, false_implies, true_implies, true_and, and_true, forall_eq, if_true, if_false, reduceIte]
    rw [c_answer2]
    refine ⟨by unfold oK; decide, ?_⟩
    unfold jx w_X10_setBond
    simp only [w_0_50000, hx, z10, not_true_eq_false, not_false_eq_true, false_implies, true_implies, true_and, and_true, forall_eq, if_true, if_false, reduceIte]
    exact h.no1 D
theorem J_setRateByValue (h : Hy a s mc mm K) (k x : Int32) : w_X9_setRateByValue k x mc (fun r m1 => jq (w_X10_setRateByValue k x mm) (K m1) r) (fun k0 m1 => oK [2] k0 ∧ jx (w_X10_setRateByValue k x mm) (K m1) (xB k0)) := by
  have hR := h.1.rs
  have hI := h.1.inv
  let D : Mm → (Int32 → Mm → Prop) → Prop := fun m8 Q9 => (vp_in (20 + k) 246 ∧ (∀ x_4 : Int32, x_4 = (m8.1 32 1 (20 + k).toNatClampNeg) → (∀ m_5 : Mm, m_5 = sI m8 32 1 (20 + k).toNatClampNeg x → (Q9 x_4 m_5))))
  unfold w_X9_setRateByValue
  by_cases hk : 0 ≤ k ∧ k ≤ 5
  · by_cases hx : 0 ≤ x ∧ x ≤ 60
    · obtain ⟨n, hn5, rfl⟩ := (rng_lit 5 (by decide) hk).ex
      have hn6 : n < 6 := by omega
      refine d_rateV hR hI h.sv h.hS hn6 x hx (fun m1 m' hm hFr hR' => ?_)
      rw [c_answer ((hI.kinds n hn6).1.okA (by decide))]
      unfold jq w_X10_setRateByValue w_X10_setRateByValue_J24 w_X10_setRateByValue_J25
      simp only [m_isKind, hk, w_0_60, hx, z10, not_true_eq_false, not_false_eq_true, false_implies, true_implies, true_and, and_true, forall_eq, if_true, if_false, reduceIte]
      refine h.yes (D := D) hm hFr hR' (I_rate hI (k := 20 + n) ⟨by omega, by omega⟩ (fun _ => rng_lit 60 (by decide) hx) (fun _ => absurd ‹26 ≤ 20 + n› (by omega))) bd0 bd1 (fun Q9 => ?_)
      have hj : ((20 : Int32) + nI n).toNatClampNeg = 20 + n ∧ vp_in ((20 : Int32) + nI n) 246 := by
        rw [show (20 : Int32) = nI 20 from rfl, nI_add]
        exact ⟨rs_tn (by omega), vp_in_nI (by omega) (by decide)⟩
      have := m_setD hj x (sv0 mm) Q9
      rw [sv0_32] at this
      exact this
    · unfold w_X1_changeRateByValue
      simp only [isWithin_iff, hk, hx, z10, not_true_eq_false, not_false_eq_true, false_implies, true_implies, true_and, and_true, forall_eq, if_true, if_false, reduceIte]
      rw [c_answer2]
      refine ⟨by unfold oK; decide, ?_⟩
      unfold jx w_X10_setRateByValue w_X10_setRateByValue_J24 w_X10_setRateByValue_J25
      simp only [m_isKind, hk, w_0_60, hx, z10, not_true_eq_false, not_false_eq_true, false_implies, true_implies, true_and, and_true, forall_eq, if_true, if_false, reduceIte]
      exact h.no1 D
  · unfold w_X1_changeRateByValue
    simp only [isWithin_iff, hk, z10, not_true_eq_false, not_false_eq_true, false_implies, true_implies, true_and, and_true, forall_eq, if_true, if_false, reduceIte]
    rw [c_answer2]
    refine ⟨by unfold oK; decide, ?_⟩
    unfold jx w_X10_setRateByValue w_X10_setRateByValue_J24 w_X10_setRateByValue_J25
    simp only [m_isKind, hk, z10, not_true_eq_false, not_false_eq_true, false_implies, true_implies, true_and, and_true, forall_eq, if_true, if_false, reduceIte]
    exact h.no1 D
theorem J_setRateByWeight (h : Hy a s mc mm K) (k x : Int32) : w_X9_setRateByWeight k x mc (fun r m1 => jq (w_X10_setRateByWeight k x mm) (K m1) r) (fun k0 m1 => oK [2] k0 ∧ jx (w_X10_setRateByWeight k x mm) (K m1) (xB k0)) := by
  have hR := h.1.rs
  have hI := h.1.inv
  let D : Mm → (Int32 → Mm → Prop) → Prop := fun m8 Q9 => (vp_in (26 + k) 246 ∧ (∀ x_4 : Int32, x_4 = (m8.1 32 1 (26 + k).toNatClampNeg) → (∀ m_5 : Mm, m_5 = sI m8 32 1 (26 + k).toNatClampNeg x → (Q9 x_4 m_5))))
  unfold w_X9_setRateByWeight
  by_cases hk : 0 ≤ k ∧ k ≤ 5
  · by_cases hx : 0 ≤ x ∧ x ≤ 80
    · obtain ⟨n, hn5, rfl⟩ := (rng_lit 5 (by decide) hk).ex
      have hn6 : n < 6 := by omega
      refine d_rateW hR hI h.sv h.hS hn6 x hx (fun m1 m' hm hFr hR' => ?_)
      rw [c_answer ((hI.kinds n hn6).2.okA (by decide))]
      unfold jq w_X10_setRateByWeight w_X10_setRateByWeight_J24 w_X10_setRateByWeight_J25
      simp only [m_isKind, hk, w_0_80, hx, z10, not_true_eq_false, not_false_eq_true, false_implies, true_implies, true_and, and_true, forall_eq, if_true, if_false, reduceIte]
      refine h.yes (D := D) hm hFr hR' (I_rate hI (k := 26 + n) ⟨by omega, by omega⟩ (fun _ => absurd ‹26 + n < 26› (by omega)) (fun _ => rng_lit 80 (by decide) hx)) bd0 bd1 (fun Q9 => ?_)
      have hj : ((26 : Int32) + nI n).toNatClampNeg = 26 + n ∧ vp_in ((26 : Int32) + nI n) 246 := by
        rw [show (26 : Int32) = nI 26 from rfl, nI_add]
        exact ⟨rs_tn (by omega), vp_in_nI (by omega) (by decide)⟩
      have := m_setD hj x (sv0 mm) Q9
      rw [sv0_32] at this
      exact this
    · unfold w_X1_changeRateByWeight
      simp only [isWithin_iff, hk, hx, z10, not_true_eq_false, not_false_eq_true, false_implies, true_implies, true_and, and_true, forall_eq, if_true, if_false, reduceIte]
      rw [c_answer2]
      refine ⟨by unfold oK; decide, ?_⟩
      unfold jx w_X10_setRateByWeight w_X10_setRateByWeight_J24 w_X10_setRateByWeight_J25
      simp only [m_isKind, hk, w_0_80, hx, z10, not_true_eq_false, not_false_eq_true, false_implies, true_implies, true_and, and_true, forall_eq, if_true, if_false, reduceIte]
      exact h.no1 D
  · unfold w_X1_changeRateByWeight
    simp only [isWithin_iff, hk, z10, not_true_eq_false, not_false_eq_true, false_implies, true_implies, true_and, and_true, forall_eq, if_true, if_false, reduceIte]
    rw [c_answer2]
    refine ⟨by unfold oK; decide, ?_⟩
    unfold jx w_X10_setRateByWeight w_X10_setRateByWeight_J24 w_X10_setRateByWeight_J25
    simp only [m_isKind, hk, z10, not_true_eq_false, not_false_eq_true, false_implies, true_implies, true_and, and_true, forall_eq, if_true, if_false, reduceIte]
    exact h.no1 D
theorem J_pass (h : Hy a s mc mm K) (x : Int32) : w_X9_pass x mc (fun r m1 => jq (w_X10_pass x mm) (K m1) r) (fun k0 m1 => oK [2, 3] k0 ∧ jx (w_X10_pass x mm) (K m1) (xB k0)) := by
  have hR := h.1.rs
  have hI := h.1.inv
  unfold w_X9_pass
  by_cases hx : 1 ≤ x ∧ x ≤ 100
  · refine d_pass hR hI h.sv h.hS x hx (fun hn => ?_) (fun hy m1 m' hm hFr hR' => ?_)
    · rw [c_answer3]
      refine ⟨by unfold oK; decide, ?_⟩
      unfold jx w_X10_pass
      simp only [w_1_100, hx, hn, z10, not_true_eq_false, not_false_eq_true, false_implies, true_implies, true_and, and_true, forall_eq, if_true, if_false, reduceIte]
      exact h.no2 (fun m8 Q9 => w_X10_passOn x m8 Q9)
    · rw [c_answer ((psF_r hI x).okA (by decide))]
      unfold jq w_X10_pass
      simp only [w_1_100, hx, hy, z10, not_true_eq_false, not_false_eq_true, false_implies, true_implies, true_and, and_true, forall_eq, if_true, if_false, reduceIte]
      refine h.yes (D := fun m8 Q9 => w_X10_passOn x m8 Q9) hm hFr hR' (I_pass hI hx hy) bd0 bd1 (fun Q9 => ?_)
      have := m_passOn h.I0 x Q9
      rw [sv0_32] at this
      exact this
  · unfold w_X1_letPass
    simp only [isWithin_iff, hx, z10, not_true_eq_false, not_false_eq_true, false_implies, true_implies, true_and, and_true, forall_eq, if_true, if_false, reduceIte]
    rw [c_answer2]
    refine ⟨by unfold oK; decide, ?_⟩
    unfold jx w_X10_pass
    simp only [w_1_100, hx, z10, not_true_eq_false, not_false_eq_true, false_implies, true_implies, true_and, and_true, forall_eq, if_true, if_false, reduceIte]
    exact h.no1 (fun m8 Q9 => w_X10_passOn x m8 Q9)
end SEM25
