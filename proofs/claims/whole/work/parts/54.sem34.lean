section SEM34
variable {m M : Mm} {T : Nat → Int32} {p n k F a s : Nat} {Q : Int32 → Mm → Prop}
theorem isB_0 {Qm : Int32 → Mm → Prop} {M' : Mm} (h : Qm 0 M') : isB 0 ∧ Qm 0 M' := ⟨isB0, h⟩
theorem isB_1 {Qm : Int32 → Mm → Prop} {M' : Mm} (h : Qm 1 M') : isB 1 ∧ Qm 1 M' := ⟨isB1, h⟩
theorem E_119 {f : Nat → Int32} (hR : RS m 1 f) (hI : Inv a s f) (ha : 99999 ≤ a) (hb : s + 1 < 1000000) (h5 : m.1 12 1 5 = 1) {q w : Nat} (hw : 1 ≤ w ∧ w ≤ 999) (hOK : Ok a s m f [q, w] 119 Q) (hNO : No m f [q, w] 119 Q) : w_X1_takeIntoCountry (nI q) (nI w) m Q := by
  have hsv : ∀ Q' : Mm → Prop, (∀ m1, m1 = m → Q' m1) → w_X3_save 1 m Q' := fun Q' hQ => sv_paused h5 Q' (hQ m rfl)
  have hS : ∀ m1, m1 = m → RS m1 1 f ∧ m1.2 = m.2 := fun m1 e => by rw [e]; exact ⟨hR, rfl⟩
  have hw' : (1 : Int32) ≤ nI w ∧ nI w ≤ 999 := ⟨(le9 (c := 1) (by omega) (by decide)).mpr hw.1, (le9 (v := 999) (by decide) (by omega)).mpr hw.2⟩
  by_cases hF : fiE f (nI q) < mo f
  · have h6 : fiE f (nI q) < 16 := Nat.lt_of_lt_of_le hF hI.mo16
    have hm1 : ¬ nI (fiE f (nI q)) = (-1) := nI_nm1 (by omega)
    refine d_withdraw hR hI hsv hS (nI q) (nI w) hF hw' (fun hn => hNO (-3) neg3 (fun M hM32 hcv Qm hQ => ?_)) (fun hy m1 m' e hFr hR' => ?_)
    · subst hM32
      obtain ⟨h11, h12⟩ : M.1 30 1 11 = nI q ∧ M.1 30 1 12 = nI w := hcv
      unfold w_X10_does w_X10_doesEntry
      simp (decide := true) only [h11, h12, m_find hI, hF, hm1, m_whyW hI hF, hn, not_true_eq_false, not_false_eq_true, false_implies, true_implies, true_and, and_true, forall_eq, if_true, if_false, reduceIte]
      exact isB_0 hQ
    · subst e
      have hle : nI w ≤ en f (fiE f (nI q)) 2 := (whyL0 (whyW0 hy).1).2.2
      have hwr : rng (nI w) (en f (fiE f (nI q)) 2).toNatClampNeg := rng_le (hI.ent _ hF).2.1 (by decide) (one_le hw'.1) hle
      have hr := not_neg (dutyP_r hI hF hwr) (by decide)
      refine hOK _ m' _ hr.1 hFr hR' ((I_withdraw hI hF hwr (whyW0 hy).2).s1 hb) (fun M hM32 hcv Qm hQ => ?_)
      subst hM32
      obtain ⟨h11, h12⟩ : M.1 30 1 11 = nI q ∧ M.1 30 1 12 = nI w := hcv
      unfold w_X10_does w_X10_doesEntry
      simp (decide := true) only [h11, h12, m_find hI, hF, hm1, m_whyW hI hF, hy, not_true_eq_false, not_false_eq_true, false_implies, true_implies, true_and, and_true, forall_eq, if_true, if_false, reduceIte]
      rw [m_withdrawOn hI hF]
      exact ⟨fun z => absurd z hr.2, fun _ => isB_1 hQ⟩
  · unfold w_X1_takeIntoCountry
    simp only [c_findEntry hR hI i1, hF, z10, not_true_eq_false, not_false_eq_true, false_implies, true_implies, true_and, and_true, forall_eq, if_true, if_false, reduceIte]
    refine hNO (-1) neg1 (fun M hM32 hcv Qm hQ => ?_)
    subst hM32
    obtain ⟨h11, h12⟩ : M.1 30 1 11 = nI q ∧ M.1 30 1 12 = nI w := hcv
    unfold w_X10_does w_X10_doesEntry
    simp (decide := true) only [h11, h12, m_find hI, hF, not_true_eq_false, not_false_eq_true, false_implies, true_implies, true_and, and_true, forall_eq, if_true, if_false, reduceIte]
    exact isB_0 hQ
theorem E_120 {f : Nat → Int32} (hR : RS m 1 f) (hI : Inv a s f) (ha : 99999 ≤ a) (hb : s + 1 < 1000000) (h5 : m.1 12 1 5 = 1) {q w : Nat} (hw : 1 ≤ w ∧ w ≤ 999) (hOK : Ok a s m f [q, w] 120 Q) (hNO : No m f [q, w] 120 Q) : w_X1_takeAbroad (nI q) (nI w) m Q := by
  have hsv : ∀ Q' : Mm → Prop, (∀ m1, m1 = m → Q' m1) → w_X3_save 1 m Q' := fun Q' hQ => sv_paused h5 Q' (hQ m rfl)
  have hS : ∀ m1, m1 = m → RS m1 1 f ∧ m1.2 = m.2 := fun m1 e => by rw [e]; exact ⟨hR, rfl⟩
  have hw' : (1 : Int32) ≤ nI w ∧ nI w ≤ 999 := ⟨(le9 (c := 1) (by omega) (by decide)).mpr hw.1, (le9 (v := 999) (by decide) (by omega)).mpr hw.2⟩
  by_cases hF : fiE f (nI q) < mo f
  · have h6 : fiE f (nI q) < 16 := Nat.lt_of_lt_of_le hF hI.mo16
    have hm1 : ¬ nI (fiE f (nI q)) = (-1) := nI_nm1 (by omega)
    refine d_send hR hI hsv hS (nI q) (nI w) hF hw' (fun hn => hNO (-3) neg3 (fun M hM32 hcv Qm hQ => ?_)) (fun hy m1 m' e hFr hR' => ?_)
    · subst hM32
      obtain ⟨h11, h12⟩ : M.1 30 1 11 = nI q ∧ M.1 30 1 12 = nI w := hcv
      unfold w_X10_does w_X10_doesEntry
      simp (decide := true) only [h11, h12, m_find hI, hF, hm1, m_whyX hI hF, hn, not_true_eq_false, not_false_eq_true, false_implies, true_implies, true_and, and_true, forall_eq, if_true, if_false, reduceIte]
      exact isB_0 hQ
    · subst e
      have hle : nI w ≤ en f (fiE f (nI q)) 2 := (whyL0 (whyX0 hy).1).2.2
      have hwr : rng (nI w) (en f (fiE f (nI q)) 2).toNatClampNeg := rng_le (hI.ent _ hF).2.1 (by decide) (one_le hw'.1) hle
      have hr := not_neg ((sub_r (hI.ent _ hF).2.1 (by decide) hwr).1) (by decide)
      refine hOK _ m' _ hr.1 hFr hR' ((I_send hI hF hwr).s1 hb) (fun M hM32 hcv Qm hQ => ?_)
      subst hM32
      obtain ⟨h11, h12⟩ : M.1 30 1 11 = nI q ∧ M.1 30 1 12 = nI w := hcv
      unfold w_X10_does w_X10_doesEntry
      simp (decide := true) only [h11, h12, m_find hI, hF, hm1, m_whyX hI hF, hy, not_true_eq_false, not_false_eq_true, false_implies, true_implies, true_and, and_true, forall_eq, if_true, if_false, reduceIte]
      rw [m_sendOn hI hF]
      exact ⟨fun z => absurd z hr.2, fun _ => isB_1 hQ⟩
  · unfold w_X1_takeAbroad
    simp only [c_findEntry hR hI i1, hF, z10, not_true_eq_false, not_false_eq_true, false_implies, true_implies, true_and, and_true, forall_eq, if_true, if_false, reduceIte]
    refine hNO (-1) neg1 (fun M hM32 hcv Qm hQ => ?_)
    subst hM32
    obtain ⟨h11, h12⟩ : M.1 30 1 11 = nI q ∧ M.1 30 1 12 = nI w := hcv
    unfold w_X10_does w_X10_doesEntry
    simp (decide := true) only [h11, h12, m_find hI, hF, not_true_eq_false, not_false_eq_true, false_implies, true_implies, true_and, and_true, forall_eq, if_true, if_false, reduceIte]
    exact isB_0 hQ
theorem E_103 {f : Nat → Int32} (hR : RS m 1 f) (hI : Inv a s f) (ha : 99999 ≤ a) (hb : s + 1 < 1000000) (h5 : m.1 12 1 5 = 1) {q w : Nat} (hw : w ≤ 999) (hOK : Ok a s m f [q, w] 103 Q) (hNO : No m f [q, w] 103 Q) : w_X1_putOnScales (nI q) (nI w) m Q := by
  have hsv : ∀ Q' : Mm → Prop, (∀ m1, m1 = m → Q' m1) → w_X3_save 1 m Q' := fun Q' hQ => sv_paused h5 Q' (hQ m rfl)
  have hS : ∀ m1, m1 = m → RS m1 1 f ∧ m1.2 = m.2 := fun m1 e => by rw [e]; exact ⟨hR, rfl⟩
  by_cases hF : fiE (f) (nI q) < mo (f)
  · have h6 : fiE (f) (nI q) < 16 := Nat.lt_of_lt_of_le hF hI.mo16
    have hE := hI.ent _ hF
    have hm1 : ¬ nI (fiE (f) (nI q)) = (-1) := nI_nm1 (by omega)
    by_cases hle : nI w ≤ en (f) (fiE (f) (nI q)) 2
    · have hw' : (0 : Int32) ≤ nI w ∧ nI w ≤ en (f) (fiE (f) (nI q)) 2 := ⟨nI_pos' (by omega), hle⟩
      have hnl : ¬ en (f) (fiE (f) (nI q)) 2 < nI w := Int32.not_lt.mpr hle
      have hwr : rng (nI w) (en (f) (fiE (f) (nI q)) 2).toNatClampNeg := rng_le hE.2.1 (by decide) hw'.1 hle
      refine d_weigh hR hI hsv hS (nI q) (nI w) hF hw' (fun hn => hNO (-3) neg3 (fun M hM32 hcv Qm hQ => ?_)) (fun hy m1 m' e hFr hR' => ?_)
      · subst hM32
        obtain ⟨h11, h12⟩ : M.1 30 1 11 = nI q ∧ M.1 30 1 12 = nI w := hcv
        unfold w_X10_does w_X10_doesEntry
        simp (decide := true) only [h11, h12, m_find hI, hF, hm1, m_of2 h6, m_of4 h6, hnl, shut_e hE, hn, not_true_eq_false, not_false_eq_true, false_implies, true_implies, true_and, and_true, forall_eq, if_true, if_false, reduceIte]
        exact isB_0 hQ
      · subst e
        have hgo := sub_r hE.2.1 (by decide) hwr
        have hgw : rng (en (f) (fiE (f) (nI q)) 2 - nI w) (en (f) (fiE (f) (nI q)) 2).toNatClampNeg := ⟨hgo.1.1, by rw [hgo.2]; omega⟩
        have hL := loss_rng hI hF hwr
        have hC := charge_r hI hF hgw (L := lossF (f) (fiE (f) (nI q)) (nI w)) (by rw [hgo.2]; exact hL)
        have hr := not_neg hC.1 (by decide)
        refine hOK _ m' _ hr.1 hFr hR' ((I_weigh hI hF hwr).s1 hb) (fun M hM32 hcv Qm hQ => ?_)
        subst hM32
        obtain ⟨h11, h12⟩ : M.1 30 1 11 = nI q ∧ M.1 30 1 12 = nI w := hcv
        unfold w_X10_does w_X10_doesEntry
        simp (decide := true) only [h11, h12, m_find hI, hF, hm1, m_of2 h6, m_of4 h6, hnl, shut_e hE, hy, not_true_eq_false, not_false_eq_true, false_implies, true_implies, true_and, and_true, forall_eq, if_true, if_false, reduceIte]
        rw [m_weighOn hI hF hwr]
        exact ⟨fun z => absurd z hr.2, fun _ => isB_1 hQ⟩
    · have hw' : ¬ ((0 : Int32) ≤ nI w ∧ nI w ≤ en (f) (fiE (f) (nI q)) 2) := fun z => hle z.2
      have hl : en (f) (fiE (f) (nI q)) 2 < nI w := Int32.not_le.mp hle
      unfold w_X1_putOnScales
      simp only [c_findEntry hR hI i1, hF, hR.ne0 h6, hR.oke i1 h6, isWithin_iff, hR.e2 hF, hw', z10, not_true_eq_false, not_false_eq_true, false_implies, true_implies, true_and, and_true, forall_eq, if_true, if_false, reduceIte]
      refine hNO (-2) (by decide) (fun M hM32 hcv Qm hQ => ?_)
      subst hM32
      obtain ⟨h11, h12⟩ : M.1 30 1 11 = nI q ∧ M.1 30 1 12 = nI w := hcv
      unfold w_X10_does w_X10_doesEntry
      simp (decide := true) only [h11, h12, m_find hI, hF, hm1, m_of2 h6, hl, not_true_eq_false, not_false_eq_true, false_implies, true_implies, true_and, and_true, forall_eq, if_true, if_false, reduceIte]
      exact isB_0 hQ
  · unfold w_X1_putOnScales
    simp only [c_findEntry hR hI i1, hF, z10, not_true_eq_false, not_false_eq_true, false_implies, true_implies, true_and, and_true, forall_eq, if_true, if_false, reduceIte]
    refine hNO (-1) neg1 (fun M hM32 hcv Qm hQ => ?_)
    subst hM32
    obtain ⟨h11, h12⟩ : M.1 30 1 11 = nI q ∧ M.1 30 1 12 = nI w := hcv
    unfold w_X10_does w_X10_doesEntry
    simp (decide := true) only [h11, h12, m_find hI, hF, not_true_eq_false, not_false_eq_true, false_implies, true_implies, true_and, and_true, forall_eq, if_true, if_false, reduceIte]
    exact isB_0 hQ
theorem E_109 {f : Nat → Int32} (hR : RS m 1 f) (hI : Inv a s f) (ha : 99999 ≤ a) (hb : s + 1 < 1000000) (h5 : m.1 12 1 5 = 1) {q c : Nat} (hc : c < 5) (hOK : Ok a s m f [q, c] 109 Q) (hNO : No m f [q, c] 109 Q) : w_X1_carryOver (nI q) (nI c) m Q := by
  have hsv : ∀ Q' : Mm → Prop, (∀ m1, m1 = m → Q' m1) → w_X3_save 1 m Q' := fun Q' hQ => sv_paused h5 Q' (hQ m rfl)
  have hS : ∀ m1, m1 = m → RS m1 1 f ∧ m1.2 = m.2 := fun m1 e => by rw [e]; exact ⟨hR, rfl⟩
  by_cases hF : fiE (f) (nI q) < mo (f)
  · have h6 : fiE (f) (nI q) < 16 := Nat.lt_of_lt_of_le hF hI.mo16
    have hm1 : ¬ nI (fiE (f) (nI q)) = (-1) := nI_nm1 (by omega)
    refine d_move hR hI hsv hS (nI q) c hF hc (fun hn => hNO (-3) neg3 (fun M hM32 hcv Qm hQ => ?_)) (fun hy m1 m' e hFr hR' => ?_)
    · subst hM32
      obtain ⟨h11, h12⟩ : M.1 30 1 11 = nI q ∧ M.1 30 1 12 = nI c := hcv
      unfold w_X10_does w_X10_doesEntry
      simp (decide := true) only [h11, h12, m_find hI, hF, hm1, m_whyM hI hF hc, hn, not_true_eq_false, not_false_eq_true, false_implies, true_implies, true_and, and_true, forall_eq, if_true, if_false, reduceIte]
      exact isB_0 hQ
    · subst e
      have hr := not_neg (move_r hI hF hy) (by decide)
      refine hOK _ m' _ hr.1 hFr hR' ((I_move hI hc).s1 hb) (fun M hM32 hcv Qm hQ => ?_)
      subst hM32
      obtain ⟨h11, h12⟩ : M.1 30 1 11 = nI q ∧ M.1 30 1 12 = nI c := hcv
      unfold w_X10_does w_X10_doesEntry
      simp (decide := true) only [h11, h12, m_find hI, hF, hm1, m_whyM hI hF hc, hy, not_true_eq_false, not_false_eq_true, false_implies, true_implies, true_and, and_true, forall_eq, if_true, if_false, reduceIte]
      rw [m_moveOn hI hF]
      exact ⟨fun z => absurd z hr.2, fun _ => isB_1 hQ⟩
  · unfold w_X1_carryOver
    simp only [c_findEntry hR hI i1, hF, z10, not_true_eq_false, not_false_eq_true, false_implies, true_implies, true_and, and_true, forall_eq, if_true, if_false, reduceIte]
    refine hNO (-1) neg1 (fun M hM32 hcv Qm hQ => ?_)
    subst hM32
    obtain ⟨h11, h12⟩ : M.1 30 1 11 = nI q ∧ M.1 30 1 12 = nI c := hcv
    unfold w_X10_does w_X10_doesEntry
    simp (decide := true) only [h11, h12, m_find hI, hF, not_true_eq_false, not_false_eq_true, false_implies, true_implies, true_and, and_true, forall_eq, if_true, if_false, reduceIte]
    exact isB_0 hQ
theorem len1 {l : List Nat} (h : l.length = 1) : ∃ x, l = [x] := List.length_eq_one_iff.mp h
theorem len2 {l : List Nat} (h : l.length = 2) : ∃ x y, l = [x, y] := by
  rcases l with _ | ⟨x, l⟩
  · cases h
  · obtain ⟨y, rfl⟩ := len1 (l := l) (by simpa using h)
    exact ⟨x, y, rfl⟩
theorem len4 {l : List Nat} (h : l.length = 4) : ∃ x y z w, l = [x, y, z, w] := by
  rcases l with _ | ⟨x, _ | ⟨y, l⟩⟩
  · cases h
  · cases h
  · obtain ⟨z, w, rfl⟩ := len2 (l := l) (by simpa using h)
    exact ⟨x, y, z, w, rfl⟩
/-- every line -/
theorem E_run {f : Nat → Int32} (hR : RS m 1 f) (hI : Inv a s f) (ha : 99999 ≤ a) (hb : s + 1 < 1000000) (h5 : m.1 12 1 5 = 1) (L : Int32) (hL : ¬ fm L = 0) (vs : List Nat) (hlen : vs.length = (lts L).length) (hbd : ∀ j, j < (lts L).length → (bd ((lts L).getD j 8)).1 ≤ vs.getD j 0 ∧ vs.getD j 0 ≤ (bd ((lts L).getD j 8)).2) (h19 : ∀ j, j < (lts L).length → m.1 19 1 j = nI (vs.getD j 0)) (hOK : Ok a s m f vs L Q) (hNO : No m f vs L Q) : w_X1_carryOutLine L m Q := by
  rcases lt_cases L with h | h | h | h | h | h | h | h | h | h | h
  · subst h
    obtain ⟨v, rfl⟩ := len1 hlen
    have b0 := hbd 0 (by decide)
    have e0 : m.1 19 1 0 = nI v := h19 0 (by decide)
    unfold w_X1_carryOutLine
    simp (decide := true) only [e0, not_true_eq_false, not_false_eq_true, false_implies, true_implies, true_and, and_true, forall_eq, if_true, if_false, reduceIte]
    exact E_98 hR hI ha hb h5 (Nat.lt_succ_of_le b0.2) hOK hNO
  · subst h
    obtain ⟨v, rfl⟩ := len1 hlen
    have b0 := hbd 0 (by decide)
    have e0 : m.1 19 1 0 = nI v := h19 0 (by decide)
    unfold w_X1_carryOutLine
    simp (decide := true) only [e0, not_true_eq_false, not_false_eq_true, false_implies, true_implies, true_and, and_true, forall_eq, if_true, if_false, reduceIte]
    exact E_100 hR hI ha hb h5 (b0) hOK hNO
  · subst h
    obtain ⟨k, w, v, c, rfl⟩ := len4 hlen
    have b0 := hbd 0 (by decide)
    have b1 := hbd 1 (by decide)
    have b2 := hbd 2 (by decide)
    have b3 := hbd 3 (by decide)
    have e0 : m.1 19 1 0 = nI k := h19 0 (by decide)
    have e1 : m.1 19 1 1 = nI w := h19 1 (by decide)
    have e2 : m.1 19 1 2 = nI v := h19 2 (by decide)
    have e3 : m.1 19 1 3 = nI c := h19 3 (by decide)
    unfold w_X1_carryOutLine
    simp (decide := true) only [e0, e1, e2, e3, not_true_eq_false, not_false_eq_true, false_implies, true_implies, true_and, and_true, forall_eq, if_true, if_false, reduceIte]
    exact E_101 hR hI ha hb h5 (Nat.lt_succ_of_le b0.2) b1 b2 (Nat.lt_succ_of_le b3.2) hOK hNO
  · subst h
    obtain ⟨q, w, rfl⟩ := len2 hlen
    have b1 := hbd 1 (by decide)
    have e0 : m.1 19 1 0 = nI q := h19 0 (by decide)
    have e1 : m.1 19 1 1 = nI w := h19 1 (by decide)
    unfold w_X1_carryOutLine
    simp (decide := true) only [e0, e1, not_true_eq_false, not_false_eq_true, false_implies, true_implies, true_and, and_true, forall_eq, if_true, if_false, reduceIte]
    exact E_103 hR hI ha hb h5 b1.2 hOK hNO
  · subst h
    obtain ⟨v, rfl⟩ := len1 hlen
    have b0 := hbd 0 (by decide)
    have e0 : m.1 19 1 0 = nI v := h19 0 (by decide)
    unfold w_X1_carryOutLine
    simp (decide := true) only [e0, not_true_eq_false, not_false_eq_true, false_implies, true_implies, true_and, and_true, forall_eq, if_true, if_false, reduceIte]
    exact E_108 hR hI ha hb h5 (Nat.lt_succ_of_le b0.2) hOK hNO
  · subst h
    obtain ⟨q, w, rfl⟩ := len2 hlen
    have b1 := hbd 1 (by decide)
    have e0 : m.1 19 1 0 = nI q := h19 0 (by decide)
    have e1 : m.1 19 1 1 = nI w := h19 1 (by decide)
    unfold w_X1_carryOutLine
    simp (decide := true) only [e0, e1, not_true_eq_false, not_false_eq_true, false_implies, true_implies, true_and, and_true, forall_eq, if_true, if_false, reduceIte]
    exact E_109 hR hI ha hb h5 (Nat.lt_succ_of_le b1.2) hOK hNO
  · subst h
    obtain ⟨v, rfl⟩ := len1 hlen
    have b0 := hbd 0 (by decide)
    have e0 : m.1 19 1 0 = nI v := h19 0 (by decide)
    unfold w_X1_carryOutLine
    simp (decide := true) only [e0, not_true_eq_false, not_false_eq_true, false_implies, true_implies, true_and, and_true, forall_eq, if_true, if_false, reduceIte]
    exact E_111 hR hI ha hb h5 (Nat.lt_succ_of_le b0.2) hOK hNO
  · subst h
    obtain ⟨v, rfl⟩ := len1 hlen
    have b0 := hbd 0 (by decide)
    have e0 : m.1 19 1 0 = nI v := h19 0 (by decide)
    unfold w_X1_carryOutLine
    simp (decide := true) only [e0, not_true_eq_false, not_false_eq_true, false_implies, true_implies, true_and, and_true, forall_eq, if_true, if_false, reduceIte]
    exact E_116 hR hI ha hb h5 (b0) hOK hNO
  · subst h
    obtain ⟨q, w, rfl⟩ := len2 hlen
    have b1 := hbd 1 (by decide)
    have e0 : m.1 19 1 0 = nI q := h19 0 (by decide)
    have e1 : m.1 19 1 1 = nI w := h19 1 (by decide)
    unfold w_X1_carryOutLine
    simp (decide := true) only [e0, e1, not_true_eq_false, not_false_eq_true, false_implies, true_implies, true_and, and_true, forall_eq, if_true, if_false, reduceIte]
    exact E_119 hR hI ha hb h5 b1 hOK hNO
  · subst h
    obtain ⟨q, w, rfl⟩ := len2 hlen
    have b1 := hbd 1 (by decide)
    have e0 : m.1 19 1 0 = nI q := h19 0 (by decide)
    have e1 : m.1 19 1 1 = nI w := h19 1 (by decide)
    unfold w_X1_carryOutLine
    simp (decide := true) only [e0, e1, not_true_eq_false, not_false_eq_true, false_implies, true_implies, true_and, and_true, forall_eq, if_true, if_false, reduceIte]
    exact E_120 hR hI ha hb h5 b1 hOK hNO
  · exact absurd h.1 hL
end SEM34
