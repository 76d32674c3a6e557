section SEM12
variable {m m' : Mm} {i a s : Nat} {f : Nat → Int32} {S : Mm → Prop} {Q : Int32 → Mm → Prop}
theorem partG_lo (f : Nat → Int32) {e : Nat} (w : Int32) {k : Nat} (h : k < 118) : partG f e w k = f k := by
  unfold partG
  rw [up_ne _ _ (by omega), up_ne _ _ (by omega)]
theorem sub_le0 {W w : Int32} (hW : rng W 999) (hw : rng w W.toNatClampNeg) : (W - w ≤ 0) ↔ W - w = 0 := by
  have h1 := hW.2
  have h2 := hw.2
  rw [hW.1, hw.1, pk_sub h2]
  generalize W.toNatClampNeg = x at *
  generalize w.toNatClampNeg = y at *
  rw [show (0 : Int32) = nI 0 from rfl, nI_leI (by omega) (by decide), nI_eq (by omega) (by decide)]
  omega
/-- a part is gone, and the entry with it if nothing is left -/
theorem c_goes (hR : RS m 1 f) (h12 : mr f ≤ 12) (ho : rng (f 117) 16) {e : Nat} (he : e < mo f) (hW : rng (en f e 2) 999) (h0 : 0 < en f e 2) {w : Int32} (hw : rng w (en f e 2).toNatClampNeg) (Q : Mm → Prop) (hq : ∀ m', Fr 1 m m' → m'.1 3 (m.2 7 1 e) 2 = en f e 2 - w → RS m' 1 (goesF f e w) → Q m') : w_X2_losePart (m.2 7 1 e) w m (fun m2 => w_X8_closeIfEmpty 1 (m.2 7 1 e) m2 (fun m3 => Q m3)) := by
  refine c_losePart hR h12 ho.2 he h0 (by decide) w _ (fun m2 e2 hF hR2 => ?_)
  have h117 : partG f e w 117 = f 117 := partG_lo f w (by decide)
  have hmo : mo (partG f e w) = mo f := by unfold mo; rw [h117]
  have hmr : mr (partG f e w) = mr f := by unfold mr; rw [partG_lo f w (by decide)]
  have hen : en (partG f e w) e 2 = en f e 2 - w := en_up_e _ _ _ _
  have hrd : m2.1 3 (m.2 7 1 e) 2 = en f e 2 - w := by
    have := hR2.e2 (e := e) (by rw [hmo]; exact he)
    rw [e2, hen] at this
    exact this
  have hc := c_closeIfEmpty hR2 (by rw [hmr]; exact h12) (by rw [h117]; exact ho) i1 (e := e) (by rw [hmo]; exact he) Q
  rw [e2, hen] at hc
  refine hc (fun hz m3 e3 hF3 hR3 => hq m3 (hF.trans hF3) (by rw [e3]; exact hrd) ?_) (fun hz => hq m2 hF hrd ?_)
  · unfold goesF
    rw [if_pos ((sub_le0 hW hw).mp hz)]
    exact hR3
  · unfold goesF
    rw [if_neg (fun z => hz ((sub_le0 hW hw).mpr z))]
    exact hR2
theorem whyL0 {e : Nat} {w : Int32} (h : whyL f e w = 0) : f 4 ≤ 0 ∧ ¬ en f e 7 = 0 ∧ w ≤ en f e 2 := by
  unfold whyL at h
  split at h
  · split at h
    · split at h
      · exact absurd h (by decide)
      · split at h
        · exact ⟨by assumption, by assumption, by assumption⟩
        · exact absurd h (by decide)
    · exact absurd h (by decide)
  · exact absurd h (by decide)
theorem whyW0 {e : Nat} {w : Int32} (h : whyW f e w = 0) : whyL f e w = 0 ∧ dutyPF f e w ≤ f 3 := by
  unfold whyW at h
  split at h
  · split at h
    · exact ⟨by assumption, by assumption⟩
    · exact absurd h (by decide)
  · rename_i h2; exact absurd h h2
theorem whyX0 {e : Nat} {w : Int32} (h : whyX f e w = 0) : whyL f e w = 0 ∧ en f e 5 ≤ 200 := by
  unfold whyX at h
  split at h
  · split at h
    · exact ⟨by assumption, by assumption⟩
    · exact absurd h (by decide)
  · rename_i h2; exact absurd h h2
theorem EI.p {e : Nat} (h : EI f e) : 0 < en f e 2 := by
  rw [h.2.1.1, show (0 : Int32) = nI 0 from rfl]
  have h2 := h.2.1.2
  have h3 := h.2.2.1
  exact nI_lt (by omega) (by omega)
theorem one_le {w : Int32} (h : 1 ≤ w) : 0 ≤ w := Int32.le_trans (by decide) h
theorem d_withdraw (hR : RS m 1 f) (hI : Inv a s f) (hsv : ∀ Q' : Mm → Prop, (∀ m1, S m1 → Q' m1) → w_X3_save 1 m Q') (hS : ∀ m1, S m1 → RS m1 1 f ∧ m1.2 = m.2) (p w : Int32) (he : fiE f p < mo f) (hw : 1 ≤ w ∧ w ≤ 999)
    (h3 : ¬ whyW f (fiE f p) w = 0 → Q (-3) m) (h0 : whyW f (fiE f p) w = 0 → ∀ m1 m', S m1 → Fr 1 m1 m' → RS m' 1 (withdrawF f (fiE f p) w) → Q (dutyPF f (fiE f p) w) m') : w_X1_takeIntoCountry p w m Q := by
  have h6 : fiE f p < 16 := Nat.lt_of_lt_of_le he hI.mo16
  have hE := hI.ent _ he
  unfold w_X1_takeIntoCountry
  simp only [c_findEntry hR hI i1, he, isWithin_iff, hw, hR.ne0 h6, hR.oke i1 h6, c_whyW hR hI he, z10, not_true_eq_false, not_false_eq_true, false_implies, true_implies, true_and, and_true, if_true, if_false, reduceIte]
  refine ⟨fun hy => ?_, h3⟩
  have h0 := h0 hy
  refine hsv _ (fun m12 h12 => ?_)
  obtain ⟨hR12, e12⟩ := hS m12 h12
  have h0 := fun m' => h0 m12 m' h12
  rw [← e12]
  have hwle := (whyL0 (whyW0 hy).1).2.2
  have hwr : rng w (en f (fiE f p) 2).toNatClampNeg := rng_le hE.2.1 (by decide) (one_le hw.1) hwle
  generalize fiE f p = e at *
  simp only [c_dutyNow hR12 hI he]
  unfold w_X6_takeDuty
  rw [hR12.acct]
  intro m14 e14 m15 e15
  have a15 : m14.1 2 1 4 = f 7 := by rw [e14]; exact hR12.duts
  rw [a15] at e15
  have g1 := hR12.pm hI.mr12 (q := 1) (by decide) (f 3 - dutyPF f e w)
  have g2 := g1.pm (by rw [mr_up _ _ (by decide)]; exact hI.mr12) (q := 4) (by decide) (f 7 + dutyPF f e w)
  rw [← e14, ← e15] at g2
  have g2 : RS m15 1 (up (up f 3 (f 3 - dutyPF f e w)) 7 (f 7 + dutyPF f e w)) := g2
  have hF15 : Fr 1 m12 m15 := by rw [e15, e14]; exact (Fr.sI _ _ _ (own2 1)).trans (Fr.sI _ _ _ (own2 1))
  have p15 : m15.2 = m12.2 := by rw [e15, e14]; rfl
  have q15 : m15.1 3 = m12.1 3 := by rw [e15, e14]; rfl
  generalize hd : dutyPF f e w = d at *
  generalize hg : up (up f 3 (f 3 - d)) 7 (f 7 + d) = g at *
  have gmr : mr g ≤ 12 := by rw [← hg, mr_up _ _ (by decide), mr_up _ _ (by decide)]; exact hI.mr12
  have g68 : rng (g 68) 12 := by rw [← hg, up_ne _ _ (by decide), up_ne _ _ (by decide)]; exact hI.recs
  have g0 : g 0 = f 0 := by rw [← hg, up_ne _ _ (by decide), up_ne _ _ (by decide)]
  refine c_addReceipt g2 g68 i1 _ ?_
  have hne : ∀ z, z < 12 → own 4 (m15.2 8 1 z) = 1 := fun z hz => own4 (by decide) (g2.2.2.2.2.2.2.2.2.1 z hz)
  refine ⟨g2.okr i1 (by decide), ?_⟩
  generalize hr4 : m15.2 8 1 11 = r4 at *
  have hr4o : own 4 r4 = 1 := by rw [← hr4]; exact hne 11 (by decide)
  have hnr : ∀ m18, m18 = rcM m15 1 (nI (mr1 g)) → m18.1 3 = m12.1 3 ∧ m18.2 7 = m12.2 7 := fun m18 h => by
    rw [h]
    refine ⟨q15, ?_⟩
    have : (rcM m15 1 (nI (mr1 g))).2 7 = m15.2 7 := funext fun j => funext fun q => (c8_ne m15 1 (upN (fun p => m15.2 8 1 (rr 11 p)) 0 (m15.2 8 1 11)) (t := 7) (j := j) (q := q) (fun z => absurd z.1 (by decide)))
    rw [this, p15]
  generalize hm18 : rcM m15 1 (nI (mr1 g)) = m18 at *
  obtain ⟨n1, n2⟩ := hnr m18 rfl
  have hk : m18.1 3 (m12.2 7 1 e) 1 = en f e 1 := by rw [n1]; exact hR12.e1 he
  rw [hk]
  intro m20 e20 m21 e21 m22 e22 m23 e23
  have hday : m22.1 1 1 0 = f 0 := by
    rw [e22, e21, e20, ← hm18]
    show m15.1 1 1 0 = f 0
    rw [g2.day, g0]
  rw [hday] at e23
  have hz : m23 = sI (sI (sI (sI m18 4 r4 0 (en f e 1)) 4 r4 1 w) 4 r4 2 d) 4 r4 3 (f 0) := by rw [e23, e22, e21, e20]
  have g3 : RS m23 1 (filesF g (en f e 1) w d) := by
    refine g2.fl (m' := m23) gmr ?_ ?_ ?_ ?_ ?_ ?_ ?_ ?_
    · intro t j q hn
      rw [hz, ← hm18]
      exact c8_ne m15 1 _ hn
    · rw [hz, ← hm18]
      show (c8 m15 1 (upN (fun p => m15.2 8 1 (rr 11 p)) 0 (m15.2 8 1 11))).2 8 1 0 = m15.2 8 1 11
      rw [c8_8]
      exact if_pos rfl
    · intro j hj1 hj2
      rw [hz, ← hm18]
      show (c8 m15 1 _).2 8 1 j = _
      rw [c8_8]
      show (if j = 0 then _ else m15.2 8 1 (rr 11 j)) = _
      rw [if_neg (by omega)]
      unfold rr
      rw [if_pos (by omega)]
    · rw [hz, ← hm18]
      show (sI (c8 m15 1 (upN (fun p => m15.2 8 1 (rr 11 p)) 0 (m15.2 8 1 11))) 1 1 4 (nI (mr1 g))).1 1 1 4 = _
      exact sI_at _ _ _ _ _
    · intro q hq
      rw [hz, ← hm18]
      show (rcM m15 1 (nI (mr1 g))).1 1 1 q = _
      exact sI_ne (fun z => hq z.2.2)
    · intro q hq
      rw [hr4, hz]
      have : q = 0 ∨ q = 1 ∨ q = 2 ∨ q = 3 := by omega
      rcases this with rfl | rfl | rfl | rfl <;> simp [sI_1, flV, g0]
    · intro r q hn
      rw [hr4] at hn
      rw [hz, ← hm18]
      simp [sI_1, hn]
      rfl
    · intro t j q h1 h4
      rw [hz, ← hm18]
      simp [sI_1, h4]
      exact sI_ne (fun z => h1 z.1)
  have hF23 : Fr 1 m12 m23 := by
    refine hF15.trans ?_
    rw [hz, ← hm18]
    exact ((((((Fr.c8 m15 1 _).trans (Fr.sI _ _ _ (own1 1))).trans (Fr.sI _ _ _ hr4o)).trans (Fr.sI _ _ _ hr4o)).trans (Fr.sI _ _ _ hr4o)).trans (Fr.sI _ _ _ hr4o))
  have n23 : m23.1 3 = m12.1 3 ∧ m23.2 7 = m12.2 7 := by
    rw [hz]
    exact ⟨n1, n2⟩
  have hk2 : m23.1 3 (m12.2 7 1 e) 1 = en f e 1 := by rw [n23.1]; exact hR12.e1 he
  rw [hk2]
  have hv6 : vp_in (en f e 1) 6 := hE.1.vp (by decide) (by decide)
  refine ⟨hv6, ?_⟩
  show ∀ m_25 : Mm, m_25 = sI m23 6 (6 * (1 - 1) + knd f e + 1) 3 (m23.1 6 (6 * (1 - 1) + knd f e + 1) 3 + w) → _
  rw [g3.k3 hE.k.2]
  intro m25 e25
  have g3mr : mr (filesF g (en f e 1) w d) ≤ 12 := by
    rw [files_mr g gmr]
    unfold mr1
    split <;> omega
  have hkx : kix (knd f e) 3 = 32 + 6 * knd f e + 1 := by unfold kix; simp; omega
  have hkx2 : 30 + 6 * knd f e + 3 = 32 + 6 * knd f e + 1 := by omega
  have g4 := g3.pk g3mr hE.k.2 (q := 3) (by decide) (filesF g (en f e 1) w d (30 + 6 * knd f e + 3) + w)
  rw [← e25, hkx, hkx2] at g4
  have g4 : RS m25 1 (wdF f e w) := by
    unfold wdF totF
    rw [hd, hg]
    exact g4
  have hF25 : Fr 1 m12 m25 := by
    refine hF23.trans ?_
    rw [e25]
    exact Fr.sI _ _ _ (own6 (by decide) hE.k.2)
  have n25 : m25.2 7 = m12.2 7 := by rw [e25]; exact n23.2
  have hhi := fun k (h : 117 ≤ k) => wd_hi f hI.mr12 (w := w) hE.k.2 h
  have hmo : mo (wdF f e w) = mo f := by unfold mo; rw [hhi _ (by omega)]
  have h2e : en (wdF f e w) e 2 = en f e 2 := by unfold en; rw [hhi _ (by omega)]
  rw [← n25]
  refine c_goes g4 ?_ (by rw [hhi _ (by omega)]; exact hI.opn) (by rw [hmo]; exact he) (by rw [h2e]; exact hE.2.1) (by rw [h2e]; exact hE.p) (by rw [h2e]; exact hwr) (fun m3 => Q d m3) (fun m' hF _ hR' => h0 m' (hF25.trans hF) hR')
  · unfold wdF totF
    rw [hd, hg, mr_up _ _ (by omega)]
    exact g3mr
theorem d_send (hR : RS m 1 f) (hI : Inv a s f) (hsv : ∀ Q' : Mm → Prop, (∀ m1, S m1 → Q' m1) → w_X3_save 1 m Q') (hS : ∀ m1, S m1 → RS m1 1 f ∧ m1.2 = m.2) (p w : Int32) (he : fiE f p < mo f) (hw : 1 ≤ w ∧ w ≤ 999)
    (h3 : ¬ whyX f (fiE f p) w = 0 → Q (-3) m) (h0 : whyX f (fiE f p) w = 0 → ∀ m1 m', S m1 → Fr 1 m1 m' → RS m' 1 (sendF f (fiE f p) w) → Q (en f (fiE f p) 2 - w) m') : w_X1_takeAbroad p w m Q := by
  have h6 : fiE f p < 16 := Nat.lt_of_lt_of_le he hI.mo16
  have hE := hI.ent _ he
  unfold w_X1_takeAbroad
  simp only [c_findEntry hR hI i1, he, isWithin_iff, hw, hR.ne0 h6, hR.oke i1 h6, c_whyX hR hI he, z10, not_true_eq_false, not_false_eq_true, false_implies, true_implies, true_and, and_true, if_true, if_false, reduceIte]
  refine ⟨fun hy => ?_, h3⟩
  have h0 := h0 hy
  refine hsv _ (fun m12 h12 => ?_)
  obtain ⟨hR12, e12⟩ := hS m12 h12
  have h0 := fun m' => h0 m12 m' h12
  rw [← e12]
  have hwle := (whyL0 (whyX0 hy).1).2.2
  have hwr : rng w (en f (fiE f p) 2).toNatClampNeg := rng_le hE.2.1 (by decide) (one_le hw.1) hwle
  generalize fiE f p = e at *
  rw [hR12.e1 he]
  have hv6 : vp_in (en f e 1) 6 := hE.1.vp (by decide) (by decide)
  refine ⟨hv6, ?_⟩
  show ∀ m_14 : Mm, m_14 = sI m12 6 (6 * (1 - 1) + knd f e + 1) 4 (m12.1 6 (6 * (1 - 1) + knd f e + 1) 4 + w) → _
  rw [hR12.k4 hE.k.2]
  intro m14 e14
  have hkx : kix (knd f e) 4 = 32 + 6 * knd f e + 2 := by unfold kix; simp; omega
  have hkx2 : 30 + 6 * knd f e + 4 = 32 + 6 * knd f e + 2 := by omega
  have g4 := hR12.pk hI.mr12 hE.k.2 (q := 4) (by decide) (f (30 + 6 * knd f e + 4) + w)
  rw [← e14, hkx, hkx2] at g4
  have g4 : RS m14 1 (totF f (knd f e) 2 w) := g4
  have hF14 : Fr 1 m12 m14 := by rw [e14]; exact Fr.sI _ _ _ (own6 (by decide) hE.k.2)
  have n14 : m14.2 = m12.2 := by rw [e14]; rfl
  have hk6 := hE.k.2
  have h117 : totF f (knd f e) 2 w 117 = f 117 := up_ne _ _ (by omega)
  have hmo : mo (totF f (knd f e) 2 w) = mo f := mo_up _ _ (by omega)
  have hmr : mr (totF f (knd f e) 2 w) = mr f := mr_up _ _ (by omega)
  have h2e : en (totF f (knd f e) 2 w) e 2 = en f e 2 := en_tot _ _ hk6 (by decide)
  rw [← n14]
  refine c_goes g4 (by rw [hmr]; exact hI.mr12) (by rw [h117]; exact hI.opn) (by rw [hmo]; exact he) (by rw [h2e]; exact hE.2.1) (by rw [h2e]; exact hE.p) (by rw [h2e]; exact hwr) (fun m3 => Q (m3.1 3 (m14.2 7 1 e) 2) m3) (fun m' hF hr hR' => ?_)
  rw [hr, h2e]
  exact h0 m' (hF14.trans hF) hR'
theorem whyD0 {r : Nat} {w : Int32} (h : whyD f r w = 0) : f 4 ≤ 0 ∧ w ≤ rc f r 1 := by
  unfold whyD at h
  split at h
  · split at h
    · split at h
      · exact ⟨by assumption, by assumption⟩
      · exact absurd h (by decide)
    · exact absurd h (by decide)
  · exact absurd h (by decide)
theorem pos_of {x w : Int32} (h1 : 1 ≤ w) (h2 : w ≤ x) : 0 < x := by
  rw [Int32.le_iff_toInt_le] at h1 h2
  rw [Int32.lt_iff_toInt_lt]
  simp at h1 ⊢
  omega
theorem d_payBack (hR : RS m 1 f) (hI : Inv a s f) (hsv : ∀ Q' : Mm → Prop, (∀ m1, S m1 → Q' m1) → w_X3_save 1 m Q') (hS : ∀ m1, S m1 → RS m1 1 f ∧ m1.2 = m.2) (r : Nat) (w : Int32) (hr : r < mr f) (hw : 1 ≤ w ∧ w ≤ 999)
    (h3 : ¬ whyD f r w = 0 → Q (-3) m) (h0 : whyD f r w = 0 → ∀ m1 m', S m1 → Fr 1 m1 m' → RS m' 1 (drawF f r w) → Q (backF f r w) m') : w_X1_payBack (nI r) w m Q := by
  have h12 : r < 12 := Nat.lt_of_lt_of_le hr hI.mr12
  have hix : 0 ≤ nI r ∧ nI r ≤ f 68 - 1 := (rng_ix hI.recs (by decide)).mpr ⟨r, hr, rfl⟩
  have htr : (nI r).toNatClampNeg = r := rs_tn (by omega)
  unfold w_X1_payBack
  simp only [c_findReceipt hR hI, hix, htr, isWithin_iff, hw, hR.nr0 h12, hR.okr i1 h12, c_whyD hR hr, z10, not_true_eq_false, not_false_eq_true, false_implies, true_implies, true_and, and_true, if_true, if_false, reduceIte]
  refine ⟨fun hy => ?_, h3⟩
  have h0 := h0 hy
  refine hsv _ (fun m12 hm12 => ?_)
  obtain ⟨hR12, e12⟩ := hS m12 hm12
  have h0 := fun m' => h0 m12 m' hm12
  rw [← e12]
  have hp := pos_of hw.1 (whyD0 hy).2
  have hRI := hI.rec r hr
  have hk6 : (rc f r 0).toNatClampNeg < 6 := Nat.lt_succ_of_le hRI.1.2
  simp only [c_dutyPart hR12 hr hp, w_X9_paidBackOf]
  show ∀ m_17 : Mm, m_17 = sI m12 4 (m12.2 8 1 r) 1 (m12.1 4 (m12.2 8 1 r) 1 - w) → (∀ m_18 : Mm, m_18 = sI m_17 4 (m12.2 8 1 r) 2 (m_17.1 4 (m12.2 8 1 r) 2 - partF f r w) → (w_X6_giveDrawback 1 (backF f r w) m_18 (fun (m_20 : Mm) => vp_in (m_20.1 4 (m12.2 8 1 r) 0) 6 ∧ (∀ m_22 : Mm, m_22 = sI m_20 6 (6 * (1 - 1) + (m_20.1 4 (m12.2 8 1 r) 0).toNatClampNeg + 1) 7 ((m_20.1 6 (6 * (1 - 1) + (m_20.1 4 (m12.2 8 1 r) 0).toNatClampNeg + 1) 7) + w) → (Q (backF f r w) m_22)))))
  rw [hR12.r1 hr]
  intro m17 e17 m18 e18
  have ho4 : own 4 (m12.2 8 1 r) = 1 := own4 (by decide) (hR12.2.2.2.2.2.2.2.2.1 r h12)
  have a18 : m17.1 4 (m12.2 8 1 r) 2 = rc f r 2 := by
    rw [e17, sI_ne (fun z => absurd z.2.2 (by decide))]
    exact hR12.r2 hr
  rw [a18] at e18
  have g1 := hR12.pr hI.mr12 hr (q := 1) (by decide) (rc f r 1 - w)
  have g2 := g1.pr (r := r) (by rw [mr_up _ _ (by omega)]; exact hI.mr12) (by rw [mr_up _ _ (by omega)]; exact hr) (q := 2) (by decide) (rc f r 2 - partF f r w)
  rw [← e17, show m17.2 8 1 r = m12.2 8 1 r by rw [e17]; rfl, ← e18] at g2
  have hF18 : Fr 1 m12 m18 := by rw [e18, e17]; exact (Fr.sI _ _ _ ho4).trans (Fr.sI _ _ _ ho4)
  have p18 : m18.2 = m12.2 := by rw [e18, e17]; rfl
  generalize hG : up (up f (69 + 4 * r + 1) (rc f r 1 - w)) (69 + 4 * r + 2) (rc f r 2 - partF f r w) = g at *
  have glo : ∀ k, ¬ k = 69 + 4 * r + 1 → ¬ k = 69 + 4 * r + 2 → g k = f k := fun k h1 h2 => by rw [← hG, up_ne _ _ h2, up_ne _ _ h1]
  have gmr : mr g = mr f := by unfold mr; rw [glo _ (by omega) (by omega)]
  unfold w_X6_giveDrawback
  rw [g2.acct, glo 3 (by omega) (by omega)]
  intro m19 e19 m20 e20
  have a20 : m19.1 2 1 6 = f 9 := by
    rw [e19, sI_ne (fun z => absurd z.2.2 (by decide)), g2.drws, glo 9 (by omega) (by omega)]
  rw [a20] at e20
  have g3 := g2.pm (by rw [gmr]; exact hI.mr12) (q := 1) (by decide) (f 3 + backF f r w)
  have g4 := g3.pm (by rw [mr_up _ _ (by decide), gmr]; exact hI.mr12) (q := 6) (by decide) (f 9 + backF f r w)
  rw [← e19, ← e20] at g4
  have g4 : RS m20 1 (up (up g 3 (f 3 + backF f r w)) 9 (f 9 + backF f r w)) := g4
  have hF20 : Fr 1 m12 m20 := hF18.trans (by rw [e20, e19]; exact (Fr.sI _ _ _ (own2 1)).trans (Fr.sI _ _ _ (own2 1)))
  have p20 : m20.2 = m12.2 := by rw [e20, e19]; exact p18
  have hmr4 : mr (up (up g 3 (f 3 + backF f r w)) 9 (f 9 + backF f r w)) = mr f := by rw [mr_up _ _ (by decide), mr_up _ _ (by decide), gmr]
  have hk0 : m20.1 4 (m12.2 8 1 r) 0 = rc f r 0 := by
    have := g4.r0 (r := r) (by rw [hmr4]; exact hr)
    rw [p20] at this
    rw [this, rc_up _ _ (by omega), rc_up _ _ (by omega)]
    exact glo _ (by omega) (by omega)
  rw [hk0]
  refine ⟨hRI.1.vp (by decide) (by decide), ?_⟩
  rw [g4.k7 hk6]
  intro m22 e22
  have hkx : kix (rc f r 0).toNatClampNeg 7 = 32 + 6 * (rc f r 0).toNatClampNeg + 5 := by unfold kix; simp; omega
  have hkx2 : 30 + 6 * (rc f r 0).toNatClampNeg + 7 = 32 + 6 * (rc f r 0).toNatClampNeg + 5 := by omega
  have g5 := g4.pk (by rw [hmr4]; exact hI.mr12) hk6 (q := 7) (by decide) (up (up g 3 (f 3 + backF f r w)) 9 (f 9 + backF f r w) (30 + 6 * (rc f r 0).toNatClampNeg + 7) + w)
  rw [← e22, hkx, hkx2] at g5
  refine h0 m22 (hF20.trans (by rw [e22]; exact Fr.sI _ _ _ (own6 (by decide) hk6))) ?_
  have hfin : up (up (up g 3 (f 3 + backF f r w)) 9 (f 9 + backF f r w)) (32 + 6 * (rc f r 0).toNatClampNeg + 5) (up (up g 3 (f 3 + backF f r w)) 9 (f 9 + backF f r w) (32 + 6 * (rc f r 0).toNatClampNeg + 5) + w) = drawF f r w := by
    unfold drawF totF
    rw [up_ne _ _ (by omega), up_ne _ _ (by omega), glo _ (by omega) (by omega), up_ne (up f 3 _) _ (by omega), up_ne f _ (by omega), ← hG]
    funext k
    unfold up
    by_cases c1 : k = 32 + 6 * (rc f r 0).toNatClampNeg + 5
    · rw [if_pos c1, if_neg (by omega), if_neg (by omega), if_pos c1]
    · rw [if_neg c1]
      by_cases c2 : k = 9
      · rw [if_pos c2, if_neg (by omega), if_neg (by omega), if_neg c1, if_pos c2]
      · rw [if_neg c2]
        by_cases c3 : k = 3
        · rw [if_pos c3, if_neg (by omega), if_neg (by omega), if_neg c1, if_neg c2, if_pos c3]
        · rw [if_neg c3, if_neg c1, if_neg c2, if_neg c3]
  rw [hfin] at g5
  exact g5
theorem c_room0 (hR : RS m i f) (ho : rng (f 117) 16) (hi : 1 ≤ i ∧ i ≤ 9) (c : Int32) (Q : Int32 → Prop) : w_X8_roomLeft i c m Q ↔ Q (roomF f c) := by
  unfold w_X8_roomLeft roomF
  refine itr_for _ (fun j s => (s, nI j)) (mo f) (fun e s => if en f e 4 = c then s - en f e 2 else s) 2000 _ (fun K j hj => ?_) (fun K => ?_)
  · have he : j < 16 := Nat.lt_of_lt_of_le hj ho.2
    have hv : vp_in (nI j) 16 := vp_in_nI he (by decide)
    have ht : (nI j).toNatClampNeg = j := rs_tn (by omega)
    by_cases hc : en f j 4 = c <;> simp only [w_X8_roomLeft_B6, hR.e4 hj, hR.e2 hj, hc, hR.opn, mo_lt ho hj, hv, ht, hR.oke hi he, nI_1, fo, not_true_eq_false, not_false_eq_true, false_implies, true_implies, true_and, and_true, forall_eq, if_true, if_false, reduceIte]
  · simp only [w_X8_roomLeft_B6, hR.opn, mo_le ho, not_true_eq_false, not_false_eq_true, false_implies, true_implies, true_and, and_true, forall_eq, if_true, if_false, reduceIte]
theorem d_move (hR : RS m 1 f) (hI : Inv a s f) (hsv : ∀ Q' : Mm → Prop, (∀ m1, S m1 → Q' m1) → w_X3_save 1 m Q') (hS : ∀ m1, S m1 → RS m1 1 f ∧ m1.2 = m.2) (p : Int32) (c : Nat) (he : fiE f p < mo f) (hc : c < 5)
    (h3 : ¬ whyM f (fiE f p) (nI c) = 0 → Q (-3) m) (h0 : whyM f (fiE f p) (nI c) = 0 → ∀ m1 m', S m1 → Fr 1 m1 m' → RS m' 1 (moveF f (fiE f p) (nI c)) → Q (roomF (moveF f (fiE f p) (nI c)) (nI c)) m') : w_X1_carryOver p (nI c) m Q := by
  have h6 : fiE f p < 16 := Nat.lt_of_lt_of_le he hI.mo16
  have hcr : 0 ≤ nI c ∧ nI c ≤ 4 := ⟨nI_pos' (by omega), by rw [show (4 : Int32) = nI 4 from rfl]; exact nI_le (by omega) (by decide)⟩
  unfold w_X1_carryOver
  simp only [c_findEntry hR hI i1, he, isWithin_iff, hcr, hR.ne0 h6, hR.oke i1 h6, c_whyM hR hI i1 he hc, z10, not_true_eq_false, not_false_eq_true, false_implies, true_implies, true_and, and_true, if_true, if_false, reduceIte]
  refine ⟨fun hy => ?_, h3⟩
  have h0 := h0 hy
  refine hsv _ (fun m12 hm12 => ?_)
  obtain ⟨hR12, e12⟩ := hS m12 hm12
  rw [← e12]
  intro m13 e13
  have g := hR12.pe hI.mr12 hI.mo16 he (q := 4) (by decide) (nI c)
  have g : RS m13 1 (moveF f (fiE f p) (nI c)) := by rw [e13]; exact g
  rw [c_room0 g (by unfold moveF; rw [up_ne _ _ (by omega)]; exact hI.opn) i1]
  exact h0 m12 m13 hm12 (by rw [e13]; exact Fr.sI _ _ _ (own3 (by decide) (hR12.2.2.2.2.2.2.1 _ h6))) g
end SEM12

