section SEM13
variable {m m' mm : Mm} {i a s : Nat} {f : Nat → Int32} {S : Mm → Prop} {Q : Int32 → Mm → Prop}
def mkX (f : Nat → Int32) (V : Nat → Int32) (k : Nat) : Int32 := if k = 1 then f 1 + 1 else if k = 117 then f 117 + 1 else if 118 + 8 * mo f ≤ k ∧ k < 126 + 8 * mo f then V (k - (118 + 8 * mo f)) else f k
theorem mkX_lo (f V : Nat → Int32) {k : Nat} (h : k < 117) (h1 : ¬ k = 1) : mkX f V k = f k := by
  unfold mkX
  rw [if_neg h1, if_neg (by omega), if_neg (by omega)]
theorem mkX_117 (f V : Nat → Int32) : mkX f V 117 = f 117 + 1 := by
  unfold mkX
  rw [if_neg (by decide), if_pos rfl]
theorem mkX_en (f V : Nat → Int32) {e q : Nat} (hq : q < 8) (h : ¬ e = mo f) : en (mkX f V) e q = en f e q := by
  show mkX f V (118 + 8 * e + q) = _
  unfold mkX
  rw [if_neg (by omega), if_neg (by omega), if_neg (by omega)]
  rfl
theorem mkX_new (f V : Nat → Int32) {q : Nat} (hq : q < 8) : en (mkX f V) (mo f) q = V q := by
  show mkX f V (118 + 8 * mo f + q) = _
  unfold mkX
  rw [if_neg (by omega), if_neg (by omega), if_pos (by omega)]
  exact congrArg V (by omega)
theorem mkX_mo {f : Nat → Int32} (ho : rng (f 117) 16) (V : Nat → Int32) : mo (mkX f V) = mo f + 1 := by
  have h := ho.2
  unfold mo at *
  rw [mkX_117, ho.1, nI_1, rs_tn (by omega), rs_tn (by omega)]
theorem RS.mkN (h : RS m i f) (h12 : mr f ≤ 12) (ho : rng (f 117) 16) (hn : mo f < 16) {V : Nat → Int32} (e2 : m'.2 = m.2) (e3 : ∀ r q, ¬ r = m.2 7 i (mo f) → m'.1 3 r q = m.1 3 r q) (e4 : ∀ q, q < 8 → m'.1 3 (m.2 7 i (mo f)) q = if q = 5 ∨ q = 6 then f 0 - V q else V q) (e5 : m'.1 1 i 1 = f 117 + 1 ∧ m'.1 1 i 2 = f 1 + 1) (e6 : ∀ q, ¬ q = 1 → ¬ q = 2 → m'.1 1 i q = m.1 1 i q) (e7 : ∀ t j q, ¬ t = 1 → ¬ t = 3 → m'.1 t j q = m.1 t j q) : RS m' i (mkX f V) := by
  obtain ⟨h1, h2, h3, h4, h5, h6, h7⟩ := h
  refine ⟨fun q hq => ?_, fun q hq => ?_, fun c' hc => ?_, fun k hk q hq => ?_, fun p hp q hq => ?_, fun r hr q hq => ?_, ?_⟩
  · by_cases z1 : q = 1
    · subst z1
      rw [e5.1]
      exact (mkX_117 f V).symm
    · by_cases z2 : q = 2
      · subst z2
        rw [e5.2]
        rfl
      · rw [e6 q z1 z2, h1 q hq]
        have : q = 0 ∨ q = 3 ∨ q = 4 := by omega
        rcases this with rfl | rfl | rfl <;> exact (mkX_lo f V (by decide) (by decide)).symm
  · have := mix_rng hq
    rw [e7 2 i q (by decide) (by decide), h2 q hq, mkX_lo _ _ (by omega) (by omega)]
  · rw [e7 5 _ 0 (by decide) (by decide), e7 5 _ 1 (by decide) (by decide), mkX_lo _ _ (by omega) (by omega), mkX_lo _ _ (by omega) (by omega)]
    exact h3 c' hc
  · have := kix_rng hk hq
    rw [e7 6 _ q (by decide) (by decide), mkX_lo _ _ (by omega) (by omega)]
    exact h4 k hk q hq
  · rw [mkX_mo ho] at hp
    rw [e2]
    unfold ev
    rw [mkX_lo f V (k := 0) (by decide) (by decide)]
    by_cases z : p = mo f
    · subst z
      rw [e4 q hq, mkX_new f V hq]
    · rw [e3 _ _ (fun y => z (h7.2.1 _ _ (by omega) (by omega) y)), mkX_en f V hq z]
      exact h5 p (by omega) q hq
  · have : mr (mkX f V) = mr f := by
      unfold mr
      rw [mkX_lo _ _ (by decide) (by decide)]
    rw [this] at hr
    rw [e2, e7 4 _ q (by decide) (by decide), h6 r hr q hq]
    unfold rc
    rw [mkX_lo _ _ (by omega) (by omega)]
  · unfold RSp
    rw [e2]
    exact h7
def spV (f : Nat → Int32) (e : Nat) (w : Int32) (q : Nat) : Int32 := if q = 0 then f 1 else if q = 2 then w else if q = 3 then shareF f e w else en f e q
def splitF (f : Nat → Int32) (e : Nat) (w : Int32) : Nat → Int32 := goesF (mkX f (spV f e w)) e w
theorem mkX_spV (f : Nat → Int32) (e : Nat) (w : Int32) : up (up (up (mkF f (en f e 1) w (shareF f e w) (en f e 4)) (118 + 8 * mo f + 5) (en f e 5)) (118 + 8 * mo f + 6) (en f e 6)) (118 + 8 * mo f + 7) (en f e 7) = mkX f (spV f e w) := by
  funext k
  unfold mkX
  by_cases h1 : k = 1
  · subst h1
    rw [up_ne _ _ (by omega), up_ne _ _ (by omega), up_ne _ _ (by omega), mkF_1, if_pos rfl]
  · rw [if_neg h1]
    by_cases h2 : k = 117
    · subst h2
      rw [up_ne _ _ (by omega), up_ne _ _ (by omega), up_ne _ _ (by omega), mkF_117, if_pos rfl]
    · rw [if_neg h2]
      by_cases h3 : 118 + 8 * mo f ≤ k ∧ k < 126 + 8 * mo f
      · rw [if_pos h3]
        obtain ⟨q, rfl⟩ : ∃ q, k = 118 + 8 * mo f + q := ⟨k - (118 + 8 * mo f), by omega⟩
        have hq : q < 8 := by omega
        rw [show 118 + 8 * mo f + q - (118 + 8 * mo f) = q by omega]
        have hnew := mkF_new f (en f e 1) w (shareF f e w) (en f e 4) hq
        unfold en at hnew
        have : q = 0 ∨ q = 1 ∨ q = 2 ∨ q = 3 ∨ q = 4 ∨ q = 5 ∨ q = 6 ∨ q = 7 := by omega
        rcases this with rfl | rfl | rfl | rfl | rfl | rfl | rfl | rfl
        · rw [up_ne _ _ (by omega), up_ne _ _ (by omega), up_ne _ _ (by omega)]; exact hnew
        · rw [up_ne _ _ (by omega), up_ne _ _ (by omega), up_ne _ _ (by omega)]; exact hnew
        · rw [up_ne _ _ (by omega), up_ne _ _ (by omega), up_ne _ _ (by omega)]; exact hnew
        · rw [up_ne _ _ (by omega), up_ne _ _ (by omega), up_ne _ _ (by omega)]; exact hnew
        · rw [up_ne _ _ (by omega), up_ne _ _ (by omega), up_ne _ _ (by omega)]; exact hnew
        · rw [up_ne _ _ (by omega), up_ne _ _ (by omega), up_eq]; rfl
        · rw [up_ne _ _ (by omega), up_eq]; rfl
        · rw [up_eq]; rfl
      · rw [if_neg h3, up_ne _ _ (by omega), up_ne _ _ (by omega), up_ne _ _ (by omega)]
        by_cases h4 : k < 117
        · exact mkF_lo f _ _ _ _ h4 h1
        · obtain ⟨e', q, rfl, hq⟩ : ∃ e' q, k = 118 + 8 * e' + q ∧ q < 8 := ⟨(k - 118) / 8, (k - 118) % 8, by omega, by omega⟩
          exact mkF_en f _ _ _ _ hq (fun z => h3 (by rw [z]; omega))
theorem en_mkF_e (f : Nat → Int32) (kd w v c : Int32) {e q : Nat} (hq : q < 8) (he : e < mo f) : en (mkF f kd w v c) e q = en f e q := mkF_en f kd w v c hq (by omega)
theorem m_splitB (hI : Inv a s (mm.1 32 1)) {e : Nat} (he : e < mo (mm.1 32 1)) (hn : mo (mm.1 32 1) < 16) (w : Int32) (Q : Int32 → Mm → Prop) : (w_X10_share (nI e) w mm (fun (r_9 : Int32) => w_X10_of (nI e) 1 mm (fun (r_11 : Int32) => w_X10_of (nI e) 4 mm (fun (r_13 : Int32) => w_X10_makes r_11 w r_9 r_13 mm (fun (r_15 : Int32) (m_16 : Mm) => ∀ x_17 : Int32, x_17 = ((m_16.1 32 1 117) - 1) → (w_X10_of (nI e) 5 m_16 (fun (r_18 : Int32) => w_X10_put x_17 5 r_18 m_16 (fun (m_21 : Mm) => w_X10_of (nI e) 6 m_21 (fun (r_22 : Int32) => w_X10_put x_17 6 r_22 m_21 (fun (m_25 : Mm) => w_X10_of (nI e) 7 m_25 (fun (r_26 : Int32) => w_X10_put x_17 7 r_26 m_25 (fun (m_29 : Mm) => w_X10_goes (nI e) w m_29 (fun (m_31 : Mm) => Q r_15 m_31))))))))))))) ↔ Q (mm.1 32 1 1) (st mm (splitF (mm.1 32 1) e w)) := by
  have h6 : e < 16 := Nat.lt_of_lt_of_le he hI.mo16
  have hE := hI.ent e he
  have h117 : mkF (mm.1 32 1) (en (mm.1 32 1) e 1) w (shareF (mm.1 32 1) e w) (en (mm.1 32 1) e 4) 117 - 1 = nI (mo (mm.1 32 1)) := by
    rw [mkF_117, Int32.add_sub_cancel]
    exact hI.opn.1
  simp only [m_share h6 hE.w0, m_of1 h6, m_of4 h6, m_makes hI.opn hn, forall_eq, st_now, h117, m_of5 h6, m_of6 h6, m_of7 h6, m_put5 hn, m_put6 hn, m_put7 hn, st_st]
  have hx := mkX_spV (mm.1 32 1) e w
  have hne : ¬ e = mo (mm.1 32 1) := by omega
  have e6 : en (up (mkF (mm.1 32 1) (en (mm.1 32 1) e 1) w (shareF (mm.1 32 1) e w) (en (mm.1 32 1) e 4)) (118 + 8 * mo (mm.1 32 1) + 5) (en (mm.1 32 1) e 5)) e 6 = en (mm.1 32 1) e 6 := by
    rw [en_oe _ _ (by decide) (by decide) hne, mkF_en _ _ _ _ _ (by decide) hne]
  have e5 : en (mkF (mm.1 32 1) (en (mm.1 32 1) e 1) w (shareF (mm.1 32 1) e w) (en (mm.1 32 1) e 4)) e 5 = en (mm.1 32 1) e 5 := mkF_en _ _ _ _ _ (by decide) hne
  have e7 : en (up (up (mkF (mm.1 32 1) (en (mm.1 32 1) e 1) w (shareF (mm.1 32 1) e w) (en (mm.1 32 1) e 4)) (118 + 8 * mo (mm.1 32 1) + 5) (en (mm.1 32 1) e 5)) (118 + 8 * mo (mm.1 32 1) + 6) (en (mm.1 32 1) e 6)) e 7 = en (mm.1 32 1) e 7 := by
    rw [en_oe _ _ (by decide) (by decide) hne, en_oe _ _ (by decide) (by decide) hne, mkF_en _ _ _ _ _ (by decide) hne]
  rw [e5, e6, e7, hx]
  have hmo := mkX_mo hI.opn (spV (mm.1 32 1) e w)
  have ho : rng (mkX (mm.1 32 1) (spV (mm.1 32 1) e w) 117) 16 := by
    rw [mkX_117, show mm.1 32 1 117 = nI (mo (mm.1 32 1)) from hI.opn.1, nI_1]
    exact rng_of (by omega) (by decide)
  have hg := m_goes (mm := st mm (mkX (mm.1 32 1) (spV (mm.1 32 1) e w))) (e := e) (w := w) ho (by rw [st_now, hmo]; omega) (by rw [st_now, mkX_en _ _ (by decide) hne]; exact hE.w0)
  simp only [st_now, st_st] at hg
  exact hg _
theorem d_split (hR : RS m 1 f) (hI : Inv a s f) (hsv : ∀ Q' : Mm → Prop, (∀ m1, S m1 → Q' m1) → w_X3_save 1 m Q') (hS : ∀ m1, S m1 → RS m1 1 f ∧ m1.2 = m.2) (p w : Int32) (he : fiE f p < mo f) (hw : 1 ≤ w ∧ w ≤ en f (fiE f p) 2 - 1) (hwr : rng w (en f (fiE f p) 2).toNatClampNeg) (hw0 : ¬ en f (fiE f p) 2 - w = 0)
    (h3 : ¬ (f (10 + (en f (fiE f p) 4).toNatClampNeg) ≤ 0 ∧ ¬ 16 ≤ f 117 ∧ ¬ 60 ≤ f 1) → Q (-3) m) (h0 : (f (10 + (en f (fiE f p) 4).toNatClampNeg) ≤ 0 ∧ ¬ 16 ≤ f 117 ∧ ¬ 60 ≤ f 1) → ∀ m1 m', S m1 → Fr 1 m1 m' → RS m' 1 (splitF f (fiE f p) w) → Q (f 1) m') : w_X1_partOff p w m Q := by
  have h6 : fiE f p < 16 := Nat.lt_of_lt_of_le he hI.mo16
  have hE := hI.ent _ he
  have hv5 : vp_in (en f (fiE f p) 4) 5 := hE.2.2.2.2.1.vp (by decide) (by decide)
  unfold w_X1_partOff
  simp only [c_findEntry hR hI i1, he, isWithin_iff, hR.e2 he, hw, hR.e4 he, hv5, hR.ne0 h6, hR.oke i1 h6, c_isSealed hR hE.c.2, c_hasPlace hR, z10, not_true_eq_false, not_false_eq_true, false_implies, true_implies, true_and, and_true, if_true, if_false, reduceIte]
  by_cases b1 : f (10 + (en f (fiE f p) 4).toNatClampNeg) ≤ 0
  · by_cases b2 : 16 ≤ f 117
    · simp only [b1, b2, z10, not_true_eq_false, not_false_eq_true, false_implies, true_implies, true_and, and_true, if_true, if_false, reduceIte]
      exact h3 (fun z => z.2.1 b2)
    · by_cases b3 : 60 ≤ f 1
      · simp only [b1, b2, b3, z10, not_true_eq_false, not_false_eq_true, false_implies, true_implies, true_and, and_true, if_true, if_false, reduceIte]
        exact h3 (fun z => z.2.2 b3)
      · simp only [b1, b2, b3, z10, not_true_eq_false, not_false_eq_true, false_implies, true_implies, true_and, and_true, if_true, if_false, reduceIte]
        have h0 := h0 ⟨b1, b2, b3⟩
        refine hsv _ (fun m16 h16 => ?_)
        obtain ⟨hR16, e16⟩ := hS m16 h16
        have h0 := fun m' => h0 m16 m' h16
        rw [← e16]
        have hn : mo f < 16 := lt16 hI.opn b2
        generalize fiE f p = e at *
        have hne : ¬ e = mo f := by omega
        have hv : vp_in (f 117) 16 := by rw [mo_nI hI.opn]; exact vp_in_nI hn (by decide)
        have hmkX := fun (z : Mm) => hR16.mkN (m' := z) (V := spV f e w) hI.mr12 hI.opn hn
        have hox : own 3 (m16.2 7 1 (mo f)) = 1 := own3 (by decide) (hR16.2.2.2.2.2.2.1 _ hn)
        have hok : ok 3 (m16.2 7 1 (mo f)) := hR16.oke i1 hn
        have hrr : ¬ m16.2 7 1 e = m16.2 7 1 (mo f) := fun z => hne (hR16.2.2.2.2.2.2.2.1 _ _ h6 hn z)
        unfold w_X8_addEntry
        rw [hR16.opn, hR16.made]
        simp only [show (f 117).toNatClampNeg = mo f from rfl]
        refine ⟨hv, hok, ?_⟩
        have hopn := hR16.opn
        have hmade := hR16.made
        have q0 := hR16.e0 he
        have q1 := hR16.e1 he
        have q2 := hR16.e2 he
        have q3 := hR16.e3 he
        have q4 := hR16.e4 he
        have q5 := hR16.e5 he
        have q6 := hR16.e6 he
        have q7 := hR16.e7 he
        have hb7 : isB (en f e 7) := rng01 hE.2.2.2.2.2.2.2
        have hFs : Fr 1 m16 m16 := Fr.refl 1 m16
        generalize hr : m16.2 7 1 (mo f) = r at *
        generalize hr1 : m16.2 7 1 e = r1 at *
        have hrr' : ¬ r = r1 := fun z => hrr z.symm
        intro m3 e3 m4 e4 m5 e5
        rw [show m3.1 1 1 1 = f 117 by rw [e3]; exact hopn] at e4
        rw [show m4.1 1 1 2 = f 1 by rw [e4, e3]; exact hmade] at e5
        refine ⟨hok, ?_⟩
        intro x20 ex
        rw [show m5.1 3 r 0 = f 1 by rw [e5, e4, e3]; simp [sI_1]] at ex
        subst ex
        unfold w_X2_copyFrom
        have rd : ∀ q, m5.1 3 r1 q = m16.1 3 r1 q := fun q => by rw [e5, e4, e3]; simp [sI_1, hrr]
        intro n1 f1 n2 f2 n3 f3 n4 f4 n5 f5 n6 f6 n7 f7
        rw [rd, q0] at f1
        have rd1 : ∀ q, n1.1 3 r1 q = m16.1 3 r1 q := fun q => by rw [f1, sI_1, if_neg (fun z => hrr z.2.1), rd]
        rw [rd1, q1] at f2
        have rd2 : ∀ q, n2.1 3 r1 q = m16.1 3 r1 q := fun q => by rw [f2, sI_1, if_neg (fun z => hrr z.2.1), rd1]
        rw [rd2, q2] at f3
        have rd3 : ∀ q, n3.1 3 r1 q = m16.1 3 r1 q := fun q => by rw [f3, sI_1, if_neg (fun z => hrr z.2.1), rd2]
        rw [rd3, q3] at f4
        have rd4 : ∀ q, n4.1 3 r1 q = m16.1 3 r1 q := fun q => by rw [f4, sI_1, if_neg (fun z => hrr z.2.1), rd3]
        rw [rd4, q4] at f5
        have rd5 : ∀ q, n5.1 3 r1 q = m16.1 3 r1 q := fun q => by rw [f5, sI_1, if_neg (fun z => hrr z.2.1), rd4]
        rw [rd5, q5] at f6
        have rd6 : ∀ q, n6.1 3 r1 q = m16.1 3 r1 q := fun q => by rw [f6, sI_1, if_neg (fun z => hrr z.2.1), rd5]
        rw [rd6, q6] at f7
        have rd7 : ∀ q, n7.1 3 r1 q = m16.1 3 r1 q := fun q => by rw [f7, sI_1, if_neg (fun z => hrr z.2.1), rd6]
        rw [rd7, q7]
        refine ⟨hb7, ?_⟩
        intro n8 f8 m23 e23 m24 e24
        have rd8 : ∀ q, n8.1 3 r1 q = m16.1 3 r1 q := fun q => by rw [f8, sI_1, if_neg (fun z => hrr z.2.1), rd7]
        have rd23 : ∀ q, m23.1 3 r1 q = m16.1 3 r1 q := fun q => by rw [e23, sI_1, if_neg (fun z => hrr z.2.1), rd8]
        have rd24 : ∀ q, m24.1 3 r1 q = m16.1 3 r1 q := fun q => by rw [e24, sI_1, if_neg (fun z => hrr z.2.1), rd23]
        unfold w_X2_shareOf
        rw [rd24, rd24, q2, q3]
        have hp0 := hE.p
        have hw00 := hE.w0
        simp only [hp0, hw00, not_true_eq_false, not_false_eq_true, false_implies, true_implies, true_and, and_true, if_true, if_false, reduceIte]
        intro m27 e27
        have hz : m27 = sI (sI (sI (sI (sI (sI (sI (sI (sI (sI (sI (sI (sI (sI m16 3 r 0 (f 1)) 1 1 1 (f 117 + 1)) 1 1 2 (f 1 + 1)) 3 r 0 (en f e 0)) 3 r 1 (en f e 1)) 3 r 2 (en f e 2)) 3 r 3 (en f e 3)) 3 r 4 (en f e 4)) 3 r 5 (f 0 - en f e 5)) 3 r 6 (f 0 - en f e 6)) 3 r 7 (en f e 7)) 3 r 0 (f 1)) 3 r 2 w) 3 r 3 (shareF f e w) := by
          rw [e27, e24, e23, f8, f7, f6, f5, f4, f3, f2, f1, e5, e4, e3]
          rfl
        have g : RS m27 1 (mkX f (spV f e w)) := by
          refine hmkX m27 ?_ ?_ ?_ ?_ ?_ ?_
          · rw [hz]; rfl
          · intro r' q hn'
            rw [hz]
            simp [sI_1, hn']
          · intro q hq
            rw [hz]
            have : q = 0 ∨ q = 1 ∨ q = 2 ∨ q = 3 ∨ q = 4 ∨ q = 5 ∨ q = 6 ∨ q = 7 := by omega
            rcases this with rfl | rfl | rfl | rfl | rfl | rfl | rfl | rfl <;> simp [sI_1, spV]
          · rw [hz]
            simp [sI_1]
          · intro q hq1 hq2
            rw [hz]
            simp [sI_1, hq1, hq2]
          · intro t j q ht1 ht3
            rw [hz]
            simp [sI_1, ht1, ht3]
        have hF27 : Fr 1 m16 m27 := by
          rw [hz]
          exact (((((((((((((Fr.sI m16 _ _ hox).trans (Fr.sI _ _ _ (own1 1))).trans (Fr.sI _ _ _ (own1 1))).trans (Fr.sI _ _ _ hox)).trans (Fr.sI _ _ _ hox)).trans (Fr.sI _ _ _ hox)).trans (Fr.sI _ _ _ hox)).trans (Fr.sI _ _ _ hox)).trans (Fr.sI _ _ _ hox)).trans (Fr.sI _ _ _ hox)).trans (Fr.sI _ _ _ hox)).trans (Fr.sI _ _ _ hox)).trans (Fr.sI _ _ _ hox)).trans (Fr.sI _ _ _ hox)
        have n27 : m27.2 = m16.2 := by rw [hz]; rfl
        have hmo := mkX_mo hI.opn (spV f e w)
        have hmr : mr (mkX f (spV f e w)) = mr f := by
          unfold mr
          rw [mkX_lo _ _ (by decide) (by decide)]
        have h2e : en (mkX f (spV f e w)) e 2 = en f e 2 := mkX_en _ _ (by decide) hne
        rw [show r1 = m27.2 7 1 e by rw [n27, hr1]]
        refine c_losePart g (by rw [hmr]; exact hI.mr12) (by rw [hmo]; omega) (by rw [hmo]; omega) (by rw [h2e]; exact hE.p) (by decide) w _ (fun m2 e2 hF hR2 => h0 m2 (hF27.trans hF) ?_)
        unfold splitF goesF
        rw [h2e, if_neg hw0]
        exact hR2
  · simp only [b1, z10, not_true_eq_false, not_false_eq_true, false_implies, true_implies, true_and, and_true, if_true, if_false, reduceIte]
    exact h3 (fun z => b1 z.1)
end SEM13

