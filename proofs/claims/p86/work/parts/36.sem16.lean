section SEM16
variable {m m' mm : Mm} {i a s : Nat} {f : Nat → Int32} {S : Mm → Prop} {Q : Int32 → Mm → Prop}
def opC (f : Nat → Int32) (c j : Nat) : Int32 × (Nat → Int32) := fo (opG (decide (f (15 + c) = 1)) (nI c)) j (0, f)
theorem opC_at (f : Nat → Int32) (c : Nat) {j k : Nat} (h : ¬ ∃ e, e < j ∧ k = 118 + 8 * e + 7) : (opC f c j).2 k = f k := op_at _ _ _ j k h
theorem opG_pos {b : Bool} {c : Int32} {e : Nat} {z : Int32 × (Nat → Int32)} (h : en z.2 e 4 = c) : opG b c e z = (z.1 + (1 - opV b (en z.2 e 7)), up z.2 (118 + 8 * e + 7) (opV b (en z.2 e 7))) := if_pos h
theorem opG_neg {b : Bool} {c : Int32} {e : Nat} {z : Int32 × (Nat → Int32)} (h : ¬ en z.2 e 4 = c) : opG b c e z = z := if_neg h
theorem opL_C (f : Nat → Int32) {c : Nat} (hc : c < 5) : ∀ j, opL f c j = ((opC f c j).1, up (up (opC f c j).2 (10 + c) 0) (15 + c) 0) := by
  intro j
  induction j with
  | zero => rfl
  | succ j ih =>
    show opG _ (nI c) j (opL f c j) = _
    rw [ih]
    have hC : opC f c (j + 1) = opG (decide (f (15 + c) = 1)) (nI c) j (opC f c j) := rfl
    rw [hC]
    generalize opC f c j = z
    have e4 : en (up (up z.2 (10 + c) 0) (15 + c) 0) j 4 = en z.2 j 4 := by rw [en_lo _ _ (by omega), en_lo _ _ (by omega)]
    have e7 : en (up (up z.2 (10 + c) 0) (15 + c) 0) j 7 = en z.2 j 7 := by rw [en_lo _ _ (by omega), en_lo _ _ (by omega)]
    by_cases h : en z.2 j 4 = nI c
    · rw [opG_pos (z := (z.1, up (up z.2 (10 + c) 0) (15 + c) 0)) (e4.trans h), opG_pos h]
      show (z.1 + (1 - opV _ (en (up (up z.2 (10 + c) 0) (15 + c) 0) j 7)), _) = _
      rw [e7, up_comm _ _ _ (show ¬ 15 + c = 118 + 8 * j + 7 by omega), up_comm _ _ _ (show ¬ 10 + c = 118 + 8 * j + 7 by omega)]
    · rw [opG_neg (z := (z.1, up (up z.2 (10 + c) 0) (15 + c) 0)) (fun q => h (e4.symm.trans q)), opG_neg h]
def zG (f : Nat → Int32) (c : Nat) (r : Nat → Nat) (e : Nat) (z : Mm) : Mm := if en f e 4 = nI c then sI z 3 (r e) 7 (opV (decide (f (15 + c) = 1)) (en f e 7)) else z
theorem z_eq (hR : RS m 1 f) (h12 : mr f ≤ 12) (h16 : mo f ≤ 16) {c : Nat} : ∀ j, j ≤ mo f → RS (fo (zG f c (m.2 7 1)) j m) 1 (opC f c j).2 ∧ Fr 1 m (fo (zG f c (m.2 7 1)) j m) ∧ (fo (zG f c (m.2 7 1)) j m).2 = m.2 ∧ (fo (zG f c (m.2 7 1)) j m).1 5 = m.1 5 ∧ mo (opC f c j).2 = mo f ∧ mr (opC f c j).2 = mr f := by
  intro j
  induction j with
  | zero => exact fun _ => ⟨hR, Fr.refl 1 m, rfl, rfl, rfl, rfl⟩
  | succ j ih =>
    intro hj
    obtain ⟨h1, h2, h3, h4, h5, h6⟩ := ih (by omega)
    have hC : opC f c (j + 1) = opG (decide (f (15 + c) = 1)) (nI c) j (opC f c j) := rfl
    have e4 : en (opC f c j).2 j 4 = en f j 4 := opC_at f c (fun ⟨e, h1, h2⟩ => by omega)
    have e7 : en (opC f c j).2 j 7 = en f j 7 := opC_at f c (fun ⟨e, h1, h2⟩ => by omega)
    rw [hC]
    show RS (zG f c (m.2 7 1) j (fo (zG f c (m.2 7 1)) j m)) 1 _ ∧ Fr 1 m (zG f c (m.2 7 1) j (fo (zG f c (m.2 7 1)) j m)) ∧ (zG f c (m.2 7 1) j (fo (zG f c (m.2 7 1)) j m)).2 = m.2 ∧ (zG f c (m.2 7 1) j (fo (zG f c (m.2 7 1)) j m)).1 5 = m.1 5 ∧ _
    generalize fo (zG f c (m.2 7 1)) j m = z at *
    by_cases h : en f j 4 = nI c
    · rw [opG_pos (e4.trans h), e7]
      have hz : zG f c (m.2 7 1) j z = sI z 3 (m.2 7 1 j) 7 (opV (decide (f (15 + c) = 1)) (en f j 7)) := if_pos h
      rw [hz]
      have g := h1.pe (e := j) (by rw [h6]; exact h12) (by rw [h5]; exact h16) (by rw [h5]; omega) (q := 7) (by decide) (opV (decide (f (15 + c) = 1)) (en f j 7))
      rw [h3] at g
      refine ⟨g, h2.trans (Fr.sI _ _ _ (own3 (by decide) (hR.2.2.2.2.2.2.1 j (by omega)))), h3, h4, ?_, ?_⟩
      · show mo (up _ _ _) = _
        rw [mo_up _ _ (by omega)]; exact h5
      · show mr (up _ _ _) = _
        rw [mr_up _ _ (by omega)]; exact h6
    · rw [opG_neg (fun q => h (e4.symm.trans q))]
      have hz : zG f c (m.2 7 1) j z = z := if_neg h
      rw [hz]
      exact ⟨h1, h2, h3, h4, h5, h6⟩
theorem d_openL (hR : RS m 1 f) (hI : Inv a s f) {c : Nat} (hc : c < 5) (hq : ∀ m', Fr 1 m m' → RS m' 1 (opF f c).2 → Q (opF f c).1 m') : ∃ n, itr (α := Int32 × Int32 × Mm) (fun K a => w_X1_takeSealOff_B47 (nI c) Q (fun z0 z1 z2 => K (z0, z1, z2)) a.1 a.2.1 a.2.2) n (0, 0, m) := by
  have h16 := hI.mo16
  have hze := fun j hj => z_eq (c := c) hR hI.mr12 h16 j hj
  have ht : (nI c).toNatClampNeg = c := rs_tn (by omega)
  have hcl : opF f c = ((opC f c (mo f)).1, up (up (opC f c (mo f)).2 (10 + c) 0) (15 + c) 0) := opL_C f hc (mo f)
  rw [hcl] at hq
  have hbr : ∀ j, j ≤ mo f → (fo (zG f c (m.2 7 1)) j m).1 5 (5 * (1 - 1) + c + 1) 1 = f (15 + c) := fun j hj => by
    rw [(hze j hj).2.2.2.1]
    exact hR.brok hc
  refine (itr_for (α := Int32 × Int32 × Mm) (σ := Mm) _ (fun j z => ((opC f c j).1, nI j, z)) (mo f) (zG f c (m.2 7 1)) m (Q (opC f c (mo f)).1 (sI (sI (fo (zG f c (m.2 7 1)) (mo f) m) 5 (5 * (1 - 1) + c + 1) 0 (-1)) 5 (5 * (1 - 1) + c + 1) 1 0)) (fun K j hj => ?_) (fun K => ?_)).mpr ?_
  · have he : j < 16 := by omega
    obtain ⟨h1, h2, h3, h4, h5, h6⟩ := hze j (by omega)
    have hb := hbr j (by omega)
    have hv : vp_in (nI j) 16 := vp_in_nI he (by decide)
    have htj : (nI j).toNatClampNeg = j := rs_tn (by omega)
    have hle : ((opC f c j).2 117 ≤ nI j) = False := by
      rw [opC_at f c (fun ⟨e, _, h⟩ => by omega)]
      exact mo_lt hI.opn hj
    have hokj := hR.oke i1 he
    have e4 : en (opC f c j).2 j 4 = en f j 4 := opC_at f c (fun ⟨e, h1, h2⟩ => by omega)
    have e7 : en (opC f c j).2 j 7 = en f j 7 := opC_at f c (fun ⟨e, h1, h2⟩ => by omega)
    have r4 := h1.e4 (e := j) (by rw [h5]; exact hj)
    have r7 := h1.e7 (e := j) (by rw [h5]; exact hj)
    rw [h3, e4] at r4
    rw [h3, e7] at r7
    have hopn := h1.opn
    have hC : opC f c (j + 1) = opG (decide (f (15 + c) = 1)) (nI c) j (opC f c j) := rfl
    show w_X1_takeSealOff_B47 (nI c) Q (fun z0 z1 z2 => K (z0, z1, z2)) (opC f c j).1 (nI j) (fo (zG f c (m.2 7 1)) j m) ↔ K ((opC f c (j + 1)).1, nI (j + 1), zG f c (m.2 7 1) j (fo (zG f c (m.2 7 1)) j m))
    rw [hC]
    generalize fo (zG f c (m.2 7 1)) j m = z at *
    have hJ : ∀ v, isB v → (w_X1_takeSealOff_J102 (opC f c j).1 (nI j) z (fun z0 z1 z2 => K (z0, z1, z2)) v ↔ K ((opC f c j).1 + (1 - v), nI (j + 1), sI z 3 (m.2 7 1 j) 7 v)) := by
      intro v hv2
      unfold w_X1_takeSealOff_J102
      have hrd : (sI z 3 (m.2 7 1 j) 7 v).1 3 (m.2 7 1 j) 7 = v := sI_at _ _ _ _ _
      simp only [htj, h3, forall_eq, hrd, nI_1, hv2, true_and]
      rcases hv2 with rfl | rfl
      · simp only [not_true_eq_false, not_false_eq_true, false_implies, true_implies, true_and, and_true, forall_eq, if_true, if_false, reduceIte]
        rfl
      · simp only [z10, not_true_eq_false, not_false_eq_true, false_implies, true_implies, true_and, and_true, forall_eq, if_true, if_false, reduceIte]
        rfl
    have hpr := rng01 (hI.ent j hj).2.2.2.2.2.2.2
    have hbk := rng01 (hI.cham c hc).2.1
    by_cases h : en f j 4 = nI c
    · have hzz : zG f c (m.2 7 1) j z = sI z 3 (m.2 7 1 j) 7 (opV (decide (f (15 + c) = 1)) (en f j 7)) := if_pos h
      rw [opG_pos (e4.trans h), e7, hzz]
      rcases hpr with p | p
      · have hv0 : opV (decide (f (15 + c) = 1)) (en f j 7) = 0 := by
          rw [p]; unfold opV; split <;> rfl
        rw [hv0]
        simp only [w_X1_takeSealOff_B47, w_X1_takeSealOff_J101, hopn, hle, hv, htj, h3, hokj, r4, h, r7, p, hJ 0 isB0, not_true_eq_false, not_false_eq_true, false_implies, true_implies, true_and, and_true, forall_eq, if_true, if_false, reduceIte]
      · rcases hbk with b | b
        · have hv0 : opV (decide (f (15 + c) = 1)) (en f j 7) = 1 := by
            rw [p, b]; rfl
          rw [hv0]
          simp only [w_X1_takeSealOff_B47, w_X1_takeSealOff_J101, hopn, hle, hv, htj, ht, h3, hokj, r4, h, r7, p, hb, b, hJ 1 isB1, z10, not_true_eq_false, not_false_eq_true, false_implies, true_implies, true_and, and_true, forall_eq, if_true, if_false, reduceIte]
        · have hv0 : opV (decide (f (15 + c) = 1)) (en f j 7) = 0 := by
            rw [b]; rfl
          rw [hv0]
          simp only [w_X1_takeSealOff_B47, w_X1_takeSealOff_J101, hopn, hle, hv, htj, ht, h3, hokj, r4, h, r7, p, hb, b, hJ 0 isB0, z10, not_true_eq_false, not_false_eq_true, false_implies, true_implies, true_and, and_true, forall_eq, if_true, if_false, reduceIte]
    · have hzz : zG f c (m.2 7 1) j z = z := if_neg h
      rw [opG_neg (fun q => h (e4.symm.trans q)), hzz]
      simp only [w_X1_takeSealOff_B47, hopn, hle, hv, htj, h3, hokj, r4, h, nI_1, not_true_eq_false, not_false_eq_true, false_implies, true_implies, true_and, and_true, forall_eq, if_true, if_false, reduceIte]
  · obtain ⟨h1, h2, h3, h4, h5, h6⟩ := hze (mo f) (Nat.le_refl _)
    have hopn := h1.opn
    have hle : ((opC f c (mo f)).2 117 ≤ nI (mo f)) = True := by
      rw [opC_at f c (fun ⟨e, _, h⟩ => by omega)]
      exact mo_le hI.opn
    show w_X1_takeSealOff_B47 (nI c) Q (fun z0 z1 z2 => K (z0, z1, z2)) (opC f c (mo f)).1 (nI (mo f)) (fo (zG f c (m.2 7 1)) (mo f) m) ↔ _
    generalize fo (zG f c (m.2 7 1)) (mo f) m = z at *
    simp only [w_X1_takeSealOff_B47, hopn, hle, ht, not_true_eq_false, not_false_eq_true, false_implies, true_implies, true_and, and_true, forall_eq, if_true, if_false, reduceIte]
  · obtain ⟨h1, h2, h3, h4, h5, h6⟩ := hze (mo f) (Nat.le_refl _)
    refine hq _ (h2.trans ((Fr.sI _ _ _ (own5 (by decide) hc)).trans (Fr.sI _ _ _ (own5 (by decide) hc)))) ?_
    have g1 := h1.pc0 (by rw [h6]; exact hI.mr12) hc 0
    have g2 := g1.pc1 (by rw [mr_up _ _ (by omega), h6]; exact hI.mr12) hc 0
    exact g2
theorem d_open (hR : RS m 1 f) (hI : Inv a s f) (hsv : ∀ Q' : Mm → Prop, (∀ m1, S m1 → Q' m1) → w_X3_save 1 m Q') (hS : ∀ m1, S m1 → RS m1 1 f ∧ m1.2 = m.2) {c : Nat} (hc : c < 5)
    (h3 : f (10 + c) ≤ 0 → Q (-3) m) (h0 : ¬ f (10 + c) ≤ 0 → ∀ m1 m', S m1 → Fr 1 m1 m' → RS m' 1 (opF f c).2 → Q (opF f c).1 m') : w_X1_takeSealOff (nI c) m Q := by
  have hv5 : vp_in (nI c) 5 := vp_in_nI hc (by decide)
  have ht : (nI c).toNatClampNeg = c := rs_tn (by omega)
  unfold w_X1_takeSealOff
  simp only [isWithin_iff, cr5 hc, hv5, ht, c_isSealed hR hc, z10, not_true_eq_false, not_false_eq_true, false_implies, true_implies, true_and, and_true, if_true, if_false, reduceIte]
  by_cases b1 : f (10 + c) ≤ 0
  · simp only [b1, z10, not_true_eq_false, not_false_eq_true, false_implies, true_implies, true_and, and_true, if_true, if_false, reduceIte]
    exact h3 b1
  · simp only [b1, z10, not_true_eq_false, not_false_eq_true, false_implies, true_implies, true_and, and_true, if_true, if_false, reduceIte]
    refine hsv _ (fun m9 h9 => ?_)
    exact d_openL (hS m9 h9).1 hI hc (fun m' hF hR' => h0 b1 m9 m' h9 hF hR')
/-! days -/
def ltL (f : Nat → Int32) (j : Nat) : Int32 := fo (fun e s => if en f e 5 ≤ 200 then s + 0 else s + 1) j 0
theorem c_countLate (hR : RS m 1 f) (ho : rng (f 117) 16) (Q : Int32 → Prop) : w_X1_countLate m Q ↔ Q (ltL f (mo f)) := by
  unfold w_X1_countLate ltL
  refine itr_for _ (fun j s => (s, nI j)) (mo f) (fun e s => if en f e 5 ≤ 200 then s + 0 else s + 1) 0 _ (fun K j hj => ?_) (fun K => ?_)
  · have he : j < 16 := Nat.lt_of_lt_of_le hj ho.2
    have hv : vp_in (nI j) 16 := vp_in_nI he (by decide)
    have ht : (nI j).toNatClampNeg = j := rs_tn (by omega)
    by_cases hc : en f j 5 ≤ 200 <;> simp only [w_X1_countLate_B4, c_isLate hR hj, hc, hR.opn, mo_lt ho hj, hv, ht, hR.oke i1 he, nI_1, fo, z10, not_true_eq_false, not_false_eq_true, false_implies, true_implies, true_and, and_true, forall_eq, if_true, if_false, reduceIte]
  · simp only [w_X1_countLate_B4, hR.opn, mo_le ho, not_true_eq_false, not_false_eq_true, false_implies, true_implies, true_and, and_true, forall_eq, if_true, if_false, reduceIte]
theorem pass_at (f : Nat → Int32) (d : Int32) (k : Nat) (hk : ¬ k = 0) : passF f d k = if ∃ e, e < mo f ∧ (k = 118 + 8 * e + 5 ∨ k = 118 + 8 * e + 6) then f k + d else f k := by
  unfold passF
  rw [up_ne _ _ hk]
  exact ps_at f d (mo f) k
theorem pass_0 (f : Nat → Int32) (d : Int32) : passF f d 0 = f 0 + d := up_eq _ _ _
theorem pass_lo (f : Nat → Int32) (d : Int32) {k : Nat} (hk : ¬ k = 0) (h : k < 118) : passF f d k = f k := by
  rw [pass_at f d k hk, if_neg (fun ⟨e, _, h⟩ => by omega)]
theorem pass_en (f : Nat → Int32) (d : Int32) {e q : Nat} (he : e < mo f) (hq : q < 8) : en (passF f d) e q = if q = 5 ∨ q = 6 then en f e q + d else en f e q := by
  show passF f d (118 + 8 * e + q) = _
  rw [pass_at f d _ (by omega)]
  by_cases h : q = 5 ∨ q = 6
  · rw [if_pos h, if_pos ⟨e, he, by omega⟩]
    rfl
  · rw [if_neg h, if_neg (fun ⟨e', h1, h2⟩ => by omega)]
    rfl
theorem pass_mo (f : Nat → Int32) (d : Int32) : mo (passF f d) = mo f := by unfold mo; rw [pass_lo f d (by decide) (by decide)]
theorem pass_mr (f : Nat → Int32) (d : Int32) : mr (passF f d) = mr f := by unfold mr; rw [pass_lo f d (by decide) (by decide)]
theorem addsub2 (x y d : Int32) : x + d - (y + d) = x - y := by
  rw [Int32.sub_eq_add_neg, Int32.neg_add, Int32.sub_eq_add_neg, Int32.sub_eq_add_neg]
  rw [Int32.add_assoc, Int32.add_comm (-y) (-d), ← Int32.add_assoc d, Int32.add_right_neg, Int32.zero_add]
theorem RS.pass (h : RS m i f) (h12 : mr f ≤ 12) (d : Int32) : RS (sI m 1 i 0 (f 0 + d)) i (passF f d) := by
  obtain ⟨h1, h2, h3, h4, h5, h6, h7⟩ := h
  refine ⟨fun q hq => ?_, fun q hq => ?_, fun c hc => ?_, fun k hk q hq => ?_, fun e he q hq => ?_, fun r hr q hq => ?_, h7⟩
  · by_cases z : q = 0
    · subst z
      rw [sI_at]
      exact (pass_0 f d).symm
    · rw [sI_ne (fun y => z y.2.2), h1 q hq]
      have : q = 1 ∨ q = 2 ∨ q = 3 ∨ q = 4 := by omega
      rcases this with rfl | rfl | rfl | rfl <;> exact (pass_lo f d (by decide) (by decide)).symm
  · have := mix_rng hq
    show m.1 2 i q = _
    rw [h2 q hq, pass_lo f d (by omega) (by omega)]
  · show m.1 5 _ 0 = _ ∧ m.1 5 _ 1 = _
    rw [pass_lo f d (by omega) (by omega), pass_lo f d (by omega) (by omega)]
    exact h3 c hc
  · have := kix_rng hk hq
    show m.1 6 _ q = _
    rw [pass_lo f d (by omega) (by omega)]
    exact h4 k hk q hq
  · rw [pass_mo] at he
    show m.1 3 (m.2 7 i e) q = _
    rw [h5 e he q hq]
    unfold ev
    rw [pass_en f d he hq, pass_0]
    by_cases z : q = 5 ∨ q = 6
    · rw [if_pos z, if_pos z, if_pos z, addsub2]
    · rw [if_neg z, if_neg z, if_neg z]
  · rw [pass_mr] at hr
    show m.1 4 (m.2 8 i r) q = _
    rw [h6 r hr q hq]
    unfold rc
    rw [pass_lo f d (by omega) (by omega)]
theorem late_add {x d D : Int32} (hx : rng x D.toNatClampNeg) (hD : rng D 9999) (hd : rng d 100) (h : ¬ x ≤ 200) : ¬ x + d ≤ 200 := by
  have h1 := Nat.le_trans hx.2 hD.2
  have h2 := hd.2
  rw [hx.1] at h ⊢
  rw [hd.1]
  rw [show (200 : Int32) = nI 200 from rfl, nI_leI (by omega) (by decide)] at h
  rw [nI_add, show (200 : Int32) = nI 200 from rfl, nI_leI (by omega) (by decide)]
  omega
theorem ps_cnt (hI : Inv a s f) {d : Int32} (hd : rng d 100) : ∀ j, j ≤ mo f → (psL f d j).1 = ltL (passF f d) j - ltL f j := by
  intro j
  induction j with
  | zero => intro _; show (0 : Int32) = 0 - 0; decide
  | succ j ih =>
    intro hj
    have hj' : j < mo f := by omega
    have ih := ih (by omega)
    have e5 : en (psL f d j).2 j 5 = en f j 5 := by
      show (psL f d j).2 (118 + 8 * j + 5) = _
      rw [ps_at, if_neg (fun ⟨e, h1, h2⟩ => by omega)]
      rfl
    show (psL f d j).1 + (if en (psL f d j).2 j 5 ≤ 200 then (if en (psL f d j).2 j 5 + d ≤ 200 then 0 else 1) else 0) = (if en (passF f d) j 5 ≤ 200 then ltL (passF f d) j + 0 else ltL (passF f d) j + 1) - (if en f j 5 ≤ 200 then ltL f j + 0 else ltL f j + 1)
    have hp5 : en (passF f d) j 5 = en f j 5 + d := by
      rw [pass_en f d hj' (by decide)]
      exact if_pos (Or.inl rfl)
    rw [e5, ih, hp5]
    generalize ltL (passF f d) j = A
    generalize ltL f j = B
    by_cases h1 : en f j 5 ≤ 200
    · by_cases h2 : en f j 5 + d ≤ 200
      · rw [if_pos h1, if_pos h2, if_pos h2, if_pos h1, Int32.add_zero, Int32.add_zero, Int32.add_zero]
      · rw [if_pos h1, if_neg h2, if_neg h2, if_pos h1, Int32.add_zero, Int32.sub_eq_add_neg, Int32.sub_eq_add_neg, Int32.add_assoc, Int32.add_assoc, Int32.add_comm (-B)]
    · have h2 := late_add (hI.ent j hj').2.2.2.2.2.1 hI.day hd h1
      rw [if_neg h1, if_neg h2, if_neg h1, Int32.add_zero, addsub2]
theorem d_pass (hR : RS m 1 f) (hI : Inv a s f) (hsv : ∀ Q' : Mm → Prop, (∀ m1, S m1 → Q' m1) → w_X3_save 1 m Q') (hS : ∀ m1, S m1 → RS m1 1 f ∧ m1.2 = m.2) (x : Int32) (hx : 1 ≤ x ∧ x ≤ 100)
    (h3 : ¬ f 0 + x ≤ 9999 → Q (-3) m) (h0 : f 0 + x ≤ 9999 → ∀ m1 m', S m1 → Fr 1 m1 m' → RS m' 1 (passF f x) → Q (psL f x (mo f)).1 m') : w_X1_letPass x m Q := by
  have hxr : rng x 100 := rng_lit 100 (by decide) ⟨one_le hx.1, hx.2⟩
  unfold w_X1_letPass
  simp only [isWithin_iff, hx, hR.day, z10, not_true_eq_false, not_false_eq_true, false_implies, true_implies, true_and, and_true, if_true, if_false, reduceIte]
  refine ⟨fun hy => ?_, h3⟩
  have h0 := h0 hy
  refine hsv _ (fun m6 h6 => ?_)
  obtain ⟨hR6, e6⟩ := hS m6 h6
  rw [c_countLate hR6 hI.opn, hR6.day]
  intro m9 e9
  have g : RS m9 1 (passF f x) := by rw [e9]; exact hR6.pass hI.mr12 x
  have ho : rng (passF f x 117) 16 := by rw [pass_lo f x (by decide) (by decide)]; exact hI.opn
  rw [c_countLate g ho, pass_mo, ← ps_cnt hI hxr (mo f) (Nat.le_refl _)]
  exact h0 m6 m9 h6 (by rw [e9]; exact Fr.sI _ _ _ (own1 1)) g
end SEM16

