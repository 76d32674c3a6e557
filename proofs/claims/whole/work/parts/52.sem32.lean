section SEM32
variable {m mc mm : Mm} {T : Nat → Int32} {p n k F a s : Nat} {x : Int32} {w : Nat → Int32} {Q : Int32 → Mm → Prop} {Lp Af : Nat → Mm → Prop} {Rd : Nat → Int32 → Mm → Prop} {K : Mm → Mm → Prop}
/-- the line that is being read is whole -/
def cmpl (F k : Nat) (w : Nat → Int32) : Prop := Fok F ∧ ¬ w k = -1 ∧ gD F (k + 1) = 8
theorem Fok0 : ¬ Fok 0 := by unfold Fok; omega
theorem fL_ne (h : Fok F) : ∃ s r, fL F = s :: r := by
  have := (F_len h).2.2
  cases hl : fL F with
  | nil => rw [hl] at this; cases this
  | cons s r => exact ⟨s, r, rfl⟩
theorem c_txt (hS : StpT m T n Q Lp Af Rd) (hLA : ∀ y x F k w, y < n → Lp (y + 1) (jc m x F k w) → Af y (jc m x F k w)) (hE : ∀ x F k w, Q (nI n) (jc m x F k w) → Lp n (jc m x F k w)) : ∀ fu p x w, p ≤ n → n < p + fu → w 0 = -1 → (∀ x' F' k' w', k' < 4 → (F' = 0 ∨ (Fok F' ∧ k' < (fL F').length)) → ((txp T n fu p).1 = n → (cmpl F' k' w' ↔ (txp T n fu p).2 = true)) → Q (nI (txp T n fu p).1) (jc m x' F' k' w')) → Lp p (jc m x 0 0 w) := by
  intro fu
  induction fu with
  | zero => intro p x w hp hk; omega
  | succ fu ih =>
    intro p x w hp hk hw hfin
    unfold txp at hfin
    by_cases hlt : p < n
    · by_cases hs : fm (T p) = 0
      · rw [if_neg (fun z => z.2 hs)] at hfin
        refine hS.1 p x 0 0 w hlt ?_
        rw [c_letter, if_pos hs]
        refine hS.2.2.2 _ _ _ _ _ (hfin (T p) 0 0 w (by decide) (Or.inl rfl) (fun hpn => ?_))
        have hpn : p = n := hpn
        omega
      · rw [if_pos ⟨hlt, hs⟩] at hfin
        have hF := fm_ok _ hs
        obtain ⟨s0, r0, hl⟩ := fL_ne hF
        have hdr : (fL (fm (T p))).drop 0 = s0 :: r0 := hl
        have hX : fl T n (lts (T p)) (p + 1) = fl T n (s0 :: r0) (p + 1) := by unfold lts; rw [hl]
        rw [hX] at hfin
        have hr := fl_rng (T := T) (n := n) (s0 :: r0) (p + 1) (by omega)
        obtain ⟨l1, l2, l3⟩ := F_len hF
        refine hS.1 p x 0 0 w hlt ?_
        rw [c_letter, if_neg hs]
        refine hS.2.2.1 _ _ _ _ _ ?_
        refine hLA _ _ _ _ _ hlt ?_
        by_cases hok : (fl T n (s0 :: r0) (p + 1)).2.2 = true
        · rw [if_pos hok] at hfin
          refine c_ln hS hF r0 s0 0 (p + 1) w hdr (by omega) hw hok (fun w' v hw1 hw2 hw3 hw4 hw5 => ?_)
          generalize fl T n (s0 :: r0) (p + 1) = X at *
          have e1 : X.1 - 1 + 1 = X.1 := by omega
          refine hLA _ _ _ _ _ (by omega) ?_
          rw [e1]
          have hv := hw4 v rfl
          have hne : ¬ w' ((fL (fm (T p))).length - 1) = -1 := by rw [hw3]; exact nI_nm1 (by omega)
          have hg8 : gD (fm (T p)) ((fL (fm (T p))).length - 1 + 1) = 8 := gD_out (by omega)
          by_cases h3 : X.1 < n
          · rw [if_pos h3] at hfin
            by_cases h4 : T X.1 = 59
            · rw [if_pos h4] at hfin
              refine hS.1 _ _ _ _ _ h3 ?_
              rw [c_nodig hF (by omega) (by rw [h4]; decide), if_neg hne, hg8, if_pos (show T X.1 = sgn 8 from h4), if_pos h4]
              exact hS.2.2.1 _ _ _ _ _ (hLA _ _ _ _ _ h3 (ih (X.1 + 1) _ _ (by omega) (by omega) (up_eq _ _ _) hfin))
            · rw [if_neg h4] at hfin
              have hf2 := hfin (T p) (fm (T p)) ((fL (fm (T p))).length - 1) w' (by omega) (Or.inr ⟨hF, by omega⟩) (fun z => by
                have z : X.1 = n := z
                omega)
              refine hS.1 _ _ _ _ _ h3 ?_
              by_cases hd : 48 ≤ T X.1 ∧ T X.1 ≤ 57
              · exact c_digit hF (by omega) (v := some v) hw3 hw4 hd (fun y hy => by rw [hw5 h3] at hy; cases hy) (fun _ => hS.2.2.2 _ _ _ _ _ hf2)
              · rw [c_nodig hF (by omega) hd, if_neg hne, hg8, if_neg (show ¬ T X.1 = sgn 8 from h4)]
                exact hS.2.2.2 _ _ _ _ _ hf2
          · rw [if_neg h3] at hfin
            have hen : X.1 = n := by omega
            have hf2 := hfin (T p) (fm (T p)) ((fL (fm (T p))).length - 1) w' (by omega) (Or.inr ⟨hF, by omega⟩) (fun _ => ⟨fun _ => rfl, fun _ => ⟨hF, hne, hg8⟩⟩)
            have hf2 : Q (nI X.1) (jc m (T p) (fm (T p)) ((fL (fm (T p))).length - 1) w') := hf2
            rw [hen] at hf2 ⊢
            exact hE _ _ _ _ hf2
        · rw [if_neg hok] at hfin
          refine c_lnN hS hLA hE hF r0 s0 0 (p + 1) w hdr (by omega) hw hok (fun k' w' hk' hi => ?_)
          refine hfin (T p) (fm (T p)) k' w' (by omega) (Or.inr ⟨hF, hk'⟩) (fun _ => ⟨fun z => ?_, fun z => by cases z⟩)
          rcases hi with hi | hi
          · exact absurd hi z.2.1
          · have := (gD_8 hF).mp z.2.2
            omega
    · rw [if_neg (fun z => hlt z.1)] at hfin
      have hpn : p = n := by omega
      have hf2 := hfin x 0 0 w (by decide) (Or.inl rfl) (fun _ => ⟨fun z => absurd z.1 Fok0, fun z => by cases z⟩)
      have hf2 : Q (nI p) (jc m x 0 0 w) := hf2
      rw [hpn] at hf2 ⊢
      exact hE _ _ _ _ hf2
/-- the text of the class -/
def CT (m : Mm) (T : Nat → Int32) (n : Nat) : Prop := m.1 17 1 1 = nI n ∧ n ≤ 60 ∧ ∀ j, j < n → m.1 18 1 j = T j
theorem CT.jc (h : CT m T n) (x : Int32) (F k : Nat) (w : Nat → Int32) : CT (jc m x F k w) T n := by
  obtain ⟨h1, h2, h3⟩ := h
  exact ⟨by rw [jc_o _ _ _ _ _ (by decide) (by decide)]; exact h1, h2, fun j hj => by rw [jc_o _ _ _ _ _ (by omega) (by omega)]; exact h3 j hj⟩
theorem c_start0 (Q : Mm → Prop) : w_X4_startLine m Q ↔ Q (jc m (m.1 17 1 2) 0 0 (up (m.1 19 1) 0 (-1))) := by
  unfold w_X4_startLine w_X4_startNumber
  have hv : vp_in 0 4 := vp_in_nI (n := 0) (by decide) (by decide)
  simp only [forall_eq, hv, true_and]
  refine iff_of_eq (congrArg Q (Mm_ext (fun t i q => ?_) rfl))
  show (if t = 19 ∧ i = 1 ∧ q = 0 then (-1 : Int32) else if t = 17 ∧ i = 1 ∧ q = 4 then 0 else m.1 t i q) = if t = 17 ∧ i = 1 ∧ q = 2 then m.1 17 1 2 else if t = 17 ∧ i = 1 ∧ q = 4 then nI 0 else if t = 19 ∧ i = 1 then (if q = 0 then -1 else m.1 19 1 q) else m.1 t i q
  by_cases h : t = 19 ∧ i = 1
  · rw [if_neg (show ¬ (t = 17 ∧ i = 1 ∧ q = 2) by omega), if_neg (show ¬ (t = 17 ∧ i = 1 ∧ q = 4) by omega), if_pos h, if_neg (show ¬ (t = 17 ∧ i = 1 ∧ q = 4) by omega)]
    by_cases z : q = 0
    · rw [if_pos ⟨h.1, h.2, z⟩, if_pos z]
    · rw [if_neg (fun y => z y.2.2), if_neg z, h.1, h.2]
  · rw [if_neg (fun z => h ⟨z.1, z.2.1⟩), if_neg h]
    by_cases y : t = 17 ∧ i = 1 ∧ q = 2
    · rw [if_pos y, if_neg (by omega), y.1, y.2.1, y.2.2]
    · rw [if_neg y]
      rfl
theorem c_first (hT : CT m T n) (Q : Int32 → Mm → Prop) (hq : ∀ x' F' k' w', k' < 4 → (F' = 0 ∨ (Fok F' ∧ k' < (fL F').length)) → ((txp T n (n + 1) 0).1 = n → (cmpl F' k' w' ↔ (txp T n (n + 1) 0).2 = true)) → Q (nI (txp T n (n + 1) 0).1) (jc m x' F' k' w')) : w_X4_firstWrong m Q := by
  obtain ⟨t1, t2, t3⟩ := hT
  unfold w_X4_firstWrong
  rw [c_start0]
  refine ⟨n - 0 + 1, ?_⟩
  refine c_txt (m := m) (T := T) (n := n) (Q := Q) (Lp := fun y m' => itr (α := Int32 × Mm) (fun K a => w_X4_firstWrong_B6 Q (fun z0 z1 => K (z0, z1)) a.1 a.2) (n - y + 1) (nI y, m')) (Af := fun y m' => itr (α := Int32 × Mm) (fun K a => w_X4_firstWrong_B6 Q (fun z0 z1 => K (z0, z1)) a.1 a.2) (n - y) (nI (y + 1), m')) (Rd := fun y r m' => (¬ r = 0 → itr (α := Int32 × Mm) (fun K a => w_X4_firstWrong_B6 Q (fun z0 z1 => K (z0, z1)) a.1 a.2) (n - y) (nI (y + 1), m')) ∧ (r = 0 → Q (nI y) m')) ⟨fun y x F k w hy hR => ?_, fun y x F k w hy _ hL => ?_, fun y x F k w hA => ⟨fun _ => hA, fun z => absurd z z10⟩, fun y x F k w hq => ⟨fun z => absurd rfl z, fun _ => hq⟩⟩ (fun y x F k w hy hL => ?_) (fun x F k w hQ => ?_) (n + 1) 0 _ _ (Nat.zero_le _) (by omega) (up_eq _ _ _) hq
  · obtain ⟨u1, u2, u3⟩ := CT.jc (m := m) ⟨t1, t2, t3⟩ x F k w
    have hle : ¬ nI n ≤ nI y := fun z => by have := (le_nI (by omega) (by omega)).mp z; omega
    have hv : vp_in (nI y) 60 := vp_in_nI (by omega) (by decide)
    have ht : (nI y).toNatClampNeg = y := rs_tn (by omega)
    show w_X4_firstWrong_B6 Q (fun z0 z1 => itr (α := Int32 × Mm) (fun K a => w_X4_firstWrong_B6 Q (fun z0 z1 => K (z0, z1)) a.1 a.2) (n - y) (z0, z1)) (nI y) (jc m x F k w)
    have hR : w_X4_reads (T y) (jc m x F k w) (fun r m' => (¬ r = 0 → (fun (z0 : Int32) (z1 : Mm) => itr (α := Int32 × Mm) (fun K a => w_X4_firstWrong_B6 Q (fun z0 z1 => K (z0, z1)) a.1 a.2) (n - y) (z0, z1)) (nI (y + 1)) m') ∧ (r = 0 → Q (nI y) m')) := hR
    generalize (fun (z0 : Int32) (z1 : Mm) => itr (α := Int32 × Mm) (fun K a => w_X4_firstWrong_B6 Q (fun z0 z1 => K (z0, z1)) a.1 a.2) (n - y) (z0, z1)) = KK at hR ⊢
    unfold w_X4_firstWrong_B6
    simp only [u1, hle, hv, ht, u3 y hy, nI_1, not_true_eq_false, not_false_eq_true, false_implies, true_implies, true_and, and_true, forall_eq, if_true, if_false, reduceIte]
    exact hR
  · have e : n - y = n - (y + 1) + 1 := by omega
    show itr _ (n - y) _
    rw [e]
    exact hL
  · have e : n - y = n - (y + 1) + 1 := by omega
    show itr _ (n - y) _
    rw [e]
    exact hL
  · obtain ⟨u1, u2, u3⟩ := CT.jc (m := m) ⟨t1, t2, t3⟩ x F k w
    show w_X4_firstWrong_B6 Q _ (nI n) (jc m x F k w)
    unfold w_X4_firstWrong_B6
    simp only [u1, show nI n ≤ nI n from Int32.le_refl _, not_true_eq_false, not_false_eq_true, false_implies, true_implies, true_and, and_true, forall_eq, if_true, if_false, reduceIte]
    exact hQ
theorem c_lineC (h4 : k < 4) (hF : F = 0 ∨ (Fok F ∧ k < (fL F).length)) (Q : Int32 → Prop) : w_X4_isLineComplete (jc m x F k w) Q ↔ (cmpl F k w ∧ Q 1) ∨ (¬ cmpl F k w ∧ Q 0) := by
  unfold w_X4_isLineComplete
  rcases hF with rfl | ⟨hF, hk⟩
  · have : ¬ cmpl 0 k w := fun z => Fok0 z.1
    simp only [jc_3, this, false_and, false_or, not_true_eq_false, not_false_eq_true, false_implies, true_implies, true_and, and_true, forall_eq, if_true, if_false, reduceIte]
  · have hF0 : ¬ F = 0 := by unfold Fok at hF; omega
    have hvk : vp_in (nI k) 4 := vp_in_nI h4 (by decide)
    have htk : (nI k).toNatClampNeg = k := rs_tn (by omega)
    simp only [jc_3, hF0, jc_4, hvk, htk, jc_19, nI_1, c_sortAt hF (show k + 1 ≤ 4 by omega), not_true_eq_false, not_false_eq_true, false_implies, true_implies, true_and, and_true, forall_eq, if_true, if_false, reduceIte]
    have hg : (nI (gD F (k + 1)) = 8) ↔ gD F (k + 1) = 8 := by
      refine ⟨fun z => ?_, fun z => by rw [z]; rfl⟩
      by_cases hk1 : k + 1 < (fL F).length
      · have := (F_at hF hk1).2
        exact (nI_eq (b := 8) (by omega) (by decide)).mp z
      · exact gD_out (by omega)
    by_cases hw : w k = -1
    · have : ¬ cmpl F k w := fun z => z.2.1 hw
      simp only [hw, this, false_and, false_or, not_true_eq_false, not_false_eq_true, false_implies, true_implies, true_and, and_true, forall_eq, if_true, if_false, reduceIte]
    · by_cases h8 : gD F (k + 1) = 8
      · have : cmpl F k w := ⟨hF, hw, h8⟩
        simp only [hw, hg.mpr h8, this, false_and, or_false, not_true_eq_false, not_false_eq_true, false_implies, true_implies, true_and, and_true, forall_eq, if_true, if_false, reduceIte]
      · have : ¬ cmpl F k w := fun z => h8 z.2.2
        have h8' : ¬ nI (gD F (k + 1)) = 8 := fun z => h8 (hg.mp z)
        simp only [hw, h8', this, false_and, false_or, not_true_eq_false, not_false_eq_true, false_implies, true_implies, true_and, and_true, forall_eq, if_true, if_false, reduceIte]
theorem c_isComplete (hT : CT m T n) (Q : Int32 → Mm → Prop) (hq : ∀ x F k w, Q (bo (txp T n (n + 1) 0).2) (jc m x F k w)) : w_X4_isComplete m Q := by
  unfold w_X4_isComplete
  refine c_first hT _ (fun x' F' k' w' hk hF hc => ?_)
  have hle := txp_le (T := T) (n := n) (n + 1) 0 (Nat.zero_le _)
  obtain ⟨u1, u2, u3⟩ := hT.jc x' F' k' w'
  rw [u1]
  by_cases he : (txp T n (n + 1) 0).1 = n
  · have hc := hc he
    refine ⟨fun z => absurd (by rw [he]) z, fun _ => ?_⟩
    rw [c_lineC hk hF]
    by_cases hw : (txp T n (n + 1) 0).2 = true
    · refine Or.inl ⟨hc.mpr hw, fun z => absurd z z10, fun _ => ?_⟩
      have := hq x' F' k' w'
      rw [hw] at this
      exact this
    · refine Or.inr ⟨fun z => hw (hc.mp z), fun _ => ?_, fun z => absurd rfl z⟩
      have := hq x' F' k' w'
      have hb : bo (txp T n (n + 1) 0).2 = 0 := if_neg hw
      rw [hb] at this
      exact this
  · refine ⟨fun _ => ?_, fun z => absurd ((nI_eq (by omega) (by omega)).mp z) he⟩
    have hw : ¬ (txp T n (n + 1) 0).2 = true := fun z => he (hle.2 z)
    have := hq x' F' k' w'
    have hb : bo (txp T n (n + 1) 0).2 = 0 := if_neg hw
    rw [hb] at this
    exact this
/-- only some of the class's cells matter -/
theorem Rel.oth {mc' : Mm} (h : Rel a s mc mm) (e : ∀ t i j, (t < 9 ∨ t = 12 ∨ t = 15 ∨ t = 18 ∨ (t = 17 ∧ i = 1 ∧ j = 1)) → mc'.1 t i j = mc.1 t i j) (er : ∀ t i j, t < 9 → mc'.2 t i j = mc.2 t i j) : Rel a s mc' mm := by
  obtain ⟨hR, hI, ⟨g1, g2, g3, g4, g5, g6⟩, hp0, j1, j2, j3⟩ := h
  have hown : ∀ t j z, 1 ≤ z → own t j = z → t < 9 := fun t j z hz ho => by
    by_cases hh : t < 9
    · exact hh
    · have : own t j = 0 := by
        unfold own
        rw [if_neg (by omega), if_neg (by omega), if_neg (by omega), if_neg (by omega), if_neg (by omega)]
      omega
  have hfr : ∀ {z : Nat} {y : Nat → Int32}, RS mc z y → 1 ≤ z → mo y ≤ 16 → mr y ≤ 12 → RS mc' z y := fun hx h1 h16 h12 => hx.frame h1 h16 h12 (fun t j q ho => ⟨e t j q (Or.inl (hown t j _ h1 ho)), er t j q (hown t j _ h1 ho)⟩)
  have e12 : ∀ q, mc'.1 12 1 q = mc.1 12 1 q := fun q => e 12 1 q (by omega)
  have e17 : mc'.1 17 1 1 = mc.1 17 1 1 := e 17 1 1 (by omega)
  refine ⟨hfr hR (by decide) hI.mo16 hI.mr12, hI, ⟨?_, ?_, ?_, fun k hk => ?_, fun k hk => ?_, fun z h1 h2 => ?_⟩, ?_, ?_, ?_, fun j hj => ?_⟩
  · rw [e12]; exact g1
  · rw [e12]; exact g2
  · rw [e12]; exact g3
  · rw [e12] at hk
    rw [e12]
    obtain ⟨w1, w2⟩ := g4 k hk
    exact ⟨hfr w1 (by omega) w2.mo16 w2.mr12, w2⟩
  · rw [e 15 1 k (by omega)]
    obtain ⟨w1, w2, w3⟩ := g5 k hk
    exact ⟨w1, w2, fun y => ⟨hfr (w3 y).1 (by omega) (w3 y).2.mo16 (w3 y).2.mr12, (w3 y).2⟩⟩
  · unfold RSp
    rw [show mc'.2 7 z = mc.2 7 z from funext (fun q => er 7 z q (by decide)), show mc'.2 8 z = mc.2 8 z from funext (fun q => er 8 z q (by decide))]
    exact g6 z h1 h2
  · rw [e12]; exact hp0
  · rw [e17]; exact j1
  · rw [e17]; exact j2
  · rw [e17] at hj
    rw [e 18 1 j (by omega)]
    exact j3 j hj
theorem Rel.jrn (h : Rel a s mc mm) (x : Int32) (F k : Nat) (w : Nat → Int32) : Rel a s (jc mc x F k w) mm :=
  h.oth (fun t i j ht => jc_o _ _ _ _ _ (by omega) (by omega)) (fun t i j ht => jc_r _ _ _ _ _ (by omega))
theorem Rel.jvm (h : Rel a s mc mm) (c : Nat → Int32) : Rel a s mc (jv mm c) :=
  h.mm (funext (fun j => jv_out _ _ (by omega))) (funext (fun j => jv_out _ _ (by omega))) (funext (fun j => jv_out _ _ (by omega))) (funext (fun j => jv_out _ _ (by omega))) (funext (fun j => jv_out _ _ (by omega))) (jv_out _ _ (by decide)) (jv_out _ _ (by decide))
/-- both hold one text -/
theorem Rel.txt (h : Rel a s mc mm) : ∃ n, CT mc (mc.1 18 1) n ∧ TM mm (mc.1 18 1) n := by
  obtain ⟨_, _, _, _, j1, j2, j3⟩ := h
  obtain ⟨n, hn, he⟩ := j2.ex
  have ht : (mc.1 17 1 1).toNatClampNeg = n := by rw [he]; exact rs_tn (by omega)
  exact ⟨n, ⟨he, hn, fun j hj => rfl⟩, ⟨by rw [j1, he], hn, fun j hj => j3 j (by rw [ht]; exact hj)⟩⟩
theorem J_firstError (h : Hy a s mc mm K) : w_X9_firstError mc (fun r m1 => jn (w_X10_firstError mm) (K m1) r) := by
  obtain ⟨n, hC, hM⟩ := h.1.txt
  unfold w_X9_firstError
  refine c_first hC _ (fun x' F' k' w' _ _ _ => ?_)
  unfold jn w_X10_firstError
  simp only [forall_eq]
  have hM0 : TM (sI mm 30 1 0 0) (mc.1 18 1) n := by
    obtain ⟨t1, t2, t3⟩ := hM
    exact ⟨by rw [ref_ne (by decide)]; exact t1, t2, t3⟩
  refine m_reads0 hM0 _ (fun c' _ => ⟨rfl, h.2.2.2 _ _ ((((h.1.ref 0).jvm c').jrn x' F' k' w').mono (by omega) (by omega) h.2.2.1)⟩)
theorem J_clearText (h : Hy a s mc mm K) : w_X9_clearText mc (fun r m1 => jn (w_X10_clearText mm) (K m1) r) := by
  obtain ⟨n, hC, hM⟩ := h.1.txt
  unfold w_X9_clearText w_X4_wipe jn w_X10_clearText
  simp only [forall_eq]
  rw [ref_ne (show ¬ 2 = 0 by decide), hM.1, hC.1]
  refine ⟨rfl, h.2.2.2 _ _ (Rel.mono (a := a) (s := s) ?_ (by omega) (by omega) h.2.2.1)⟩
  obtain ⟨hR, hI, ⟨g1, g2, g3, g4, g5, g6⟩, hp0, j1, j2, j3⟩ := h.1
  have hown : ∀ t j z, 1 ≤ z → own t j = z → ¬ t = 17 := fun t j z hz ho hh => by
    rw [hh, own0 (by decide)] at ho
    omega
  have hfr : ∀ {z : Nat} {y : Nat → Int32}, RS mc z y → 1 ≤ z → mo y ≤ 16 → mr y ≤ 12 → RS (sI mc 17 1 1 0) z y := fun hx h1 h16 h12 => hx.frame h1 h16 h12 (fun t j q ho => ⟨sI_ne (fun z => hown t j _ h1 ho z.1), rfl⟩)
  have e0 : (sI mc 17 1 1 0).1 17 1 1 = 0 := sI_at _ _ _ _ _
  have e12 : ∀ t j q, ¬ t = 17 → (sI mc 17 1 1 0).1 t j q = mc.1 t j q := fun t j q ht => sI_ne (fun z => ht z.1)
  refine ⟨hfr hR (by decide) hI.mo16 hI.mr12, hI, ⟨?_, ?_, ?_, fun k hk => ?_, fun k hk => ?_, fun z h1 h2 => g6 z h1 h2⟩, ?_, ?_, ?_, fun j hj => ?_⟩
  · rw [e12 _ _ _ (by decide)]; exact g1
  · rw [e12 _ _ _ (by decide)]; exact g2
  · rw [e12 _ _ _ (by decide), ref_ne (by decide), ref_ne (by decide)]; exact g3
  · rw [e12 _ _ _ (by decide)] at hk
    rw [e12 _ _ _ (by decide)]
    obtain ⟨w1, w2⟩ := g4 k hk
    exact ⟨hfr w1 (by omega) w2.mo16 w2.mr12, w2⟩
  · rw [e12 _ _ _ (by decide)]
    obtain ⟨w1, w2, w3⟩ := g5 k hk
    exact ⟨w1, w2, fun y => ⟨hfr (w3 y).1 (by omega) (w3 y).2.mo16 (w3 y).2.mr12, (w3 y).2⟩⟩
  · rw [e12 _ _ _ (by decide)]; exact hp0
  · rw [e0]; exact ref_ref
  · rw [e0]; exact rng_of (n := 0) (by decide) (by decide)
  · rw [e0] at hj
    exact absurd hj (Nat.not_lt_zero _)
end SEM32
