section SEM3
variable {a s : Nat}
theorem eq16 {f : Nat → Int32} (h : rng (f 117) 16) : (16 ≤ f 117) ↔ f 117 = 16 := by
  have h2 := h.2
  rw [h.1, show (16 : Int32) = nI 16 from rfl, nI_leI (by omega) (by omega), nI_eq (by omega) (by omega)]
  omega
theorem eq60 {f : Nat → Int32} (h : rng (f 1) 60) : (60 ≤ f 1) ↔ f 1 = 60 := by
  have h2 := h.2
  rw [h.1, show (60 : Int32) = nI 60 from rfl, nI_leI (by omega) (by omega), nI_eq (by omega) (by omega)]
  omega
theorem age0 (f : Nat → Int32) (k : Nat) (v w : Int32) : dutyF f k v w 0 = sumF f k v w := by
  unfold dutyF
  rw [if_pos (by decide)]
theorem m_whyE {mm : Mm} (hI : Inv a s (mm.1 32 1)) {k c : Nat} (hk : k < 6) (hc : c < 5) (w v : Int32) (Q : Int32 → Prop) : w_X10_noEntry (nI k) w v (nI c) mm Q ↔ Q (whyE (mm.1 32 1) k w v (nI c)) := by
  unfold w_X10_noEntry whyE
  simp only [rs_tn (show c < 2147483648 by omega), m_isShut hc, m_room hI, m_stake hI, m_duty0 hk, eq16 hI.opn, eq60 hI.made, age0]
  by_cases b1 : mm.1 32 1 4 ≤ 0
  · by_cases b2 : mm.1 32 1 (10 + c) ≤ 0
    · by_cases b3 : w ≤ roomF (mm.1 32 1) (nI c)
      · by_cases b4 : mm.1 32 1 117 = 16
        · simp only [b1, b2, b3, b4, z10, not_true_eq_false, not_false_eq_true, false_implies, true_implies, true_and, and_true, forall_eq, if_true, if_false, reduceIte]
        · by_cases b5 : mm.1 32 1 1 = 60
          · simp only [b1, b2, b3, b4, b5, z10, not_true_eq_false, not_false_eq_true, false_implies, true_implies, true_and, and_true, forall_eq, if_true, if_false, reduceIte]
          · by_cases b6 : stakeF (mm.1 32 1) + sumF (mm.1 32 1) k v w ≤ mm.1 32 1 5 <;> simp only [b1, b2, b3, b4, b5, b6, z10, not_true_eq_false, not_false_eq_true, false_implies, true_implies, true_and, and_true, forall_eq, if_true, if_false, reduceIte]
      · simp only [b1, b2, b3, not_true_eq_false, not_false_eq_true, false_implies, true_implies, true_and, and_true, forall_eq, if_true, if_false, reduceIte]
    · simp only [b1, b2, z10, not_true_eq_false, not_false_eq_true, false_implies, true_implies, true_and, and_true, forall_eq, if_true, if_false, reduceIte]
  · simp only [b1, not_true_eq_false, not_false_eq_true, false_implies, true_implies, true_and, and_true, forall_eq, if_true, if_false, reduceIte]
theorem shut_e {mm : Mm} {e : Nat} (hE : EI (mm.1 32 1) e) (Q : Int32 → Prop) : w_X10_isShut (en (mm.1 32 1) e 4) mm Q ↔ if (mm.1 32 1 (10 + (en (mm.1 32 1) e 4).toNatClampNeg)) ≤ 0 then Q 0 else Q 1 := by
  have h := m_isShut hE.c.2 mm Q
  rw [← hE.c.1] at h
  exact h
theorem m_whyL {mm : Mm} (hI : Inv a s (mm.1 32 1)) {e : Nat} (he : e < mo (mm.1 32 1)) (w : Int32) (Q : Int32 → Prop) : w_X10_noLeaving (nI e) w mm Q ↔ Q (whyL (mm.1 32 1) e w) := by
  have hE := hI.ent e he
  have h6 : e < 16 := Nat.lt_of_lt_of_le he hI.mo16
  unfold w_X10_noLeaving whyL
  simp only [m_of4 h6, m_of7 h6, m_of2 h6, shut_e hE]
  by_cases b1 : mm.1 32 1 4 ≤ 0
  · by_cases b2 : mm.1 32 1 (10 + (en (mm.1 32 1) e 4).toNatClampNeg) ≤ 0
    · by_cases b3 : en (mm.1 32 1) e 7 = 0
      · simp only [b1, b2, b3, not_true_eq_false, not_false_eq_true, false_implies, true_implies, true_and, and_true, forall_eq, if_true, if_false, reduceIte]
      · by_cases b4 : w ≤ en (mm.1 32 1) e 2 <;> simp only [b1, b2, b3, b4, not_true_eq_false, not_false_eq_true, false_implies, true_implies, true_and, and_true, forall_eq, if_true, if_false, reduceIte]
    · simp only [b1, b2, z10, not_true_eq_false, not_false_eq_true, false_implies, true_implies, true_and, and_true, forall_eq, if_true, if_false, reduceIte]
  · simp only [b1, not_true_eq_false, not_false_eq_true, false_implies, true_implies, true_and, and_true, forall_eq, if_true, if_false, reduceIte]
theorem whyL_nn (f : Nat → Int32) (e : Nat) (w : Int32) : (whyL f e w ≤ 0) ↔ whyL f e w = 0 := by
  unfold whyL
  split
  · split
    · split
      · decide
      · split <;> decide
    · decide
  · decide
theorem m_whyW {mm : Mm} (hI : Inv a s (mm.1 32 1)) {e : Nat} (he : e < mo (mm.1 32 1)) (w : Int32) (Q : Int32 → Prop) : w_X10_noWithdrawal (nI e) w mm Q ↔ Q (whyW (mm.1 32 1) e w) := by
  have h6 : e < 16 := Nat.lt_of_lt_of_le he hI.mo16
  unfold w_X10_noWithdrawal whyW
  simp only [m_whyL hI he, m_dutyPart h6 (hI.ent e he), whyL_nn]
  by_cases b1 : whyL (mm.1 32 1) e w = 0
  · by_cases b2 : dutyPF (mm.1 32 1) e w ≤ mm.1 32 1 3 <;> simp only [b1, b2, not_true_eq_false, not_false_eq_true, false_implies, true_implies, true_and, and_true, forall_eq, if_true, if_false, reduceIte]
  · simp only [b1, not_true_eq_false, not_false_eq_true, false_implies, true_implies, true_and, and_true, forall_eq, if_true, if_false, reduceIte]
theorem m_whyX {mm : Mm} (hI : Inv a s (mm.1 32 1)) {e : Nat} (he : e < mo (mm.1 32 1)) (w : Int32) (Q : Int32 → Prop) : w_X10_noExport (nI e) w mm Q ↔ Q (whyX (mm.1 32 1) e w) := by
  have h6 : e < 16 := Nat.lt_of_lt_of_le he hI.mo16
  unfold w_X10_noExport whyX
  simp only [m_whyL hI he, m_isLate h6, whyL_nn]
  by_cases b1 : whyL (mm.1 32 1) e w = 0
  · by_cases b2 : en (mm.1 32 1) e 5 ≤ 200 <;> simp only [b1, b2, z10, not_true_eq_false, not_false_eq_true, false_implies, true_implies, true_and, and_true, forall_eq, if_true, if_false, reduceIte]
  · simp only [b1, not_true_eq_false, not_false_eq_true, false_implies, true_implies, true_and, and_true, forall_eq, if_true, if_false, reduceIte]
theorem m_whyM {mm : Mm} (hI : Inv a s (mm.1 32 1)) {e c : Nat} (he : e < mo (mm.1 32 1)) (hc : c < 5) (Q : Int32 → Prop) : w_X10_noMove (nI e) (nI c) mm Q ↔ Q (whyM (mm.1 32 1) e (nI c)) := by
  have hE := hI.ent e he
  have h6 : e < 16 := Nat.lt_of_lt_of_le he hI.mo16
  unfold w_X10_noMove whyM
  simp only [m_of4 h6, m_of7 h6, m_of2 h6, shut_e hE, m_isShut hc, m_room hI, rs_tn (show c < 2147483648 by omega)]
  by_cases b1 : en (mm.1 32 1) e 4 = nI c
  · simp only [b1, not_true_eq_false, not_false_eq_true, false_implies, true_implies, true_and, and_true, forall_eq, if_true, if_false, reduceIte]
  · by_cases b2 : mm.1 32 1 (10 + (en (mm.1 32 1) e 4).toNatClampNeg) ≤ 0
    · by_cases b3 : en (mm.1 32 1) e 7 = 0
      · simp only [b1, b2, b3, not_true_eq_false, not_false_eq_true, false_implies, true_implies, true_and, and_true, forall_eq, if_true, if_false, reduceIte]
      · by_cases b4 : mm.1 32 1 (10 + c) ≤ 0
        · by_cases b5 : en (mm.1 32 1) e 2 ≤ roomF (mm.1 32 1) (nI c) <;> simp only [b1, b2, b3, b4, b5, not_true_eq_false, not_false_eq_true, false_implies, true_implies, true_and, and_true, forall_eq, if_true, if_false, reduceIte]
        · simp only [b1, b2, b3, b4, z10, not_true_eq_false, not_false_eq_true, false_implies, true_implies, true_and, and_true, forall_eq, if_true, if_false, reduceIte]
    · simp only [b1, b2, z10, not_true_eq_false, not_false_eq_true, false_implies, true_implies, true_and, and_true, forall_eq, if_true, if_false, reduceIte]
theorem p2 {x y : Int32} (hx : rng x 1) (hy : rng y 1) : x + y = 2 ↔ (¬ x = 0 ∧ ¬ y = 0) := by
  obtain ⟨n, hn, rfl⟩ := hx.ex
  obtain ⟨k, hk, rfl⟩ := hy.ex
  have h1 : n = 0 ∨ n = 1 := by omega
  have h2 : k = 0 ∨ k = 1 := by omega
  rcases h1 with rfl | rfl <;> rcases h2 with rfl | rfl <;> decide
theorem m_canJ {mm : Mm} (hI : Inv a s (mm.1 32 1)) {e d : Nat} (he : e < mo (mm.1 32 1)) (hd : d < mo (mm.1 32 1)) (Q : Int32 → Prop) : w_X10_canMerge (nI e) (nI d) mm Q ↔ (canJ (mm.1 32 1) e d ∧ Q 1) ∨ (¬ canJ (mm.1 32 1) e d ∧ Q 0) := by
  have hE := hI.ent e he
  have hD := hI.ent d hd
  have h6 : e < 16 := Nat.lt_of_lt_of_le he hI.mo16
  have h7 : d < 16 := Nat.lt_of_lt_of_le hd hI.mo16
  unfold w_X10_canMerge canJ
  simp only [m_of4 h6, m_of7 h6, m_of2 h6, m_of1 h6, m_of4 h7, m_of7 h7, m_of2 h7, m_of1 h7, shut_e hE, p2 hE.2.2.2.2.2.2.2 hD.2.2.2.2.2.2.2]
  generalize mm.1 32 1 = f
  by_cases b1 : en f e 1 = en f d 1
  · by_cases b2 : en f e 4 = en f d 4
    · by_cases b3 : f (10 + (en f e 4).toNatClampNeg) ≤ 0
      · by_cases b4 : en f e 7 = 0
        · simp [b1, b2, b4, show f (10 + (en f d 4).toNatClampNeg) ≤ 0 from b2 ▸ b3]
        · by_cases b5 : en f d 7 = 0
          · simp [b1, b2, b4, b5, show f (10 + (en f d 4).toNatClampNeg) ≤ 0 from b2 ▸ b3]
          · by_cases b6 : 999 < en f e 2 + en f d 2 <;> simp [b1, b2, b4, b5, b6, show f (10 + (en f d 4).toNatClampNeg) ≤ 0 from b2 ▸ b3]
      · have b3' : ¬ f (10 + (en f d 4).toNatClampNeg) ≤ 0 := b2 ▸ b3
        simp [b1, b2, b3']
    · simp [b1, b2]
  · simp [b1]
/-! waste, loss, charge -/
def wst (f : Nat → Int32) (e : Nat) : Int32 := en f e 2 * stv 3 (knd f e) * (en f e 6 / 10) / 1000
def allowF (f : Nat → Int32) (e : Nat) : Int32 := if wst f e < en f e 2 then wst f e else en f e 2
def lossF (f : Nat → Int32) (e : Nat) (w : Int32) : Int32 := if 0 < en f e 2 - w - allowF f e then en f e 2 - w - allowF f e else 0
def chargeF (f : Nat → Int32) (e : Nat) (x : Int32) : Int32 := if en f e 7 = 0 then 2 * dutyPF f e x else dutyPF f e x
theorem m_wasteRate {k : Nat} (hk : k < 6) (mm : Mm) (Q : Int32 → Prop) : w_X10_wasteRate (nI k) mm Q ↔ Q (stv 3 k) := by
  unfold w_X10_wasteRate
  have h : k = 0 ∨ k = 1 ∨ k = 2 ∨ k = 3 ∨ k = 4 ∨ k = 5 := by omega
  rcases h with rfl | rfl | rfl | rfl | rfl | rfl
  · exact ⟨fun h => (((h.1 (by decide)).1 (by decide)).1 (by decide)).1 (by decide), fun h => ⟨fun _ => ⟨fun _ => ⟨fun _ => ⟨fun _ => h, fun q => absurd q (by decide)⟩, fun q => absurd q (by decide)⟩, fun q => absurd q (by decide)⟩, fun q => absurd q (by decide)⟩⟩
  · exact ⟨fun h => h.2 (by decide), fun h => ⟨fun q => absurd (by decide) q, fun _ => h⟩⟩
  · exact ⟨fun h => (h.1 (by decide)).2 (by decide), fun h => ⟨fun _ => ⟨fun q => absurd (by decide) q, fun _ => h⟩, fun q => absurd q (by decide)⟩⟩
  · exact ⟨fun h => ((h.1 (by decide)).1 (by decide)).2 (by decide), fun h => ⟨fun _ => ⟨fun _ => ⟨fun q => absurd (by decide) q, fun _ => h⟩, fun q => absurd q (by decide)⟩, fun q => absurd q (by decide)⟩⟩
  · exact ⟨fun h => (((h.1 (by decide)).1 (by decide)).1 (by decide)).2 (by decide), fun h => ⟨fun _ => ⟨fun _ => ⟨fun _ => ⟨fun q => absurd (by decide) q, fun _ => h⟩, fun q => absurd q (by decide)⟩, fun q => absurd q (by decide)⟩, fun q => absurd q (by decide)⟩⟩
  · exact ⟨fun h => (((h.1 (by decide)).1 (by decide)).1 (by decide)).1 (by decide), fun h => ⟨fun _ => ⟨fun _ => ⟨fun _ => ⟨fun _ => h, fun q => absurd q (by decide)⟩, fun q => absurd q (by decide)⟩, fun q => absurd q (by decide)⟩, fun q => absurd q (by decide)⟩⟩
theorem minle (x w : Int32) (Q : Int32 → Prop) : ((x ≤ w → Q x) ∧ (¬ x ≤ w → Q w)) ↔ Q (if x < w then x else w) := by
  have e1 := @Int32.le_iff_toInt_le x w
  have e2 := @Int32.lt_iff_toInt_lt x w
  by_cases h : x < w
  · have h' : x ≤ w := e1.mpr (by have := e2.mp h; omega)
    simp only [h, h', not_true_eq_false, not_false_eq_true, false_implies, true_implies, true_and, and_true, forall_eq, if_true, if_false, reduceIte]
  · by_cases h' : x ≤ w
    · have : x = w := Int32.toInt_inj.mp (by have := e1.mp h'; have := mt e2.mpr h; omega)
      subst this
      simp only [h', not_true_eq_false, not_false_eq_true, false_implies, true_implies, true_and, and_true, forall_eq, if_true, if_false, reduceIte]
      split <;> rfl
    · simp only [h, h', not_true_eq_false, not_false_eq_true, false_implies, true_implies, true_and, and_true, forall_eq, if_true, if_false, reduceIte]
theorem m_allowed {mm : Mm} {e : Nat} (h6 : e < 16) (hE : EI (mm.1 32 1) e) (Q : Int32 → Prop) : w_X10_allowed (nI e) mm Q ↔ Q (allowF (mm.1 32 1) e) := by
  unfold w_X10_allowed allowF wst
  simp only [m_of2 h6, m_of1 h6, m_of6 h6]
  rw [hE.k.1]
  simp only [m_wasteRate hE.k.2, forall_eq, minle]
theorem allow_rng {f : Nat → Int32} {e : Nat} (hE : EI f e) (hd : rng (f 0) 9999) : rng (allowF f e) (en f e 2).toNatClampNeg := by
  obtain ⟨hk, hw, hw1, hv, hc, ha, hg, hp⟩ := hE
  have h1 := hw.2
  have h2 := Nat.le_trans hg.2 hd.2
  unfold allowF wst
  have hr : ∃ r, r ≤ 20 ∧ stv 3 (knd f e) = nI r := by
    have h9 : knd f e ≤ 5 := hk.2
    have h : knd f e = 0 ∨ knd f e = 1 ∨ knd f e = 2 ∨ knd f e = 3 ∨ knd f e = 4 ∨ knd f e = 5 := by omega
    rcases h with h | h | h | h | h | h <;> rw [h]
    · exact ⟨0, by decide, rfl⟩
    · exact ⟨5, by decide, rfl⟩
    · exact ⟨10, by decide, rfl⟩
    · exact ⟨2, by decide, rfl⟩
    · exact ⟨20, by decide, rfl⟩
    · exact ⟨0, by decide, rfl⟩
  obtain ⟨r, hr, e1⟩ := hr
  have hw0 := hw.1
  rw [e1, hg.1]
  generalize hW : (en f e 2).toNatClampNeg = W at *
  generalize hG : (en f e 6).toNatClampNeg = Z at *
  rw [hw0]
  rw [show (10 : Int32) = nI 10 from rfl, show (1000 : Int32) = nI 1000 from rfl, pk_div (by omega) (by omega) (by omega), pk_mul, pk_mul]
  have b1 : W * r ≤ 999 * 20 := Nat.mul_le_mul h1 hr
  have b2 : W * r * (Z / 10) ≤ 999 * 20 * 999 := Nat.mul_le_mul b1 (by omega)
  rw [pk_div (by omega) (by omega) (by omega)]
  split
  · rename_i h
    rw [nI_ltI (by omega) (by omega)] at h
    exact rng_of (by omega) (by omega)
  · exact rng_of (Nat.le_refl _) (by omega)
theorem m_lostBy {mm : Mm} {e : Nat} (h6 : e < 16) (hE : EI (mm.1 32 1) e) (hd : rng (mm.1 32 1 0) 9999) {w : Int32} (hw : rng w (en (mm.1 32 1) e 2).toNatClampNeg) (Q : Int32 → Prop) : w_X10_lostBy (nI e) w mm Q ↔ Q (lossF (mm.1 32 1) e w) := by
  unfold w_X10_lostBy lossF
  simp only [m_of2 h6, m_allowed h6 hE, forall_eq]
  have ha := allow_rng hE hd
  generalize allowF (mm.1 32 1) e = y at *
  have h1 := hE.2.1.2
  have h2 := hw.2
  have h3 := ha.2
  rw [hE.2.1.1, hw.1, ha.1, pk_sub h2]
  generalize (en (mm.1 32 1) e 2).toNatClampNeg = W at *
  generalize w.toNatClampNeg = w' at *
  generalize y.toNatClampNeg = y' at *
  by_cases h : W - w' ≤ y'
  · have g1 : nI (W - w') ≤ nI y' := (nI_leI (by omega) (by omega)).mpr h
    have g2 : ¬ 0 < nI (W - w') - nI y' := by
      rw [Int32.lt_iff_toInt_lt, pk_sub_toInt (by omega) (by omega)]
      simp
      omega
    simp only [g1, g2, not_true_eq_false, not_false_eq_true, false_implies, true_implies, true_and, and_true, forall_eq, if_true, if_false, reduceIte]
  · have g1 : ¬ nI (W - w') ≤ nI y' := fun q => h ((nI_leI (by omega) (by omega)).mp q)
    have g2 : 0 < nI (W - w') - nI y' := by
      rw [Int32.lt_iff_toInt_lt, pk_sub_toInt (by omega) (by omega)]
      simp
      omega
    simp only [g1, g2, not_true_eq_false, not_false_eq_true, false_implies, true_implies, true_and, and_true, forall_eq, if_true, if_false, reduceIte]
theorem duty00 (f : Nat → Int32) (k : Nat) (z : Int32) : dutyF f k 0 0 z = 0 := by
  unfold dutyF sumF
  rw [Int32.zero_mul, Int32.zero_mul]
  split <;> rfl
theorem dutyP0 {f : Nat → Int32} {e : Nat} (hE : EI f e) : dutyPF f e 0 = 0 := by
  unfold dutyPF shareF
  rw [Int32.mul_zero, hE.2.1.1]
  have h1 := hE.2.1.2
  have h2 := hE.2.2.1
  rw [show (0 : Int32) = nI 0 from rfl, pk_div (by omega) (by omega) (by omega), Nat.zero_div]
  exact duty00 f _ _
theorem m_chargeBy {mm : Mm} {e : Nat} (h6 : e < 16) (hE : EI (mm.1 32 1) e) (hd : rng (mm.1 32 1 0) 9999) {w : Int32} (hw : rng w (en (mm.1 32 1) e 2).toNatClampNeg) (Q : Int32 → Prop) : w_X10_chargeBy (nI e) w mm Q ↔ Q (chargeF (mm.1 32 1) e (lossF (mm.1 32 1) e w)) := by
  unfold w_X10_chargeBy chargeF
  simp only [m_lostBy h6 hE hd hw, m_dutyPart h6 hE, m_of7 h6]
  have h7 := hE.2.2.2.2.2.2.2
  have h8 : en (mm.1 32 1) e 7 = 0 ∨ en (mm.1 32 1) e 7 = 1 := by
    obtain ⟨n, hn, h9⟩ := h7.ex
    have h1 : n = 0 ∨ n = 1 := by omega
    rcases h1 with rfl | rfl
    · exact Or.inl h9
    · exact Or.inr h9
  by_cases b1 : lossF (mm.1 32 1) e w = 0
  · rw [b1, dutyP0 hE]
    rcases h8 with h8 | h8 <;> simp only [h8, z10, not_true_eq_false, not_false_eq_true, false_implies, true_implies, true_and, and_true, forall_eq, if_true, if_false, reduceIte] <;> rfl
  · rcases h8 with h8 | h8
    · simp only [h8, b1, show ¬ (0 : Int32) = 1 by decide, not_true_eq_false, not_false_eq_true, false_implies, true_implies, true_and, and_true, forall_eq, if_true, if_false, reduceIte]
    · simp only [h8, b1, z10, not_true_eq_false, not_false_eq_true, false_implies, true_implies, true_and, and_true, forall_eq, if_true, if_false, reduceIte]
variable {m : Mm} {i : Nat} {f : Nat → Int32}
theorem c_allowed (hR : RS m i f) (hI : Inv a s f) {e : Nat} (he : e < mo f) (Q : Int32 → Prop) : w_X8_wasteAllowedNow i (m.2 7 i e) m Q ↔ Q (allowF f e) := by
  have hE := hI.ent e he
  have h1 : vp_in (en f e 1) (slen 3) := hE.1.vp (show 5 < slen 3 by decide) (by decide)
  unfold w_X8_wasteAllowedNow allowF wst
  simp only [hR.day, hR.e6 he, hR.e1 he, hR.e2 he, ssub, forall_eq, h1, true_and]
  rfl
theorem c_lossIf (hR : RS m i f) (hI : Inv a s f) {e : Nat} (he : e < mo f) (w : Int32) (Q : Int32 → Prop) : w_X8_lossIf i (m.2 7 i e) w m Q ↔ Q (lossF f e w) := by
  unfold w_X8_lossIf lossF
  simp only [c_allowed hR hI he, hR.e2 he]
theorem c_chargeFor (hR : RS m i f) (hI : Inv a s f) {e : Nat} (he : e < mo f) (w : Int32) (Q : Int32 → Prop) : w_X8_chargeFor i (m.2 7 i e) w m Q ↔ Q (chargeF f e w) := by
  unfold w_X8_chargeFor chargeF
  simp only [c_dutyNow hR hI he, hR.e7 he]
  by_cases h : en f e 7 = 0 <;> simp only [h, not_true_eq_false, not_false_eq_true, false_implies, true_implies, true_and, and_true, forall_eq, if_true, if_false, reduceIte]
/-! receipts, ranges -/
def partF (f : Nat → Int32) (r : Nat) (w : Int32) : Int32 := rc f r 2 * w / rc f r 1
def backF (f : Nat → Int32) (r : Nat) (w : Int32) : Int32 := partF f r w * 9 / 10
theorem rng_ix {x p : Int32} {b : Nat} (h : rng x b) (hb : b < 2147483648) : (0 ≤ p ∧ p ≤ x - 1) ↔ ∃ r, r < x.toNatClampNeg ∧ p = nI r := by
  have h2 := h.2
  constructor
  · rintro ⟨h0, h1⟩
    obtain ⟨j, hj, rfl⟩ := nI_of (x := p) (fun q => by
      rw [Int32.le_iff_toInt_le] at h0
      rw [Int32.lt_iff_toInt_lt] at q
      omega)
    refine ⟨j, ?_, rfl⟩
    rw [h.1] at h1
    generalize x.toNatClampNeg = n at *
    cases n with
    | zero =>
      exfalso
      rw [Int32.le_iff_toInt_le, nI_toInt hj] at h1
      have : (nI 0 - 1).toInt = -1 := by decide
      omega
    | succ n =>
      rw [nI_pred, nI_leI hj (by omega)] at h1
      omega
  · rintro ⟨r, hr, rfl⟩
    refine ⟨nI_pos' (by omega), ?_⟩
    rw [h.1]
    generalize x.toNatClampNeg = n at *
    cases n with
    | zero => omega
    | succ n =>
      rw [nI_pred, nI_leI (by omega) (by omega)]
      omega
theorem rc_ix (f : Nat → Int32) {r q : Nat} (hr : r < 12) (hq : q < 4) : f ((69 : Int32) + 4 * nI r + nI q).toNatClampNeg = rc f r q ∧ vp_in ((69 : Int32) + 4 * nI r + nI q) 246 := by
  rw [show (69 : Int32) = nI 69 from rfl, show (4 : Int32) = nI 4 from rfl, pk_mul, nI_add, nI_add, rs_tn (by omega)]
  exact ⟨rfl, vp_in_nI (by omega) (by omega)⟩
theorem rc_ix0 (f : Nat → Int32) {r : Nat} (hr : r < 12) : f ((69 : Int32) + 4 * nI r).toNatClampNeg = rc f r 0 ∧ vp_in ((69 : Int32) + 4 * nI r) 246 := by
  rw [show (69 : Int32) = nI 69 from rfl, show (4 : Int32) = nI 4 from rfl, pk_mul, nI_add, rs_tn (by omega)]
  exact ⟨rfl, vp_in_nI (by omega) (by omega)⟩
theorem rc_ix1 (f : Nat → Int32) {r : Nat} (hr : r < 12) : f ((69 : Int32) + 4 * nI r + 1).toNatClampNeg = rc f r 1 ∧ vp_in ((69 : Int32) + 4 * nI r + 1) 246 := rc_ix f hr (q := 1) (by decide)
theorem rc_ix2 (f : Nat → Int32) {r : Nat} (hr : r < 12) : f ((69 : Int32) + 4 * nI r + 2).toNatClampNeg = rc f r 2 ∧ vp_in ((69 : Int32) + 4 * nI r + 2) 246 := rc_ix f hr (q := 2) (by decide)
theorem rc_ix3 (f : Nat → Int32) {r : Nat} (hr : r < 12) : f ((69 : Int32) + 4 * nI r + 3).toNatClampNeg = rc f r 3 ∧ vp_in ((69 : Int32) + 4 * nI r + 3) 246 := rc_ix f hr (q := 3) (by decide)
theorem m_partOf {r : Nat} (hr : r < 12) {mm : Mm} (h0 : ¬ rc (mm.1 32 1) r 1 = 0) (w : Int32) (Q : Int32 → Prop) : w_X10_partOf (nI r) w mm Q ↔ Q (partF (mm.1 32 1) r w) := by
  unfold w_X10_partOf partF
  simp only [rc_ix1 (mm.1 32 1) hr, rc_ix2 (mm.1 32 1) hr, h0, not_true_eq_false, not_false_eq_true, false_implies, true_implies, true_and, and_true, forall_eq, if_true, if_false, reduceIte]
theorem m_backOf {r : Nat} (hr : r < 12) {mm : Mm} (h0 : ¬ rc (mm.1 32 1) r 1 = 0) (w : Int32) (Q : Int32 → Prop) : w_X10_backOf (nI r) w mm Q ↔ Q (backF (mm.1 32 1) r w) := by
  unfold w_X10_backOf backF
  simp only [m_partOf hr h0]
theorem m_whyD {mm : Mm} {r : Nat} (hr : r < 12) (w : Int32) (Q : Int32 → Prop) : w_X10_noDrawback (nI r) w mm Q ↔ Q (whyD (mm.1 32 1) r w) := by
  unfold w_X10_noDrawback whyD
  simp only [rc_ix1 (mm.1 32 1) hr, rc_ix3 (mm.1 32 1) hr, true_and]
  by_cases b1 : mm.1 32 1 4 ≤ 0
  · by_cases b2 : mm.1 32 1 0 - rc (mm.1 32 1) r 3 ≤ 60
    · by_cases b3 : w ≤ rc (mm.1 32 1) r 1 <;> simp only [b1, b2, b3, not_true_eq_false, not_false_eq_true, false_implies, true_implies, true_and, and_true, forall_eq, if_true, if_false, reduceIte]
    · simp only [b1, b2, not_true_eq_false, not_false_eq_true, false_implies, true_implies, true_and, and_true, forall_eq, if_true, if_false, reduceIte]
  · simp only [b1, not_true_eq_false, not_false_eq_true, false_implies, true_implies, true_and, and_true, forall_eq, if_true, if_false, reduceIte]
theorem m_isPaper (p : Int32) (mm : Mm) (Q : Int32 → Prop) : w_X10_isPaper p mm Q ↔ if 0 ≤ p ∧ p ≤ mm.1 32 1 68 - 1 then Q 1 else Q 0 := by
  unfold w_X10_isPaper
  rw [w_in (A := 0) p 0 (mm.1 32 1 68 - 1) rfl rfl]
  simp only [isB0, isB1, not_true_eq_false, not_false_eq_true, false_implies, true_implies, true_and, and_true, forall_eq, if_true, if_false, reduceIte]
theorem c_findReceipt (hR : RS m i f) (hI : Inv a s f) (p : Int32) (Q : Nat → Prop) : w_X8_findReceipt i p m Q ↔ if 0 ≤ p ∧ p ≤ f 68 - 1 then Q (m.2 8 i p.toNatClampNeg) else Q 0 := by
  unfold w_X8_findReceipt
  simp only [isWithin_iff, hR.recs]
  by_cases h : 0 ≤ p ∧ p ≤ f 68 - 1
  · obtain ⟨r, hr, rfl⟩ := (rng_ix hI.recs (by decide)).mp h
    have h2 := hI.recs.2
    have hv : vp_in (nI r) 12 := vp_in_nI (by omega) (by decide)
    simp only [h, hv, z10, not_true_eq_false, not_false_eq_true, false_implies, true_implies, true_and, and_true, forall_eq, if_true, if_false, reduceIte]
  · simp only [if_neg h, not_true_eq_false, not_false_eq_true, false_implies, true_implies, true_and, and_true, forall_eq, if_true, if_false, reduceIte]
theorem c_dutyPart (hR : RS m i f) {r : Nat} (hr : r < mr f) (h0 : 0 < rc f r 1) (w : Int32) (Q : Int32 → Prop) : w_X7_dutyPart (m.2 8 i r) w m Q ↔ Q (partF f r w) := by
  have h1 : ¬ rc f r 1 = 0 := fun e => by rw [e] at h0; exact absurd h0 (by decide)
  unfold w_X7_dutyPart partF
  simp only [hR.r1 hr, hR.r2 hr, h0, h1, not_true_eq_false, not_false_eq_true, false_implies, true_implies, true_and, and_true, forall_eq, if_true, if_false, reduceIte]
theorem c_numberAt (hR : RS m i f) (hI : Inv a s f) (hi : 1 ≤ i ∧ i ≤ 9) (p : Int32) (Q : Int32 → Prop) : w_X8_numberAt i p m Q ↔ if 0 ≤ p ∧ p ≤ f 117 - 1 then Q (en f p.toNatClampNeg 0) else Q (-1) := by
  unfold w_X8_numberAt
  simp only [isWithin_iff, hR.opn]
  by_cases h : 0 ≤ p ∧ p ≤ f 117 - 1
  · obtain ⟨r, hr, rfl⟩ := (rng_ix hI.opn (by decide)).mp h
    have h2 := hI.opn.2
    have hv : vp_in (nI r) 16 := vp_in_nI (by omega) (by decide)
    have ht : (nI r).toNatClampNeg = r := rs_tn (by omega)
    simp only [h, hv, ht, hR.oke hi (show r < 16 by omega), hR.e0 hr, z10, not_true_eq_false, not_false_eq_true, false_implies, true_implies, true_and, and_true, forall_eq, if_true, if_false, reduceIte]
  · simp only [if_neg h, not_true_eq_false, not_false_eq_true, false_implies, true_implies, true_and, and_true, forall_eq, if_true, if_false, reduceIte]
end SEM3

