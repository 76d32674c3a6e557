section SEM5
theorem sum_rng {f : Nat → Int32} {k v w : Nat} (hk : rng (f (20 + k)) 60 ∧ rng (f (26 + k)) 80) (hv : v ≤ 659880) (hw : w ≤ 999) : ∃ n, n ≤ 396800 ∧ sumF f k (nI v) (nI w) = nI n ∧ n = (v * (f (20 + k)).toNatClampNeg + 99) / 100 + (w * (f (26 + k)).toNatClampNeg + 99) / 100 := by
  unfold sumF
  have h1 := hk.1.2
  have h2 := hk.2.2
  rw [hk.1.1, hk.2.1]
  generalize (f (20 + k)).toNatClampNeg = r at *
  generalize (f (26 + k)).toNatClampNeg = q at *
  have b1 : v * r ≤ 659880 * 60 := Nat.mul_le_mul hv h1
  have b2 : w * q ≤ 999 * 80 := Nat.mul_le_mul hw h2
  rw [show (99 : Int32) = nI 99 from rfl, show (100 : Int32) = nI 100 from rfl, pk_mul, pk_mul, nI_add, nI_add, pk_div (by omega) (by omega) (by omega), pk_div (by omega) (by omega) (by omega), nI_add]
  rw [rs_tn (show r < 2147483648 by omega), rs_tn (show q < 2147483648 by omega)]
  exact ⟨_, by omega, rfl, rfl⟩
theorem duty_rng {f : Nat → Int32} {k v w : Nat} (hk : rng (f (20 + k)) 60 ∧ rng (f (26 + k)) 80) (hv : v ≤ 659880) (hw : w ≤ 999) (z : Int32) : ∃ n, n ≤ 440000 ∧ dutyF f k (nI v) (nI w) z = nI n ∧ n ≤ 2 * v + 2 * w := by
  obtain ⟨n, hn, h, he⟩ := sum_rng hk hv hw
  have h1 := hk.1.2
  have h2 := hk.2.2
  have b1 : v * (f (20 + k)).toNatClampNeg ≤ v * 60 := Nat.mul_le_mul_left v h1
  have b2 : w * (f (26 + k)).toNatClampNeg ≤ w * 80 := Nat.mul_le_mul_left w h2
  have c1 : (v * (f (20 + k)).toNatClampNeg + 99) / 100 ≤ v := by omega
  have c2 : (w * (f (26 + k)).toNatClampNeg + 99) / 100 ≤ w := by omega
  unfold dutyF
  rw [h]
  split
  · exact ⟨n, by omega, rfl, by omega⟩
  · rw [show (9 : Int32) = nI 9 from rfl, show (10 : Int32) = nI 10 from rfl, nI_add, pk_div (by omega) (by omega) (by omega), nI_add]
    exact ⟨_, by omega, rfl, by omega⟩
variable {a s : Nat} {f : Nat → Int32}
theorem dutyA_rng (hI : Inv a s f) {e : Nat} (he : e < mo f) : rng (dutyAF f e) 440000 := by
  have hE := hI.ent e he
  unfold dutyAF
  rw [hE.2.2.2.1.1, hE.2.1.1]
  obtain ⟨n, hn, h, _⟩ := duty_rng (hI.kinds _ hE.k.2) hE.2.2.2.1.2 hE.2.1.2 (en f e 5)
  rw [h]
  exact rng_of hn (by decide)
theorem share_rng (hI : Inv a s f) {e w : Nat} (he : e < mo f) (hw : w ≤ (en f e 2).toNatClampNeg) : ∃ v, v ≤ (en f e 3).toNatClampNeg ∧ shareF f e (nI w) = nI v ∧ v = (en f e 3).toNatClampNeg * w / (en f e 2).toNatClampNeg := by
  have hE := hI.ent e he
  unfold shareF
  have h1 := hE.2.1.2
  have h2 := hE.2.2.2.1.2
  have h3 := hE.2.2.1
  rw [hE.2.2.2.1.1, hE.2.1.1]
  generalize (en f e 3).toNatClampNeg = V at *
  generalize (en f e 2).toNatClampNeg = W at *
  have b1 : V * w ≤ 659880 * 999 := Nat.mul_le_mul h2 (by omega)
  rw [pk_mul, pk_div (by omega) (by omega) (by omega), rs_tn (show V < 2147483648 by omega), rs_tn (show W < 2147483648 by omega)]
  exact ⟨_, Nat.div_le_of_le_mul (by rw [Nat.mul_comm W V]; exact Nat.mul_le_mul_left V hw), rfl, rfl⟩
theorem dutyP_rng (hI : Inv a s f) {e w : Nat} (he : e < mo f) (hw : w ≤ (en f e 2).toNatClampNeg) : ∃ n, n ≤ 440000 ∧ dutyPF f e (nI w) = nI n ∧ n ≤ 2 * ((en f e 3).toNatClampNeg * w / (en f e 2).toNatClampNeg) + 2 * w := by
  have hE := hI.ent e he
  obtain ⟨v, hv, h, h'⟩ := share_rng hI he hw
  unfold dutyPF
  rw [h, ← h']
  have h1 := hE.2.1.2
  have h2 := hE.2.2.2.1.2
  exact duty_rng (hI.kinds _ hE.k.2) (by omega) (by omega) _
/-! the best of a row: none, or a place -/
def eo (b : Option Nat) : Int32 := match b with
  | none => -1
  | some k => nI k
theorem eo_n : eo none = -1 := rfl
theorem eo_s (k : Nat) : eo (some k) = nI k := rfl
theorem fo_lt {g : Nat → Option Nat → Option Nat} (hg : ∀ e b, g e b = some e ∨ g e b = b) : ∀ j k, fo g j none = some k → k < j := by
  intro j
  induction j with
  | zero => intro k h; cases h
  | succ j ih =>
    intro k h
    show k < j + 1
    have h : g j (fo g j none) = some k := h
    rcases hg j (fo g j none) with q | q
    · rw [q] at h
      have := Option.some.inj h
      omega
    · rw [q] at h
      have := ih k h
      omega
def nextG (f : Nat → Int32) (e : Nat) (b : Option Nat) : Option Nat := match b with
  | none => if en f e 5 ≤ 200 then some e else none
  | some k => if en f e 5 ≤ 200 then (if en f e 5 ≤ en f k 5 then some k else some e) else some k
def nextF (f : Nat → Int32) : Option Nat := fo (nextG f) (mo f) none
theorem nextG_ok (f : Nat → Int32) (e : Nat) (b : Option Nat) : nextG f e b = some e ∨ nextG f e b = b := by
  unfold nextG
  cases b with
  | none => simp only; split; exact Or.inl rfl; exact Or.inr rfl
  | some k => simp only; split; split; exact Or.inr rfl; exact Or.inl rfl; exact Or.inr rfl
def dearG (f : Nat → Int32) (e : Nat) (b : Option Nat) : Option Nat := match b with
  | none => some e
  | some k => if dutyAF f e ≤ dutyAF f k then some k else some e
def dearF (f : Nat → Int32) : Option Nat := fo (dearG f) (mo f) none
theorem dearG_ok (f : Nat → Int32) (e : Nat) (b : Option Nat) : dearG f e b = some e ∨ dearG f e b = b := by
  unfold dearG
  cases b with
  | none => exact Or.inl rfl
  | some k => simp only; split; exact Or.inr rfl; exact Or.inl rfl
variable {m : Mm} {i : Nat}
theorem day_le {D x y : Int32} (hd : rng D 9999) (hx : rng x D.toNatClampNeg) (hy : rng y D.toNatClampNeg) : (D - x ≤ D - y) ↔ y ≤ x := by
  have h1 := hd.2
  have h2 := hx.2
  have h3 := hy.2
  rw [hd.1, hx.1, hy.1]
  generalize D.toNatClampNeg = d at *
  generalize x.toNatClampNeg = x at *
  generalize y.toNatClampNeg = y at *
  rw [pk_sub h2, pk_sub h3, nI_leI (by omega) (by omega), nI_leI (by omega) (by omega)]
  omega
theorem c_nextLate (hR : RS m i f) (hI : Inv a s f) (hi : 1 ≤ i ∧ i ≤ 9) (Q : Int32 → Prop) : w_X8_nextLate i m Q ↔ Q (eo (nextF f)) := by
  unfold w_X8_nextLate nextF
  refine itr_for _ (fun j b => (eo b, nI j)) (mo f) (nextG f) none _ (fun K j hj => ?_) (fun K => ?_)
  · have he : j < 16 := Nat.lt_of_lt_of_le hj hI.mo16
    have hv : vp_in (nI j) 16 := vp_in_nI he (by decide)
    have ht : (nI j).toNatClampNeg = j := rs_tn (by omega)
    have hb := fo_lt (nextG_ok f) j
    show w_X8_nextLate_B4 i m Q (fun z0 z1 => K (z0, z1)) (eo (fo (nextG f) j none)) (nI j) ↔ K (eo (nextG f j (fo (nextG f) j none)), nI (j + 1))
    generalize fo (nextG f) j none = b at *
    cases b with
    | none =>
      by_cases hl : en f j 5 ≤ 200 <;> simp only [w_X8_nextLate_B4, nextG, eo_n, eo_s, c_isLate hR hj, hl, hR.opn, mo_lt hI.opn hj, hv, ht, hR.oke hi he, nI_1, z10, not_true_eq_false, not_false_eq_true, false_implies, true_implies, true_and, and_true, forall_eq, if_true, if_false, reduceIte]
    | some k =>
      have hk : k < j := hb k rfl
      have hkm : k < mo f := by omega
      have hvk : vp_in (nI k) 16 := vp_in_nI (by omega) (by decide)
      have htk : (nI k).toNatClampNeg = k := rs_tn (by omega)
      have hnk : ¬ nI k = (-1) := nI_nm1 (by omega)
      have hcmp := day_le hI.day (hI.ent k hkm).2.2.2.2.2.1 (hI.ent j hj).2.2.2.2.2.1
      by_cases hl : en f j 5 ≤ 200
      · by_cases hc : en f j 5 ≤ en f k 5 <;> simp only [w_X8_nextLate_B4, nextG, eo_n, eo_s, c_isLate hR hj, hl, hR.opn, mo_lt hI.opn hj, hv, ht, hvk, htk, hnk, hR.oke hi he, hR.oke hi (show k < 16 by omega), hR.e5 hj, hR.e5 hkm, hcmp, hc, nI_1, z10, not_true_eq_false, not_false_eq_true, false_implies, true_implies, true_and, and_true, forall_eq, if_true, if_false, reduceIte]
      · simp only [w_X8_nextLate_B4, nextG, eo_n, eo_s, c_isLate hR hj, hl, hR.opn, mo_lt hI.opn hj, hv, ht, hR.oke hi he, nI_1, z10, not_true_eq_false, not_false_eq_true, false_implies, true_implies, true_and, and_true, forall_eq, if_true, if_false, reduceIte]
  · simp only [w_X8_nextLate_B4, hR.opn, mo_le hI.opn, not_true_eq_false, not_false_eq_true, false_implies, true_implies, true_and, and_true, forall_eq, if_true, if_false, reduceIte]
/-- the number of the best -/
def numF (f : Nat → Int32) (b : Option Nat) : Int32 := match b with
  | none => -1
  | some k => en f k 0
theorem c_numberB (hR : RS m i f) (hI : Inv a s f) (hi : 1 ≤ i ∧ i ≤ 9) (b : Option Nat) (hb : ∀ k, b = some k → k < mo f) (Q : Int32 → Prop) : w_X8_numberAt i (eo b) m Q ↔ Q (numF f b) := by
  rw [c_numberAt hR hI hi]
  cases b with
  | none => rw [if_neg (fun q => absurd q.1 (by decide))]; rfl
  | some k =>
    have hk := hb k rfl
    have h16 := hI.mo16
    show (if 0 ≤ nI k ∧ nI k ≤ f 117 - 1 then Q (en f (nI k).toNatClampNeg 0) else Q (-1)) ↔ _
    rw [if_pos ((rng_ix hI.opn (by decide)).mpr ⟨k, hk, rfl⟩)]
    rw [rs_tn (by omega)]
    rfl
theorem m_numB {mm : Mm} (b : Option Nat) (hb : ∀ k, b = some k → k < 16) (Q : Int32 → Prop) : ((¬ eo b = (-1) → w_X10_of (eo b) 0 mm (fun r => Q r)) ∧ (eo b = (-1) → Q (-1))) ↔ Q (numF (mm.1 32 1) b) := by
  cases b with
  | none => simp only [eo_n, numF, not_true_eq_false, not_false_eq_true, false_implies, true_implies, true_and, and_true, forall_eq, if_true, if_false, reduceIte]
  | some k =>
    have hk := hb k rfl
    have hnk : ¬ nI k = (-1) := nI_nm1 (by omega)
    simp only [eo_s, numF, hnk, m_of0 hk, not_true_eq_false, not_false_eq_true, false_implies, true_implies, true_and, and_true, forall_eq, if_true, if_false, reduceIte]
theorem m_next {mm : Mm} (hI : Inv a s (mm.1 32 1)) (Q : Int32 → Mm → Prop) : (∃ n, itr (α := Int32 × Int32) (fun K a => w_X10_nextOverdue_B9 Q mm (fun z0 z1 => K (z0, z1)) a.1 a.2) n ((-1), 0)) ↔ Q (numF (mm.1 32 1) (nextF (mm.1 32 1))) mm := by
  unfold nextF
  have hlt := fo_lt (nextG_ok (mm.1 32 1))
  refine itr_for _ (fun j b => (eo b, nI j)) (mo (mm.1 32 1)) (nextG (mm.1 32 1)) none _ (fun K j hj => ?_) (fun K => ?_)
  · have he : j < 16 := Nat.lt_of_lt_of_le hj hI.mo16
    have hb := hlt j
    show w_X10_nextOverdue_B9 Q mm (fun z0 z1 => K (z0, z1)) (eo (fo (nextG (mm.1 32 1)) j none)) (nI j) ↔ K (eo (nextG (mm.1 32 1) j (fo (nextG (mm.1 32 1)) j none)), nI (j + 1))
    generalize fo (nextG (mm.1 32 1)) j none = b at *
    cases b with
    | none =>
      by_cases hl : en (mm.1 32 1) j 5 ≤ 200 <;> simp only [w_X10_nextOverdue_B9, nextG, eo_n, eo_s, m_isLate he, hl, mo_lt hI.opn hj, nI_1, z10, not_true_eq_false, not_false_eq_true, false_implies, true_implies, true_and, and_true, forall_eq, if_true, if_false, reduceIte]
    | some k =>
      have hk : k < j := hb k rfl
      have hk16 : k < 16 := by omega
      have hnk : ¬ nI k = (-1) := nI_nm1 (by omega)
      by_cases hl : en (mm.1 32 1) j 5 ≤ 200
      · by_cases hc : en (mm.1 32 1) j 5 ≤ en (mm.1 32 1) k 5 <;> simp only [w_X10_nextOverdue_B9, nextG, eo_n, eo_s, m_isLate he, m_of5 he, m_of5 hk16, hl, mo_lt hI.opn hj, hnk, hc, nI_1, z10, not_true_eq_false, not_false_eq_true, false_implies, true_implies, true_and, and_true, forall_eq, if_true, if_false, reduceIte]
      · simp only [w_X10_nextOverdue_B9, nextG, eo_n, eo_s, m_isLate he, hl, mo_lt hI.opn hj, nI_1, z10, not_true_eq_false, not_false_eq_true, false_implies, true_implies, true_and, and_true, forall_eq, if_true, if_false, reduceIte]
  · have h := m_numB (mm := mm) (fo (nextG (mm.1 32 1)) (mo (mm.1 32 1)) none) (fun k q => Nat.lt_of_lt_of_le (hlt _ k q) hI.mo16) (fun r => Q r mm)
    simp only [w_X10_nextOverdue_B9, mo_le hI.opn, not_true_eq_false, not_false_eq_true, false_implies, true_implies, true_and, and_true, forall_eq, if_true, if_false, reduceIte]
    exact h
/-! duties told once -/
/-- but for the row of duties -/
def eq11 (m' m : Mm) : Prop := (∀ t j q, t ≠ 11 → m'.1 t j q = m.1 t j q) ∧ m'.2 = m.2
theorem eq11.rs {m' m : Mm} {i : Nat} {f : Nat → Int32} (h : eq11 m' m) (hR : RS m i f) : RS m' i f := by
  obtain ⟨h1, h2⟩ := h
  unfold RS RSs RSm RSc RSk RSe RSr RSp at *
  rw [h2]
  simp only [fun j q => h1 1 j q (by decide), fun j q => h1 2 j q (by decide), fun j q => h1 3 j q (by decide), fun j q => h1 4 j q (by decide), fun j q => h1 5 j q (by decide), fun j q => h1 6 j q (by decide)]
  exact hR
theorem eq11.rel {m' m mm : Mm} {a s : Nat} (h : eq11 m' m) (hR : Rel a s m mm) : Rel a s m' mm := by
  have hrs := fun i f => @eq11.rs m' m i f h
  obtain ⟨h1, h2⟩ := h
  obtain ⟨g1, g2, ⟨g3, g4, g5, g6, g7, g8⟩, g9, g10⟩ := hR
  refine ⟨hrs _ _ g1, g2, ⟨?_, ?_, ?_, ?_, ?_, ?_⟩, ?_, ?_⟩
  · rw [h1 12 1 1 (by decide)]; exact g3
  · rw [h1 12 1 2 (by decide)]; exact g4
  · rw [h1 12 1 2 (by decide)]; exact g5
  · rw [h1 12 1 1 (by decide), h1 12 1 2 (by decide)]
    exact fun k hk => ⟨hrs _ _ (g6 k hk).1, (g6 k hk).2⟩
  · intro k hk
    rw [h1 15 1 k (by decide)]
    exact ⟨(g7 k hk).1, (g7 k hk).2.1, fun q => ⟨hrs _ _ ((g7 k hk).2.2 q).1, ((g7 k hk).2.2 q).2⟩⟩
  · unfold RSp
    rw [h2]
    exact g8
  · rw [h1 12 1 5 (by decide)]; exact g9
  · unfold JR
    rw [h1 17 1 1 (by decide)]
    refine ⟨g10.1, g10.2.1, fun j hj => ?_⟩
    rw [h1 18 1 j (by decide)]
    exact g10.2.2 j hj
def tlG (f : Nat → Int32) (i : Nat) (e : Nat) (m : Mm) : Mm := sI m 11 i e (dutyAF f e)
theorem tl_eq (f : Nat → Int32) (i : Nat) (m : Mm) : ∀ j, eq11 (fo (tlG f i) j m) m ∧ ∀ e, e < j → (fo (tlG f i) j m).1 11 i e = dutyAF f e := by
  intro j
  induction j with
  | zero => exact ⟨⟨fun _ _ _ _ => rfl, rfl⟩, fun e he => absurd he (Nat.not_lt_zero e)⟩
  | succ j ih =>
    obtain ⟨⟨h1, h2⟩, h3⟩ := ih
    refine ⟨⟨fun t j' q ht => ?_, h2⟩, fun e he => ?_⟩
    · show (if t = 11 ∧ j' = i ∧ q = j then _ else _) = _
      rw [if_neg (fun z => ht z.1)]
      exact h1 t j' q ht
    · show (if 11 = 11 ∧ i = i ∧ e = j then _ else _) = _
      by_cases hej : e = j
      · subst hej; rw [if_pos ⟨rfl, rfl, rfl⟩]
      · rw [if_neg (fun z => hej z.2.2)]
        exact h3 e (by omega)
theorem c_tell (hR : RS m i f) (hI : Inv a s f) (hi : 1 ≤ i ∧ i ≤ 9) (Q : Mm → Prop) : w_X8_tellDuties i m Q ↔ Q (fo (tlG f i) (mo f) m) := by
  unfold w_X8_tellDuties
  refine itr_for _ (fun j z => (nI j, z)) (mo f) (tlG f i) m _ (fun K j hj => ?_) (fun K => ?_)
  · have he : j < 16 := Nat.lt_of_lt_of_le hj hI.mo16
    have hv : vp_in (nI j) 16 := vp_in_nI he (by decide)
    have ht : (nI j).toNatClampNeg = j := rs_tn (by omega)
    have hE := (tl_eq f i m j).1
    show w_X8_tellDuties_B2 i Q (fun z0 z1 => K (z0, z1)) (nI j) (fo (tlG f i) j m) ↔ K (nI (j + 1), tlG f i j (fo (tlG f i) j m))
    generalize fo (tlG f i) j m = z at *
    have hR2 := hE.rs hR
    simp only [w_X8_tellDuties_B2, hR2.opn, mo_lt hI.opn hj, hv, ht, hR2.oke hi he, c_ageNow hR2 hj, c_wholeDuty hR2 hI hj, nI_1, not_true_eq_false, not_false_eq_true, false_implies, true_implies, true_and, and_true, forall_eq, if_true, if_false, reduceIte]
    rfl
  · have hE := (tl_eq f i m (mo f)).1
    show w_X8_tellDuties_B2 i Q (fun z0 z1 => K (z0, z1)) (nI (mo f)) (fo (tlG f i) (mo f) m) ↔ _
    generalize fo (tlG f i) (mo f) m = z at *
    have hR2 := hE.rs hR
    simp only [w_X8_tellDuties_B2, hR2.opn, mo_le hI.opn, not_true_eq_false, not_false_eq_true, false_implies, true_implies, true_and, and_true, forall_eq, if_true, if_false, reduceIte]
theorem c_dearL (hR : RS m i f) (hI : Inv a s f) (hT : ∀ e, e < mo f → m.1 11 i e = dutyAF f e) (Q : Int32 → Mm → Prop) : (∃ n, itr (α := Int32 × Int32) (fun K a => w_X8_dearest_B8 i Q m (fun z0 z1 => K (z0, z1)) a.1 a.2) n ((-1), 0)) ↔ Q (eo (dearF f)) m := by
  unfold dearF
  refine itr_for _ (fun j b => (eo b, nI j)) (mo f) (dearG f) none _ (fun K j hj => ?_) (fun K => ?_)
  · have he : j < 16 := Nat.lt_of_lt_of_le hj hI.mo16
    have hv : vp_in (nI j) 16 := vp_in_nI he (by decide)
    have ht : (nI j).toNatClampNeg = j := rs_tn (by omega)
    have hb := fo_lt (dearG_ok f) j
    show w_X8_dearest_B8 i Q m (fun z0 z1 => K (z0, z1)) (eo (fo (dearG f) j none)) (nI j) ↔ K (eo (dearG f j (fo (dearG f) j none)), nI (j + 1))
    generalize fo (dearG f) j none = b at *
    cases b with
    | none => simp only [w_X8_dearest_B8, dearG, eo_n, eo_s, hR.opn, mo_lt hI.opn hj, nI_1, not_true_eq_false, not_false_eq_true, false_implies, true_implies, true_and, and_true, forall_eq, if_true, if_false, reduceIte]
    | some k =>
      have hk : k < j := hb k rfl
      have hkm : k < mo f := by omega
      have hvk : vp_in (nI k) 16 := vp_in_nI (by omega) (by decide)
      have htk : (nI k).toNatClampNeg = k := rs_tn (by omega)
      have hnk : ¬ nI k = (-1) := nI_nm1 (by omega)
      by_cases hc : dutyAF f j ≤ dutyAF f k <;> simp only [w_X8_dearest_B8, dearG, eo_n, eo_s, hR.opn, mo_lt hI.opn hj, hv, ht, hvk, htk, hnk, hT j hj, hT k hkm, hc, nI_1, not_true_eq_false, not_false_eq_true, false_implies, true_implies, true_and, and_true, forall_eq, if_true, if_false, reduceIte]
  · simp only [w_X8_dearest_B8, hR.opn, mo_le hI.opn, not_true_eq_false, not_false_eq_true, false_implies, true_implies, true_and, and_true, forall_eq, if_true, if_false, reduceIte]
theorem m_dear {mm : Mm} (hI : Inv a s (mm.1 32 1)) (Q : Int32 → Mm → Prop) : (∃ n, itr (α := Int32 × Int32) (fun K a => w_X10_dearestEntry_B9 Q mm (fun z0 z1 => K (z0, z1)) a.1 a.2) n ((-1), 0)) ↔ Q (numF (mm.1 32 1) (dearF (mm.1 32 1))) mm := by
  unfold dearF
  have hlt := fo_lt (dearG_ok (mm.1 32 1))
  refine itr_for _ (fun j b => (eo b, nI j)) (mo (mm.1 32 1)) (dearG (mm.1 32 1)) none _ (fun K j hj => ?_) (fun K => ?_)
  · have he : j < 16 := Nat.lt_of_lt_of_le hj hI.mo16
    have hb := hlt j
    show w_X10_dearestEntry_B9 Q mm (fun z0 z1 => K (z0, z1)) (eo (fo (dearG (mm.1 32 1)) j none)) (nI j) ↔ K (eo (dearG (mm.1 32 1) j (fo (dearG (mm.1 32 1)) j none)), nI (j + 1))
    generalize fo (dearG (mm.1 32 1)) j none = b at *
    cases b with
    | none => simp only [w_X10_dearestEntry_B9, dearG, eo_n, eo_s, mo_lt hI.opn hj, nI_1, not_true_eq_false, not_false_eq_true, false_implies, true_implies, true_and, and_true, forall_eq, if_true, if_false, reduceIte]
    | some k =>
      have hk : k < j := hb k rfl
      have hk16 : k < 16 := by omega
      have hnk : ¬ nI k = (-1) := nI_nm1 (by omega)
      by_cases hc : dutyAF (mm.1 32 1) j ≤ dutyAF (mm.1 32 1) k <;> simp only [w_X10_dearestEntry_B9, dearG, eo_n, eo_s, mo_lt hI.opn hj, hnk, m_dutyAll he (hI.ent j hj), m_dutyAll hk16 (hI.ent k (by omega)), hc, nI_1, not_true_eq_false, not_false_eq_true, false_implies, true_implies, true_and, and_true, forall_eq, if_true, if_false, reduceIte]
  · have h := m_numB (mm := mm) (fo (dearG (mm.1 32 1)) (mo (mm.1 32 1)) none) (fun k q => Nat.lt_of_lt_of_le (hlt _ k q) hI.mo16) (fun r => Q r mm)
    simp only [w_X10_dearestEntry_B9, mo_le hI.opn, not_true_eq_false, not_false_eq_true, false_implies, true_implies, true_and, and_true, forall_eq, if_true, if_false, reduceIte]
    exact h
/-! the cheapest -/
def dN (f : Nat → Int32) (e : Nat) : Nat := (dutyAF f e).toNatClampNeg
def wN (f : Nat → Int32) (e : Nat) : Nat := (en f e 2).toNatClampNeg
def chp (f : Nat → Int32) (x y : Nat) : Bool := decide (dN f x * wN f y < dN f y * wN f x ∨ (dN f x * wN f y = dN f y * wN f x ∧ x < y))
theorem lN_prod (hI : Inv a s f) {x y : Nat} (hx : x < mo f) (hy : y < mo f) : (dutyAF f x).toInt64 * (en f y 2).toInt64 = lN (dN f x * wN f y) ∧ dN f x * wN f y < 2 ^ 63 := by
  have h1 := dutyA_rng hI hx
  have h2 := (hI.ent y hy).2.1
  have b1 : dN f x ≤ 440000 := h1.2
  have b2 : wN f y ≤ 999 := h2.2
  have b3 : dN f x * wN f y ≤ 440000 * 999 := Nat.mul_le_mul b1 b2
  rw [h1.1, h2.1]
  show (nI (dN f x)).toInt64 * (nI (wN f y)).toInt64 = _ ∧ _
  rw [nI_l (by omega), nI_l (by omega), lN_mul]
  exact ⟨rfl, by omega⟩
theorem c_isCheaper (hR : RS m i f) (hI : Inv a s f) (hi : 1 ≤ i ∧ i ≤ 9) (hT : ∀ e, e < mo f → m.1 11 i e = dutyAF f e) {x y : Nat} (hx : x < mo f) (hy : y < mo f) (Q : Int32 → Prop) : w_X8_isCheaper i (nI x) (nI y) m Q ↔ if chp f x y = true then Q 1 else Q 0 := by
  have h16 := hI.mo16
  have hvx : vp_in (nI x) 16 := vp_in_nI (by omega) (by decide)
  have hvy : vp_in (nI y) 16 := vp_in_nI (by omega) (by decide)
  have htx : (nI x).toNatClampNeg = x := rs_tn (by omega)
  have hty : (nI y).toNatClampNeg = y := rs_tn (by omega)
  unfold w_X8_isCheaper
  simp only [hvx, hvy, htx, hty, hR.oke hi (show x < 16 by omega), hR.oke hi (show y < 16 by omega), hT x hx, hT y hy, hR.e2 hx, hR.e2 hy, (lN_prod hI hx hy).1, (lN_prod hI hy hx).1, forall_eq, true_and, lg_cmp_lt, lg_cmp_eq, pk_lLT (lN_prod hI hx hy).2 (lN_prod hI hy hx).2, pk_lEQ (lN_prod hI hx hy).2 (lN_prod hI hy hx).2, nI_leI (show y < 2 ^ 31 by omega) (show x < 2 ^ 31 by omega)]
  have hch : (chp f x y = true) ↔ (dN f x * wN f y < dN f y * wN f x ∨ (dN f x * wN f y = dN f y * wN f x ∧ x < y)) := by
    unfold chp
    simp only [decide_eq_true_eq]
  by_cases c1 : dN f x * wN f y < dN f y * wN f x
  · rw [if_pos (hch.mpr (Or.inl c1))]
    simp only [c1, not_true_eq_false, not_false_eq_true, false_implies, true_implies, true_and, and_true, forall_eq, if_true, if_false, reduceIte]
  · by_cases c2 : dN f x * wN f y = dN f y * wN f x
    · by_cases c3 : y ≤ x
      · rw [if_neg (fun q => by rcases hch.mp q with q | q; exact c1 q; exact absurd q.2 (by omega))]
        simp only [c2, c3, Nat.lt_irrefl, not_true_eq_false, not_false_eq_true, false_implies, true_implies, true_and, and_true, forall_eq, if_true, if_false, reduceIte]
      · rw [if_pos (hch.mpr (Or.inr ⟨c2, by omega⟩))]
        simp only [c2, c3, Nat.lt_irrefl, not_true_eq_false, not_false_eq_true, false_implies, true_implies, true_and, and_true, forall_eq, if_true, if_false, reduceIte]
    · rw [if_neg (fun q => by rcases hch.mp q with q | q; exact c1 q; exact c2 q.1)]
      simp only [c1, c2, not_true_eq_false, not_false_eq_true, false_implies, true_implies, true_and, and_true, forall_eq, if_true, if_false, reduceIte]
def chB (f : Nat → Int32) (e : Nat) (b : Option Nat) : Option Nat := match b with
  | none => some e
  | some k => if chp f e k = true then some e else some k
def chG (f : Nat → Int32) (P : Nat → Bool) (e : Nat) (b : Option Nat) : Option Nat := if P e = true then chB f e b else b
def chF (f : Nat → Int32) (P : Nat → Bool) : Option Nat := fo (chG f P) (mo f) none
theorem chG_ok (f : Nat → Int32) (P : Nat → Bool) (e : Nat) (b : Option Nat) : chG f P e b = some e ∨ chG f P e b = b := by
  unfold chG chB
  cases b with
  | none => simp only; split; exact Or.inl rfl; exact Or.inr rfl
  | some k => simp only; split; split; exact Or.inl rfl; exact Or.inr rfl; exact Or.inr rfl
def pC (f : Nat → Int32) (p : Option Nat) (kd : Int32) (e : Nat) : Bool := decide (en f e 1 = kd) && (match p with
  | none => true
  | some q => chp f q e)
theorem c_J43 (hR : RS m i f) (hI : Inv a s f) (hi : 1 ≤ i ∧ i ≤ 9) (hT : ∀ e, e < mo f → m.1 11 i e = dutyAF f e) {j : Nat} (hj : j < mo f) (b : Option Nat) (hb : ∀ k, b = some k → k < j) (K : Int32 → Int32 → Prop) : w_X8_cheapestBehind_J43 i m (eo b) (nI j) K ↔ K (eo (chB f j b)) (nI (j + 1)) := by
  cases b with
  | none => simp only [w_X8_cheapestBehind_J43, chB, eo_n, eo_s, nI_1, not_true_eq_false, not_false_eq_true, false_implies, true_implies, true_and, and_true, forall_eq, if_true, if_false, reduceIte]
  | some k =>
    have hk := hb k rfl
    have h16 := hI.mo16
    have hnk : ¬ nI k = (-1) := nI_nm1 (by omega)
    by_cases hc : chp f j k = true <;> simp only [w_X8_cheapestBehind_J43, chB, eo_n, eo_s, Bool.false_eq_true, c_isCheaper hR hI hi hT hj (show k < mo f by omega), hnk, hc, z10, nI_1, not_true_eq_false, not_false_eq_true, false_implies, true_implies, true_and, and_true, forall_eq, if_true, if_false, reduceIte]
theorem c_behind (hR : RS m i f) (hI : Inv a s f) (hi : 1 ≤ i ∧ i ≤ 9) (hT : ∀ e, e < mo f → m.1 11 i e = dutyAF f e) (p : Option Nat) (hp : ∀ k, p = some k → k < mo f) (kd : Int32) (Q : Int32 → Prop) : w_X8_cheapestBehind i (eo p) kd m Q ↔ Q (eo (chF f (pC f p kd))) := by
  unfold w_X8_cheapestBehind chF
  refine itr_for _ (fun j b => (eo b, nI j)) (mo f) (chG f (pC f p kd)) none _ (fun K j hj => ?_) (fun K => ?_)
  · have he : j < 16 := Nat.lt_of_lt_of_le hj hI.mo16
    have hv : vp_in (nI j) 16 := vp_in_nI he (by decide)
    have ht : (nI j).toNatClampNeg = j := rs_tn (by omega)
    have hb := fo_lt (chG_ok f (pC f p kd)) j
    show w_X8_cheapestBehind_B5 i (eo p) kd m Q (fun z0 z1 => K (z0, z1)) (eo (fo (chG f (pC f p kd)) j none)) (nI j) ↔ K (eo (chG f (pC f p kd) j (fo (chG f (pC f p kd)) j none)), nI (j + 1))
    generalize fo (chG f (pC f p kd)) j none = b at *
    have hJ := c_J43 hR hI hi hT hj b hb (fun z0 z1 => K (z0, z1))
    by_cases hk : en f j 1 = kd
    · cases p with
      | none => simp only [w_X8_cheapestBehind_B5, hR.opn, mo_lt hI.opn hj, hv, ht, hR.oke hi he, hR.e1 hj, hk, eo_n, hJ, chG, pC, decide_true, Bool.true_and, not_true_eq_false, not_false_eq_true, false_implies, true_implies, true_and, and_true, forall_eq, if_true, if_false, reduceIte]
      | some q =>
        have hq := hp q rfl
        have hnq : ¬ nI q = (-1) := nI_nm1 (by have := hI.mo16; omega)
        by_cases hc : chp f q j = true <;> simp only [w_X8_cheapestBehind_B5, hR.opn, mo_lt hI.opn hj, hv, ht, hR.oke hi he, hR.e1 hj, hk, eo_s, hnq, c_isCheaper hR hI hi hT hq hj, hc, hJ, chG, pC, decide_true, Bool.true_and, Bool.false_eq_true, z10, nI_1, not_true_eq_false, not_false_eq_true, false_implies, true_implies, true_and, and_true, forall_eq, if_true, if_false, reduceIte]
    · simp only [w_X8_cheapestBehind_B5, hR.opn, mo_lt hI.opn hj, hv, ht, hR.oke hi he, hR.e1 hj, hk, chG, pC, decide_false, Bool.false_and, Bool.false_eq_true, nI_1, not_true_eq_false, not_false_eq_true, false_implies, true_implies, true_and, and_true, forall_eq, if_true, if_false, reduceIte]
  · simp only [w_X8_cheapestBehind_B5, hR.opn, mo_le hI.opn, not_true_eq_false, not_false_eq_true, false_implies, true_implies, true_and, and_true, forall_eq, if_true, if_false, reduceIte]
def pM (f g : Nat → Int32) (kd : Int32) (e : Nat) : Bool := decide (en f e 1 = kd) && decide (g e = 0)
theorem m_cheapest {mm : Mm} (hI : Inv a s (mm.1 32 1)) (kd : Int32) (Q : Int32 → Prop) : w_X10_cheapest kd mm Q ↔ Q (eo (chF (mm.1 32 1) (pM (mm.1 32 1) (mm.1 36 1) kd))) := by
  unfold w_X10_cheapest chF
  refine itr_for _ (fun j b => (eo b, nI j)) (mo (mm.1 32 1)) (chG (mm.1 32 1) (pM (mm.1 32 1) (mm.1 36 1) kd)) none _ (fun K j hj => ?_) (fun K => ?_)
  · have he : j < 16 := Nat.lt_of_lt_of_le hj hI.mo16
    have hv : vp_in (nI j) 16 := vp_in_nI he (by decide)
    have ht : (nI j).toNatClampNeg = j := rs_tn (by omega)
    have hb := fo_lt (chG_ok (mm.1 32 1) (pM (mm.1 32 1) (mm.1 36 1) kd)) j
    show w_X10_cheapest_B4 kd mm Q (fun z0 z1 => K (z0, z1)) (eo (fo (chG (mm.1 32 1) (pM (mm.1 32 1) (mm.1 36 1) kd)) j none)) (nI j) ↔ K (eo (chG (mm.1 32 1) (pM (mm.1 32 1) (mm.1 36 1) kd) j (fo (chG (mm.1 32 1) (pM (mm.1 32 1) (mm.1 36 1) kd)) j none)), nI (j + 1))
    generalize fo (chG (mm.1 32 1) (pM (mm.1 32 1) (mm.1 36 1) kd)) j none = b at *
    by_cases hk : en (mm.1 32 1) j 1 = kd
    · by_cases hg : mm.1 36 1 j = 0
      · cases b with
        | none => simp only [w_X10_cheapest_B4, w_X10_cheapest_J71, w_X10_cheapest_J76, mo_lt hI.opn hj, hv, ht, m_of1 he, hk, hg, eo_n, eo_s, chG, chB, pM, decide_true, Bool.and_self, z10, nI_1, not_true_eq_false, not_false_eq_true, false_implies, true_implies, true_and, and_true, forall_eq, if_true, if_false, reduceIte]
        | some k =>
          have hkj : k < j := hb k rfl
          have hkm : k < mo (mm.1 32 1) := by omega
          have hk16 : k < 16 := by omega
          have hnk : ¬ nI k = (-1) := nI_nm1 (by omega)
          have hcc : (chp (mm.1 32 1) j k = true) = (dN (mm.1 32 1) j * wN (mm.1 32 1) k < dN (mm.1 32 1) k * wN (mm.1 32 1) j) := by
            unfold chp
            rw [decide_eq_true_eq]
            simp only [eq_iff_iff]
            omega
          have p1 := lN_prod hI hj hkm
          have p2 := lN_prod hI hkm hj
          by_cases hc : dN (mm.1 32 1) j * wN (mm.1 32 1) k < dN (mm.1 32 1) k * wN (mm.1 32 1) j
          · have hc2 : ¬ dN (mm.1 32 1) k * wN (mm.1 32 1) j ≤ dN (mm.1 32 1) j * wN (mm.1 32 1) k := by omega
            simp only [w_X10_cheapest_B4, w_X10_cheapest_J71, w_X10_cheapest_J76, mo_lt hI.opn hj, hv, ht, m_of1 he, m_of2 he, m_of2 hk16, m_dutyAll he (hI.ent j hj), m_dutyAll hk16 (hI.ent k hkm), p1.1, p2.1, lg_cmp_ge, pk_lLE p2.2 p1.2, hc2, hk, hg, hnk, eo_n, eo_s, chG, chB, pM, hcc, hc, decide_true, Bool.and_self, z10, nI_1, not_true_eq_false, not_false_eq_true, false_implies, true_implies, true_and, and_true, forall_eq, if_true, if_false, reduceIte]
          · have hc2 : dN (mm.1 32 1) k * wN (mm.1 32 1) j ≤ dN (mm.1 32 1) j * wN (mm.1 32 1) k := by omega
            simp only [w_X10_cheapest_B4, w_X10_cheapest_J71, w_X10_cheapest_J76, mo_lt hI.opn hj, hv, ht, m_of1 he, m_of2 he, m_of2 hk16, m_dutyAll he (hI.ent j hj), m_dutyAll hk16 (hI.ent k hkm), p1.1, p2.1, lg_cmp_ge, pk_lLE p2.2 p1.2, hc2, hk, hg, hnk, eo_n, eo_s, chG, chB, pM, hcc, hc, decide_true, Bool.and_self, z10, nI_1, not_true_eq_false, not_false_eq_true, false_implies, true_implies, true_and, and_true, forall_eq, if_true, if_false, reduceIte]
      · simp only [w_X10_cheapest_B4, mo_lt hI.opn hj, hv, ht, m_of1 he, hk, hg, chG, pM, decide_false, Bool.and_false, Bool.false_eq_true, nI_1, not_true_eq_false, not_false_eq_true, false_implies, true_implies, true_and, and_true, forall_eq, if_true, if_false, reduceIte]
    · simp only [w_X10_cheapest_B4, mo_lt hI.opn hj, hv, ht, m_of1 he, hk, chG, pM, decide_false, Bool.false_and, Bool.false_eq_true, nI_1, not_true_eq_false, not_false_eq_true, false_implies, true_implies, true_and, and_true, forall_eq, if_true, if_false, reduceIte]
  · simp only [w_X10_cheapest_B4, mo_le hI.opn, not_true_eq_false, not_false_eq_true, false_implies, true_implies, true_and, and_true, forall_eq, if_true, if_false, reduceIte]
theorem fo_congr {σ : Type} {g h : Nat → σ → σ} (n : Nat) (s0 : σ) (hg : ∀ e b, e < n → g e b = h e b) : fo g n s0 = fo h n s0 := by
  induction n with
  | zero => rfl
  | succ n ih =>
    show g n (fo g n s0) = h n (fo h n s0)
    rw [ih (fun e b he => hg e b (by omega)), hg n _ (by omega)]
theorem chF_congr (f : Nat → Int32) {P Q : Nat → Bool} (h : ∀ e, e < mo f → P e = Q e) : chF f P = chF f Q := by
  unfold chF
  refine fo_congr _ _ (fun e b he => ?_)
  unfold chG
  rw [h e he]
theorem mean_ok (x n : Int32) (hn : ¬ n = 0) : vf_n64 (FP.ddiv (FP.i2d x) (FP.i2d n)) ∧ FP.dcmp (FP.ddiv (FP.i2d x) (FP.i2d n)) (FP.ddiv (FP.i2d x) (FP.i2d n)) = some .eq := by
  have h1 : Jvm.FP.Core.dIsNaN (FP.ddiv (FP.i2d x) (FP.i2d n)) = false := by
    show Jvm.FP.Core.dIsNaN (Jvm.FP.Core.ddiv (Jvm.FP.Core.i2d x) (Jvm.FP.Core.i2d n)) = false
    refine Jvm.FP.Core.ddiv_out ?_ (Jvm.FP.Core.i2d_fin n) ?_
    · rw [Jvm.FP.Core.notNaN_iff]
      exact (Jvm.FP.Core.i2d_fin x).ne_nan
    · intro hz
      rw [Jvm.FP.Core.zero_bits2] at hz
      exact Jvm.FP.Core.i2d_ne_zero hn hz
  have h2 := (Jvm.FP.Core.notNaN_iff _).mp h1
  refine ⟨?_, Jvm.FP.Core.dcmp_self h2⟩
  have h3 := (Jvm.FP.Core.ne_nan _).mp h2
  show _ &&& _ ≤ _
  rw [UInt64.le_iff_toNat_le, UInt64.toNat_and]
  show _ &&& 9223372036854775807 ≤ 9218868437227405312
  rw [show 9223372036854775807 = 2 ^ 63 - 1 from rfl, Nat.and_two_pow_sub_one_eq_mod]
  exact h3
theorem zero_ok : FP.dcmp FP.dconst0 FP.dconst0 = some .eq := by decide +kernel
theorem pos_iff {x : Int32} (h : rng x 16) : (0 < x) ↔ ¬ x = 0 := by
  obtain ⟨n, hn, rfl⟩ := h.ex
  rw [show (0 : Int32) = nI 0 from rfl, nI_ltI (by decide) (by omega), nI_eq (by omega) (by decide)]
  omega
variable {mc mm : Mm} {K : Mm → Mm → Prop}
theorem J_meanDuty (h : Rel a s mc mm) (hK : ∀ v, K mc (sI mm 30 1 0 v)) : w_X9_meanDuty mc (fun r => w_X10_meanDuty mm (fun b m' => FP.dcmp r b = some .eq ∧ K mc m')) := by
  have hI0 : Inv a s ((sI mm 30 1 0 0).1 32 1) := h.inv
  simp only [w_X9_meanDuty, w_X10_meanDuty, c_stake h.rs h.inv i1, h.rs.opn, forall_eq, m_stake hI0, now_ref, pos_iff h.inv.opn]
  by_cases hn : mm.1 32 1 117 = 0
  · simp only [hn, zero_ok, hK, not_true_eq_false, not_false_eq_true, false_implies, true_implies, true_and, and_true, forall_eq, if_true, if_false, reduceIte]
  · have h1 := mean_ok (stakeF (mm.1 32 1)) _ hn
    simp only [hn, h1.1, h1.2, hK, not_true_eq_false, not_false_eq_true, false_implies, true_implies, true_and, and_true, forall_eq, if_true, if_false, reduceIte]
theorem J_nextOverdue (h : Rel a s mc mm) (hK : ∀ v, K mc (sI mm 30 1 0 v)) : w_X9_nextOverdue mc (fun r => jn (w_X10_nextOverdue mm) (K mc) r) := by
  have hI0 : Inv a s ((sI mm 30 1 0 0).1 32 1) := h.inv
  simp only [w_X9_nextOverdue, jn, w_X10_nextOverdue, c_nextLate h.rs h.inv i1, c_numberB h.rs h.inv i1 (nextF (mm.1 32 1)) (fun k q => fo_lt (nextG_ok _) _ k q), forall_eq, m_next hI0, now_ref, hK, and_self, eq_self]
theorem J_dearestEntry (h : Rel a s mc mm) (hK : ∀ m1 v, Rel a s m1 mm → K m1 (sI mm 30 1 0 v)) : w_X9_dearestEntry mc (fun r m1 => jn (w_X10_dearestEntry mm) (K m1) r) := by
  have hI0 : Inv a s ((sI mm 30 1 0 0).1 32 1) := h.inv
  have hE := tl_eq (mm.1 32 1) 1 mc (mo (mm.1 32 1))
  have h2 := hE.1.rel h
  have hT := hE.2
  simp only [w_X9_dearestEntry, jn, w_X8_dearest, c_tell h.rs h.inv i1]
  generalize fo (tlG (mm.1 32 1) 1) (mo (mm.1 32 1)) mc = z at *
  simp only [c_dearL h2.rs h2.inv hT, c_numberB h2.rs h.inv i1 (dearF (mm.1 32 1)) (fun k q => fo_lt (dearG_ok _) _ k q), w_X10_dearestEntry, forall_eq, m_dear hI0, now_ref, hK _ _ h2, and_self, eq_self]
end SEM5

