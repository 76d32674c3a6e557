section LH0
variable {a s : Nat} {f : Fn} {u : PS}
/-- a duty, in numbers -/
def dN2 (f : Fn) (k v w : Nat) (z : Int32) : Nat := if z ≤ 200 then (v * (f (20 + k)).toNatClampNeg + 99) / 100 + (w * (f (26 + k)).toNatClampNeg + 99) / 100 else (v * (f (20 + k)).toNatClampNeg + 99) / 100 + (w * (f (26 + k)).toNatClampNeg + 99) / 100 + ((v * (f (20 + k)).toNatClampNeg + 99) / 100 + (w * (f (26 + k)).toNatClampNeg + 99) / 100 + 9) / 10
theorem duty_n (hI : Inv a s f) {k v w : Nat} (hk : k < 6) (hv : v ≤ 659880) (hw : w ≤ 999) (z : Int32) : dutyF f k (nI v) (nI w) z = nI (dN2 f k v w z) ∧ dN2 f k v w z ≤ 440000 := by
  have hkk := hI.kinds k hk
  have h1 := hkk.1.2
  have h2 := hkk.2.2
  have b1 : v * (f (20 + k)).toNatClampNeg ≤ 659880 * 60 := Nat.mul_le_mul hv h1
  have b2 : w * (f (26 + k)).toNatClampNeg ≤ 999 * 80 := Nat.mul_le_mul hw h2
  have hs : sumF f k (nI v) (nI w) = nI ((v * (f (20 + k)).toNatClampNeg + 99) / 100 + (w * (f (26 + k)).toNatClampNeg + 99) / 100) := by
    unfold sumF
    rw [hkk.1.1, hkk.2.1]
    rw [rs_tn (show (f (20 + k)).toNatClampNeg < 2147483648 by omega), rs_tn (show (f (26 + k)).toNatClampNeg < 2147483648 by omega)]
    generalize (f (20 + k)).toNatClampNeg = r at *
    generalize (f (26 + k)).toNatClampNeg = q at *
    rw [show (99 : Int32) = nI 99 from rfl, show (100 : Int32) = nI 100 from rfl, pk_mul, pk_mul, nI_add, nI_add, pk_div (by omega) (by omega) (by omega), pk_div (by omega) (by omega) (by omega), nI_add]
  unfold dutyF dN2
  rw [hs]
  generalize v * (f (20 + k)).toNatClampNeg = A at *
  generalize w * (f (26 + k)).toNatClampNeg = B at *
  split
  · exact ⟨rfl, by omega⟩
  · rw [show (9 : Int32) = nI 9 from rfl, show (10 : Int32) = nI 10 from rfl, nI_add, pk_div (by omega) (by omega) (by omega), nI_add]
    exact ⟨rfl, by omega⟩
theorem dN2_mono {k v v' w w' : Nat} (hv : v ≤ v') (hw : w ≤ w') (z : Int32) : dN2 f k v w z ≤ dN2 f k v' w' z := by
  have b1 : v * (f (20 + k)).toNatClampNeg ≤ v' * (f (20 + k)).toNatClampNeg := Nat.mul_le_mul_right _ hv
  have b2 : w * (f (26 + k)).toNatClampNeg ≤ w' * (f (26 + k)).toNatClampNeg := Nat.mul_le_mul_right _ hw
  unfold dN2
  generalize v * (f (20 + k)).toNatClampNeg = A at *
  generalize w * (f (26 + k)).toNatClampNeg = B at *
  generalize v' * (f (20 + k)).toNatClampNeg = A' at *
  generalize w' * (f (26 + k)).toNatClampNeg = B' at *
  split <;> omega
theorem dN2_age {k v w : Nat} {z z' : Int32} (h : z' ≤ 200 → z ≤ 200) : dN2 f k v w z ≤ dN2 f k v w z' := by
  unfold dN2
  by_cases h1 : z' ≤ 200
  · rw [if_pos h1, if_pos (h h1)]; exact Nat.le_refl _
  · rw [if_neg h1]
    split <;> omega
def vN (f : Fn) (e : Nat) : Nat := (en f e 3).toNatClampNeg
theorem EI.ent {e : Nat} (hE : EI f e) : en f e 3 = nI (vN f e) ∧ vN f e ≤ 659880 ∧ en f e 2 = nI (wN f e) ∧ 0 < wN f e ∧ wN f e ≤ 999 ∧ knd f e < 6 := ⟨hE.2.2.2.1.1, hE.2.2.2.1.2, hE.2.1.1, hE.2.2.1, hE.2.1.2, hE.k.2⟩
theorem dutyA_n (hI : Inv a s f) {e : Nat} (he : e < mo f) : dutyAF f e = nI (dN2 f (knd f e) (vN f e) (wN f e) (en f e 5)) ∧ dN2 f (knd f e) (vN f e) (wN f e) (en f e 5) ≤ 440000 := by
  obtain ⟨h1, h2, h3, h4, h5, h6⟩ := (hI.ent e he).ent
  unfold dutyAF
  rw [h1, h3]
  exact duty_n hI h6 h2 h5 _
theorem dutyP_n (hI : Inv a s f) {e w : Nat} (he : e < mo f) (hw : w ≤ wN f e) : dutyPF f e (nI w) = nI (dN2 f (knd f e) (vN f e * w / wN f e) w (en f e 5)) ∧ dN2 f (knd f e) (vN f e * w / wN f e) w (en f e 5) ≤ 440000 := by
  obtain ⟨h1, h2, h3, h4, h5, h6⟩ := (hI.ent e he).ent
  obtain ⟨v, hv, h, h'⟩ := share_rng hI he hw
  have hv' : vN f e * w / wN f e = v := h'.symm
  unfold dutyPF
  rw [h, hv']
  have hv2 : v ≤ vN f e := hv
  exact duty_n hI h6 (by omega) (by omega) _
theorem whole_share {V W : Nat} (h : 0 < W) : V * W / W = V := Nat.mul_div_cancel V h
theorem part_share {V W w : Nat} (h : w ≤ W) : V * w / W ≤ V := Nat.div_le_of_le_mul (by rw [Nat.mul_comm W V]; exact Nat.mul_le_mul_left V h)
theorem nlt_nI {x y : Nat} (hx : x < 2147483648) (hy : y < 2147483648) (h : x ≤ y) : ¬ nI y < nI x := fun z => by
  have := (nI_ltI hy hx).mp z
  omega
/-- duties of parts and of the whole -/
theorem part_whole (hI : Inv a s f) {e : Nat} (he : e < mo f) : dutyPF f e (en f e 2) = dutyAF f e := by
  obtain ⟨h1, h2, h3, h4, h5, h6⟩ := (hI.ent e he).ent
  rw [h3, (dutyP_n hI he (Nat.le_refl _)).1, (dutyA_n hI he).1, whole_share h4]
theorem part_le (hI : Inv a s f) {e w w' : Nat} (he : e < mo f) (hw : w ≤ w') (hw' : w' ≤ wN f e) : ¬ dutyPF f e (nI w') < dutyPF f e (nI w) := by
  have a1 := dutyP_n hI he hw'
  have a2 := dutyP_n hI he (Nat.le_trans hw hw')
  rw [a1.1, a2.1]
  exact nlt_nI (by omega) (by omega) (dN2_mono (Nat.div_le_div_right (Nat.mul_le_mul_left _ hw)) hw _)
theorem part_le_all (hI : Inv a s f) {e w : Nat} (he : e < mo f) (hw : w ≤ wN f e) : ¬ dutyAF f e < dutyPF f e (nI w) := by
  rw [← part_whole hI he, ((hI.ent e he).ent).2.2.1]
  exact part_le hI he hw (Nat.le_refl _)
theorem later_le (hI : Inv a s f) {e : Nat} (he : e < mo f) : ¬ dutyF f (knd f e) (en f e 3) (en f e 2) (en f e 5 + 365) < dutyAF f e := by
  obtain ⟨h1, h2, h3, h4, h5, h6⟩ := (hI.ent e he).ent
  have ha := (hI.ent e he).2.2.2.2.2.1
  have hd := hI.day.2
  have a1 := duty_n hI h6 h2 h5 (en f e 5 + 365)
  have a2 := dutyA_n hI he
  rw [a2.1, h1, h3, a1.1]
  refine nlt_nI (by omega) (by omega) (dN2_age (fun z => ?_))
  have h9 := ha.2
  rw [ha.1] at z ⊢
  rw [show (365 : Int32) = nI 365 from rfl, nI_add, show (200 : Int32) = nI 200 from rfl, nI_leI (by omega) (by decide)] at z
  exact nI_le (b := 200) (by omega) (by decide)
theorem allow_le (f : Fn) (e : Nat) : ¬ en f e 2 < allowF f e := by
  unfold allowF
  by_cases h : wst f e < en f e 2
  · rw [if_pos h]
    intro z
    exact Int32.lt_irrefl (Int32.lt_trans h z)
  · rw [if_neg h]
    exact Int32.lt_irrefl
/-- what is lost, in numbers -/
theorem loss_n (hI : Inv a s f) {e w : Nat} (he : e < mo f) (hw : w ≤ wN f e) : lossF f e (nI w) = nI (wN f e - w - (allowF f e).toNatClampNeg) := by
  obtain ⟨h1, h2, h3, h4, h5, h6⟩ := (hI.ent e he).ent
  have ha := allow_rng (hI.ent e he) hI.day
  have h9 : (allowF f e).toNatClampNeg ≤ wN f e := ha.2
  unfold lossF
  rw [h3, ha.1, rs_tn (show (allowF f e).toNatClampNeg < 2147483648 by omega)]
  generalize (allowF f e).toNatClampNeg = y at *
  rw [pk_sub hw]
  by_cases z : y ≤ wN f e - w
  · rw [pk_sub z]
    by_cases z0 : wN f e - w - y = 0
    · rw [z0, if_neg (by decide)]
      rfl
    · have h0 : (0 : Int32) < nI (wN f e - w - y) := (nI_ltI (a := 0) (b := wN f e - w - y) (by decide) (by omega)).mpr (by omega)
      rw [if_pos h0]
  · rw [if_neg, show wN f e - w - y = 0 by omega]
    · rfl
    · rw [Int32.lt_iff_toInt_lt, pk_sub_toInt (by omega) (by omega)]
      have : (0 : Int32).toInt = 0 := rfl
      omega
theorem charge_0 (hI : Inv a s f) {e : Nat} (he : e < mo f) : chargeF f e 0 = 0 := by
  have hE := hI.ent e he
  unfold chargeF
  rw [dutyP0 hE]
  split <;> rfl
theorem charge_le (hI : Inv a s f) {e x y : Nat} (he : e < mo f) (hx : x ≤ y) (hy : y ≤ wN f e) : ¬ chargeF f e (nI y) < chargeF f e (nI x) := by
  have a1 := dutyP_n hI he hy
  have a2 := dutyP_n hI he (Nat.le_trans hx hy)
  have h := dN2_mono (f := f) (k := knd f e) (Nat.div_le_div_right (c := wN f e) (Nat.mul_le_mul_left (vN f e) hx)) hx (en f e 5)
  unfold chargeF
  rw [a1.1, a2.1]
  split
  · rw [show (2 : Int32) = nI 2 from rfl, pk_mul, pk_mul]
    exact nlt_nI (by omega) (by omega) (by omega)
  · exact nlt_nI (by omega) (by omega) h
/-- the dearest -/
theorem dear_max (hI : Inv a s f) : ∀ n, n ≤ mo f → (n = 0 → fo (dearG f) n none = none) ∧ (0 < n → ∃ b, fo (dearG f) n none = some b ∧ b < n ∧ ∀ e, e < n → ¬ dutyAF f b < dutyAF f e) := by
  intro n
  induction n with
  | zero => exact fun _ => ⟨fun _ => rfl, fun h => absurd h (Nat.lt_irrefl 0)⟩
  | succ n ih =>
    intro hn
    refine ⟨fun h => absurd h (Nat.succ_ne_zero n), fun _ => ?_⟩
    have ih := ih (by omega)
    show ∃ b, dearG f n (fo (dearG f) n none) = some b ∧ _
    by_cases z : n = 0
    · subst z
      rw [ih.1 rfl]
      refine ⟨0, rfl, Nat.lt_succ_self _, fun e he => ?_⟩
      have h0 : e = 0 := by omega
      subst h0
      exact Int32.lt_irrefl
    · obtain ⟨b, h1, h2, h3⟩ := ih.2 (by omega)
      rw [h1]
      have ab := dutyA_n hI (e := b) (by omega)
      have an := dutyA_n hI (e := n) (by omega)
      unfold dearG
      by_cases y : dutyAF f n ≤ dutyAF f b
      · refine ⟨b, by simp only [if_pos y], by omega, fun e he => ?_⟩
        by_cases w : e = n
        · subst w; exact Int32.not_lt.mpr y
        · exact h3 e (by omega)
      · refine ⟨n, by simp only [if_neg y], Nat.lt_succ_self _, fun e he => ?_⟩
        by_cases w : e = n
        · subst w; exact Int32.lt_irrefl
        · have h5 := h3 e (by omega)
          have ae := dutyA_n hI (e := e) (by omega)
          rw [ab.1, an.1] at y
          rw [ab.1, ae.1] at h5
          rw [an.1, ae.1]
          have h6 : ¬ dN2 f (knd f n) (vN f n) (wN f n) (en f n 5) ≤ dN2 f (knd f b) (vN f b) (wN f b) (en f b 5) := fun q => y (nI_le q (by omega))
          have h7 : dN2 f (knd f e) (vN f e) (wN f e) (en f e 5) ≤ dN2 f (knd f b) (vN f b) (wN f b) (en f b 5) := by
            by_cases q : dN2 f (knd f e) (vN f e) (wN f e) (en f e 5) ≤ dN2 f (knd f b) (vN f b) (wN f b) (en f b 5)
            · exact q
            · exact absurd ((nI_ltI (by omega) (by omega)).mpr (by omega)) h5
          exact nlt_nI (by omega) (by omega) (by omega)
theorem num_n {f : Fn} (hJ : JN f) (hI : Inv a s f) {e : Nat} (he : e < mo f) : en f e 0 = nI (nN f e) ∧ nN f e < 60 := by
  have h1 := hJ.1 e he
  have h2 := hI.m60
  exact ⟨h1.1, by omega⟩
theorem num_m1 (hJ : JN f) (hI : Inv a s f) {e : Nat} (he : e < mo f) : ¬ en f e 0 = -1 := by
  have h := num_n hJ hI he
  rw [h.1]
  exact nI_nm1 (by omega)
theorem dear_0 (hJ : JN f) (hI : Inv a s f) : (numF f (dearF f) = -1) ↔ mo f = 0 := by
  have h := dear_max hI (mo f) (Nat.le_refl _)
  unfold dearF
  by_cases z : mo f = 0
  · rw [h.1 z]
    exact ⟨fun _ => z, fun _ => rfl⟩
  · obtain ⟨b, h1, h2, _⟩ := h.2 (by omega)
    rw [h1]
    exact ⟨fun q => absurd q (num_m1 hJ hI h2), fun q => absurd q z⟩
/-- stock by the sum -/
theorem stock_sq (hI : Inv a s f) (v : Int32) : stockF f v = nI (sq f 1 v) ∧ sq f 1 v ≤ 15984 := by
  have h := stock_sg hI v (mo f) (Nat.le_refl _)
  have h16 := hI.mo16
  have e : sg (cW f (fun e => decide (en f e 1 = v))) (mo f) = sq f 1 v := sg_c (fun e _ => by unfold cW eq1; by_cases z : en f e 1 = v <;> simp [z])
  rw [e] at h
  exact ⟨h.1, by omega⟩
theorem totals_n (hI : Inv a s f) (hJ : JI f) {k : Nat} (hk : k < 6) : f (30 + 6 * k + 2) - f (30 + 6 * k + 3) - f (30 + 6 * k + 4) - f (30 + 6 * k + 5) - f (30 + 6 * k + 6) = stockF f (nI k) := by
  have h := hJ.2.2.2 k hk
  have hb := h.bd hI.m60
  obtain ⟨a1, a2, a3, a4⟩ := h
  have e : ∀ q, q < 6 → f (30 + 6 * k + (q + 2)) = nI (tn f k q) := fun q hq => by
    rw [show 30 + 6 * k + (q + 2) = 32 + 6 * k + q by omega]
    exact a1 q hq
  rw [e 0 (by decide), e 1 (by decide), e 2 (by decide), e 3 (by decide), e 4 (by decide), (stock_sq hI (nI k)).1]
  rw [pk_sub (by omega), pk_sub (by omega), pk_sub (by omega), pk_sub (by omega)]
  exact congrArg nI (by omega)
theorem drawn_n (hI : Inv a s f) (hJ : JI f) {k : Nat} (hk : k < 6) : ¬ f (30 + 6 * k + 3) < f (30 + 6 * k + 7) := by
  have h := hJ.2.2.2 k hk
  have hb := h.bd hI.m60
  obtain ⟨a1, a2, a3, a4⟩ := h
  have b1 := hb 1 (by decide)
  rw [show 30 + 6 * k + 3 = 32 + 6 * k + 1 by omega, show 30 + 6 * k + 7 = 32 + 6 * k + 5 by omega, a1 1 (by decide), a1 5 (by decide)]
  exact nlt_nI (by omega) (by omega) (by omega)
end LH0
