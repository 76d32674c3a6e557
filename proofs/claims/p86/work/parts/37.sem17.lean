section SEM17
variable {a a' s s' : Nat} {f g : Nat → Int32}
def Iw (a s : Nat) (f : Nat → Int32) : Prop :=
  rng (f 0) 9999 ∧ rng (f 1) 60 ∧ rng (f 2) s ∧ rng (f 3) a ∧ rng (f 5) 50000 ∧ rng (f 68) 12 ∧ rng (f 117) 16 ∧
  (∀ c, c < 5 → rng (f (10 + c)) (f 2).toNatClampNeg ∧ rng (f (15 + c)) 1 ∧ (f (10 + c) ≤ 0 → f (15 + c) = 0)) ∧
  (∀ k, k < 6 → rng (f (20 + k)) 60 ∧ rng (f (26 + k)) 80) ∧
  (∀ e, e < mo f → EI f e) ∧
  (∀ r, r < mr f → RI f r)
def Pot (f : Nat → Int32) (n : Nat) : Prop := f 4 = nI n ∧ n + 12 * gs f (mo f) ≤ 131976 * (f 1).toNatClampNeg
theorem Inv.iw (h : Inv a s f) : Iw a s f := ⟨h.day, h.made, h.seals, h.acct, h.bond, h.recs, h.opn, h.cham, h.kinds, h.ent, h.rec⟩
theorem Inv.pt (h : Inv a s f) : Pot f (f 4).toNatClampNeg := ⟨h.debt.1, h.pot⟩
theorem Iw.inv (h : Iw a s f) {n : Nat} (hp : Pot f n) (hb : a < 1000000000 ∧ s < 1000000) : Inv a s f := by
  obtain ⟨h1, h2, h3, h4, h5, h6, h7, h8, h9, h10, h11⟩ := h
  obtain ⟨p1, p2⟩ := hp
  have b2 := h2.2
  have ht : (f 4).toNatClampNeg = n := by rw [p1]; exact rs_tn (by omega)
  exact ⟨h1, h2, h3, h4, by rw [p1]; exact rng_of (by omega) (by decide), h5, h6, h7, h8, h9, h10, h11, by rw [ht]; exact p2, hb⟩
theorem mo_c (h : g 117 = f 117) : mo g = mo f := by unfold mo; rw [h]
theorem mr_c (h : g 68 = f 68) : mr g = mr f := by unfold mr; rw [h]
theorem EI.c' {e e' : Nat} (h : EI f e') (h0 : g 0 = f 0) (hq : ∀ q, 1 ≤ q → q < 8 → en g e q = en f e' q) : EI g e := by
  unfold EI at *
  rw [h0, hq 1 (by decide) (by decide), hq 2 (by decide) (by decide), hq 3 (by decide) (by decide), hq 4 (by decide) (by decide), hq 5 (by decide) (by decide), hq 6 (by decide) (by decide), hq 7 (by decide) (by decide)]
  exact h
theorem RI.c' {r r' : Nat} (h : RI f r') (hq : ∀ q, q < 3 → rc g r q = rc f r' q) : RI g r := by
  unfold RI at *
  rw [hq 0 (by decide), hq 1 (by decide), hq 2 (by decide)]
  exact h
/-- the cells that the bounds do not speak of may change, the account within a' -/
theorem Iw.free (h : Iw a s f) (hg : ∀ k, k < 3 ∨ k = 5 ∨ (10 ≤ k ∧ k < 32) ∨ 68 ≤ k → g k = f k) (h3 : rng (g 3) a') : Iw a' s g := by
  obtain ⟨h1, h2, h3', h4, h5, h6, h7, h8, h9, h10, h11⟩ := h
  have e0 := hg 0 (by decide)
  refine ⟨by rw [e0]; exact h1, by rw [hg 1 (by decide)]; exact h2, by rw [hg 2 (by decide)]; exact h3', h3, by rw [hg 5 (by decide)]; exact h5, by rw [hg 68 (by decide)]; exact h6, by rw [hg 117 (by decide)]; exact h7, fun c hc => ?_, fun k hk => ?_, fun e he => ?_, fun r hr => ?_⟩
  · rw [hg (10 + c) (by omega), hg (15 + c) (by omega), hg 2 (by decide)]
    exact h8 c hc
  · rw [hg (20 + k) (by omega), hg (26 + k) (by omega)]
    exact h9 k hk
  · rw [mo_c (hg 117 (by decide))] at he
    exact (h10 e he).c' e0 (fun q _ hq => hg _ (by omega))
  · rw [mr_c (hg 68 (by decide))] at hr
    exact (h11 r hr).c' (fun q hq => hg _ (by omega))
/-- the entries may change, and how many were made -/
theorem Iw.ents (h : Iw a s f) (hg : ∀ k, k < 117 → ¬ k = 1 → g k = f k) (h1' : rng (g 1) 60) (h117 : rng (g 117) 16) (he' : ∀ e, e < mo g → EI g e) : Iw a s g := by
  obtain ⟨h1, h2, h3', h4, h5, h6, h7, h8, h9, h10, h11⟩ := h
  have e0 := hg 0 (by decide) (by decide)
  have h12 : mr f ≤ 12 := h6.2
  refine ⟨by rw [e0]; exact h1, h1', by rw [hg 2 (by decide) (by decide)]; exact h3', by rw [hg 3 (by decide) (by decide)]; exact h4, by rw [hg 5 (by decide) (by decide)]; exact h5, by rw [hg 68 (by decide) (by decide)]; exact h6, h117, fun c hc => ?_, fun k hk => ?_, he', fun r hr => ?_⟩
  · rw [hg (10 + c) (by omega) (by omega), hg (15 + c) (by omega) (by omega), hg 2 (by decide) (by decide)]
    exact h8 c hc
  · rw [hg (20 + k) (by omega) (by omega), hg (26 + k) (by omega) (by omega)]
    exact h9 k hk
  · rw [mr_c (hg 68 (by decide) (by decide))] at hr
    exact (h11 r hr).c' (fun q hq => hg _ (by omega) (by omega))
/-! goods and worth -/
def gv (f : Nat → Int32) (e : Nat) : Nat := (en f e 3).toNatClampNeg + (en f e 2).toNatClampNeg
theorem gs_s (f : Nat → Int32) (n : Nat) : gs f (n + 1) = gs f n + gv f n := rfl
theorem gv_c {e e' : Nat} (h : ∀ q, 1 ≤ q → q < 8 → en g e q = en f e' q) : gv g e = gv f e' := by
  unfold gv
  rw [h 2 (by decide) (by decide), h 3 (by decide) (by decide)]
theorem gs_c {n : Nat} : (∀ e, e < n → gv g e = gv f e) → gs g n = gs f n := by
  induction n with
  | zero => intro _; rfl
  | succ n ih =>
    intro h
    rw [gs_s, gs_s, ih (fun e he => h e (by omega)), h n (by omega)]
theorem gs_ge {n e : Nat} (he : e < n) : gv f e ≤ gs f n := by
  induction n with
  | zero => omega
  | succ n ih =>
    rw [gs_s]
    by_cases z : e = n
    · subst z; omega
    · have := ih (by omega); omega
theorem gs_two {n x y : Nat} (hxy : ¬ x = y) : x < n → y < n → gv f x + gv f y ≤ gs f n := by
  induction n with
  | zero => intro h; omega
  | succ n ih =>
    intro hx hy
    rw [gs_s]
    by_cases z : x = n
    · subst z
      have := gs_ge (f := f) (show y < x by omega)
      omega
    · by_cases z' : y = n
      · subst z'
        have := gs_ge (f := f) (show x < y by omega)
        omega
      · have := ih (by omega) (by omega)
        omega
/-- one entry changes -/
theorem gs_one {n e : Nat} (he : e < n) : (∀ x, x < n → ¬ x = e → gv g x = gv f x) → gs g n + gv f e = gs f n + gv g e := by
  induction n with
  | zero => omega
  | succ n ih =>
    intro h
    rw [gs_s, gs_s]
    by_cases z : e = n
    · subst z
      rw [gs_c (f := f) (fun x hx => h x (by omega) (by omega))]
      omega
    · have := ih (by omega) (fun x hx => h x (by omega))
      rw [h n (by omega) (by omega)]
      omega
theorem close_117 (ho : rng (f 117) 16) {e : Nat} (he : e < mo f) : closeF f e 117 = nI (mo f - 1) := by
  unfold closeF
  rw [if_pos rfl, ho.1, show (1 : Int32) = nI 1 from rfl, pk_sub (by unfold mo at he; omega)]
  rfl
theorem close_mo (ho : rng (f 117) 16) {e : Nat} (he : e < mo f) : mo (closeF f e) = mo f - 1 := by
  have h16 : mo f ≤ 16 := ho.2
  show (closeF f e 117).toNatClampNeg = _
  rw [close_117 ho he]
  exact rs_tn (by omega)
theorem close_lo (f : Nat → Int32) (e : Nat) {k : Nat} (h : k < 117) : closeF f e k = f k := by
  unfold closeF
  rw [if_neg (by omega), if_neg (by omega)]
theorem close_en (f : Nat → Int32) (e : Nat) {p q : Nat} (hp : p < mo f - 1) (hq : q < 8) : en (closeF f e) p q = en f (if p < e then p else p + 1) q := by
  unfold en closeF
  rw [if_neg (by omega)]
  by_cases y : p < e
  · rw [if_neg (by omega), if_pos y]
  · rw [if_pos (by omega), if_neg y]
    exact congrArg f (by omega)
theorem gs_close (f : Nat → Int32) (e : Nat) : ∀ j, j ≤ mo f - 1 → gs (closeF f e) j + (if j ≤ e then 0 else gv f e) = (if j ≤ e then gs f j else gs f (j + 1)) := by
  intro j
  induction j with
  | zero => intro _; rw [if_pos (Nat.zero_le _), if_pos (Nat.zero_le _)]; rfl
  | succ j ih =>
    intro hj
    have ih := ih (by omega)
    have hg : gv (closeF f e) j = gv f (if j < e then j else j + 1) := gv_c (fun q _ hq => close_en f e (by omega) hq)
    rw [gs_s, hg]
    by_cases y : j < e
    · rw [if_pos (show j ≤ e by omega), if_pos (show j ≤ e by omega)] at ih
      rw [if_pos y, if_pos (show j + 1 ≤ e by omega), if_pos (show j + 1 ≤ e by omega), gs_s]
      omega
    · by_cases z : j = e
      · subst z
        rw [if_pos (by omega), if_pos (by omega)] at ih
        rw [if_neg (by omega), if_neg (by omega), if_neg (by omega), gs_s, gs_s]
        omega
      · rw [if_neg (by omega), if_neg (by omega)] at ih
        rw [if_neg (by omega), if_neg (by omega), if_neg (by omega), gs_s f (j + 1)]
        omega
theorem gs_closed (ho : rng (f 117) 16) {e : Nat} (he : e < mo f) : gs (closeF f e) (mo (closeF f e)) + gv f e = gs f (mo f) := by
  rw [close_mo ho he]
  have h := gs_close f e (mo f - 1) (Nat.le_refl _)
  obtain ⟨n, hn⟩ : ∃ n, mo f = n + 1 := ⟨mo f - 1, by omega⟩
  rw [hn] at h ⊢
  rw [Nat.add_sub_cancel] at h ⊢
  by_cases y : n ≤ e
  · rw [if_pos y, if_pos y] at h
    have : e = n := by omega
    subst this
    rw [gs_s]
    omega
  · rw [if_neg y, if_neg y] at h
    exact h
theorem Iw.close (h : Iw a s f) {e : Nat} (he : e < mo f) (g : Nat → Int32) (hg : ∀ k, k < 118 → g k = f k) (hen : ∀ x, x < mo f → ¬ x = e → EI g x) : Iw a s (closeF g e) := by
  have ho : rng (f 117) 16 := h.2.2.2.2.2.2.1
  have hog : rng (g 117) 16 := by rw [hg _ (by decide)]; exact ho
  have hmo : mo g = mo f := mo_c (hg _ (by decide))
  have h16 : mo f ≤ 16 := ho.2
  refine h.ents (fun k hk _ => (close_lo _ _ hk).trans (hg k (by omega))) ?_ ?_ (fun p hp => ?_)
  · rw [close_lo _ _ (by decide), hg _ (by decide)]; exact h.2.1
  · rw [close_117 hog (by rw [hmo]; exact he)]; exact rng_of (by omega) (by decide)
  · rw [close_mo hog (by rw [hmo]; exact he), hmo] at hp
    refine (hen (if p < e then p else p + 1) (by split <;> omega) (by split <;> omega)).c' (close_lo _ _ (by decide)) (fun q _ hq => close_en g e (by rw [hmo]; exact hp) hq)
/-! a part of an entry goes -/
theorem part_lo (f : Nat → Int32) (e : Nat) (w : Int32) {k : Nat} (h : k < 118) : partG f e w k = f k := partG_lo f w h
theorem part_oe (f : Nat → Int32) {e x q : Nat} (w : Int32) (hq : q < 8) (h : ¬ x = e) : en (partG f e w) x q = en f x q := by
  unfold partG
  rw [en_oe _ _ hq (by decide) h, en_oe _ _ hq (by decide) h]
theorem part_oq (f : Nat → Int32) {e q : Nat} (w : Int32) (hq : q < 8) (h2 : ¬ q = 2) (h3 : ¬ q = 3) : en (partG f e w) e q = en f e q := by
  unfold partG
  rw [en_ot _ _ hq (by decide) h2, en_ot _ _ hq (by decide) h3]
theorem part_2 (f : Nat → Int32) (e : Nat) (w : Int32) : en (partG f e w) e 2 = en f e 2 - w := by
  unfold partG
  exact en_up_e _ e 2 _
theorem part_3 (f : Nat → Int32) (e : Nat) (w : Int32) : en (partG f e w) e 3 = en f e 3 - shareF f e w := by
  unfold partG
  rw [en_ot _ _ (by decide) (by decide) (by decide)]
  exact en_up_e _ e 3 _
theorem share_r {e : Nat} {w : Int32} (hE : EI f e) (hw : rng w (en f e 2).toNatClampNeg) : rng (shareF f e w) (en f e 3).toNatClampNeg ∧ (shareF f e w).toNatClampNeg = (en f e 3).toNatClampNeg * w.toNatClampNeg / (en f e 2).toNatClampNeg := by
  unfold shareF
  have h1 := hE.2.1.2
  have h2 := hE.2.2.2.1.2
  have h3 := hE.2.2.1
  have h4 := hw.2
  rw [hE.2.2.2.1.1, hE.2.1.1, hw.1]
  rw [rs_tn (show (en f e 3).toNatClampNeg < 2147483648 by omega), rs_tn (show (en f e 2).toNatClampNeg < 2147483648 by omega), rs_tn (show w.toNatClampNeg < 2147483648 by omega)]
  generalize (en f e 3).toNatClampNeg = V at *
  generalize (en f e 2).toNatClampNeg = W at *
  generalize w.toNatClampNeg = w' at *
  have b1 : V * w' ≤ 659880 * 999 := Nat.mul_le_mul h2 (by omega)
  have b2 : V * w' / W ≤ V := Nat.div_le_of_le_mul (by rw [Nat.mul_comm W V]; exact Nat.mul_le_mul_left V h4)
  rw [pk_mul, pk_div (by omega) (by omega) (by omega)]
  exact ⟨rng_of b2 (by omega), rs_tn (by omega)⟩
theorem sub_r {x y : Int32} {b : Nat} (hx : rng x b) (hb : b < 2147483648) (hy : rng y x.toNatClampNeg) : rng (x - y) b ∧ (x - y).toNatClampNeg = x.toNatClampNeg - y.toNatClampNeg := by
  have h1 := hx.2
  have h2 := hy.2
  have : x - y = nI (x.toNatClampNeg - y.toNatClampNeg) := by
    have := pk_sub h2
    rw [← hx.1, ← hy.1] at this
    exact this
  rw [this]
  exact ⟨rng_of (by omega) hb, rs_tn (by omega)⟩
theorem sub_00 {x y : Int32} {b : Nat} (hx : rng x b) (hb : b < 2147483648) (hy : rng y x.toNatClampNeg) (h : ¬ x - y = 0) : 1 ≤ (x - y).toNatClampNeg := by
  have h1 := sub_r hx hb hy
  by_cases z : (x - y).toNatClampNeg = 0
  · exact absurd (by rw [h1.1.1, z]; rfl) h
  · omega
theorem part_EI {e : Nat} {w : Int32} (hE : EI f e) (hw : rng w (en f e 2).toNatClampNeg) (h0 : ¬ en f e 2 - w = 0) : EI (partG f e w) e := by
  have hs := share_r hE hw
  have h2 := sub_r hE.2.1 (by decide) hw
  have h3 := sub_r hE.2.2.2.1 (by decide) hs.1
  unfold EI
  rw [part_lo _ _ _ (by decide), part_2, part_3, part_oq _ _ (by decide) (by decide) (by decide), part_oq _ _ (by decide) (by decide) (by decide), part_oq _ _ (by decide) (by decide) (by decide), part_oq _ _ (by decide) (by decide) (by decide), part_oq _ _ (by decide) (by decide) (by decide)]
  exact ⟨hE.1, h2.1, sub_00 hE.2.1 (by decide) hw h0, h3.1, hE.2.2.2.2⟩
theorem gv_part {e : Nat} {w : Int32} (hE : EI f e) (hw : rng w (en f e 2).toNatClampNeg) : gv (partG f e w) e + ((shareF f e w).toNatClampNeg + w.toNatClampNeg) = gv f e := by
  have hs := share_r hE hw
  have h2 := sub_r hE.2.1 (by decide) hw
  have h3 := sub_r hE.2.2.2.1 (by decide) hs.1
  unfold gv
  rw [part_2, part_3, h2.2, h3.2]
  have := hs.1.2
  have := hw.2
  omega
theorem goes_lo (f : Nat → Int32) (e : Nat) (w : Int32) {k : Nat} (h : k < 117) : goesF f e w k = f k := by
  unfold goesF
  split
  · rw [close_lo _ _ h, part_lo _ _ _ (by omega)]
  · exact part_lo _ _ _ (by omega)
theorem Iw.goes (h : Iw a s f) {e : Nat} {w : Int32} (he : e < mo f) (hw : rng w (en f e 2).toNatClampNeg) : Iw a s (goesF f e w) := by
  have hE : EI f e := h.2.2.2.2.2.2.2.2.2.1 e he
  have hx : ∀ x, x < mo f → ¬ x = e → EI (partG f e w) x := fun x hx hn => (h.2.2.2.2.2.2.2.2.2.1 x hx).c' (part_lo _ _ _ (by decide)) (fun q _ hq => part_oe f w hq hn)
  unfold goesF
  by_cases z : en f e 2 - w = 0
  · rw [if_pos z]
    exact h.close he _ (fun k hk => part_lo _ _ _ hk) hx
  · rw [if_neg z]
    have hm : mo (partG f e w) = mo f := mo_c (part_lo _ _ _ (by decide))
    refine h.ents (fun k hk _ => part_lo _ _ _ (by omega)) ?_ ?_ (fun x hx' => ?_)
    · rw [part_lo _ _ _ (by decide)]; exact h.2.1
    · rw [part_lo _ _ _ (by decide)]; exact h.2.2.2.2.2.2.1
    · rw [hm] at hx'
      by_cases y : x = e
      · subst y
        exact part_EI hE hw z
      · exact hx x hx' y
theorem gs_goes (ho : rng (f 117) 16) {e : Nat} {w : Int32} (he : e < mo f) (hE : EI f e) (hw : rng w (en f e 2).toNatClampNeg) : gs (goesF f e w) (mo (goesF f e w)) + ((shareF f e w).toNatClampNeg + w.toNatClampNeg) ≤ gs f (mo f) := by
  have hm : mo (partG f e w) = mo f := mo_c (part_lo _ _ _ (by decide))
  have h1 : gs (partG f e w) (mo f) + gv f e = gs f (mo f) + gv (partG f e w) e := gs_one he (fun x hx hn => gv_c (fun q _ hq => part_oe f w hq hn))
  have h2 := gv_part hE hw
  unfold goesF
  by_cases z : en f e 2 - w = 0
  · rw [if_pos z]
    have h3 := gs_closed (f := partG f e w) (e := e) (by rw [part_lo _ _ _ (by decide)]; exact ho) (by rw [hm]; exact he)
    rw [hm] at h3
    omega
  · rw [if_neg z, hm]
    omega
end SEM17
