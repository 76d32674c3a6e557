section JINV
variable {a s : Nat} {f g : Nat → Int32}
/-! sums over the entries and over the receipts -/
theorem sg_c {G F : Nat → Nat} : ∀ {n : Nat}, (∀ e, e < n → G e = F e) → sg G n = sg F n := by
  intro n
  induction n with
  | zero => intro _; rfl
  | succ n ih =>
    intro h
    show sg G n + G n = sg F n + F n
    rw [ih (fun e he => h e (by omega)), h n (by omega)]
theorem sg_s (G : Nat → Nat) (n : Nat) : sg G (n + 1) = sg G n + G n := rfl
theorem sg_ge {G : Nat → Nat} {n e : Nat} (he : e < n) : G e ≤ sg G n := by
  induction n with
  | zero => omega
  | succ n ih =>
    rw [sg_s]
    by_cases z : e = n
    · subst z; omega
    · have := ih (by omega); omega
/-- one is taken out, those behind it move up -/
theorem sg_rm {G F : Nat → Nat} {e : Nat} : ∀ {N : Nat}, e < N → (∀ p, p < N - 1 → G p = F (if p < e then p else p + 1)) → sg G (N - 1) + F e = sg F N := by
  intro N
  induction N with
  | zero => intro h; omega
  | succ N ih =>
    intro he hG
    rw [Nat.add_sub_cancel] at hG ⊢
    by_cases z : e = N
    · subst z
      rw [sg_c (F := F) (fun p hp => by rw [hG p hp, if_pos hp]), sg_s]
    · cases N with
      | zero => omega
      | succ N =>
        have h1 := ih (by omega) (fun p hp => hG p (by omega))
        rw [Nat.add_sub_cancel] at h1
        have h2 := hG N (by omega)
        rw [if_neg (by omega)] at h2
        rw [sg_s G N, sg_s F (N + 1), h2]
        omega
/-- the weight of the entries whose field q is v -/
def eq1 (f : Nat → Int32) (q : Nat) (v : Int32) (e : Nat) : Nat := if en f e q = v then wN f e else 0
def sq (f : Nat → Int32) (q : Nat) (v : Int32) : Nat := sg (eq1 f q v) (mo f)
theorem eq1_c {q : Nat} {v : Int32} {e e' : Nat} (h1 : en g e q = en f e' q) (h2 : en g e 2 = en f e' 2) : eq1 g q v e = eq1 f q v e' := by
  unfold eq1 wN
  rw [h1, h2]
theorem sq_c {q : Nat} {v : Int32} (hm : mo g = mo f) (h1 : ∀ e, e < mo f → en g e q = en f e q) (h2 : ∀ e, e < mo f → en g e 2 = en f e 2) : sq g q v = sq f q v := by
  unfold sq
  rw [hm]
  exact sg_c (fun e he => eq1_c (h1 e he) (h2 e he))
theorem sq_ge {q e : Nat} {v : Int32} (he : e < mo f) (h : en f e q = v) : wN f e ≤ sq f q v := by
  have := sg_ge (G := eq1 f q v) he
  unfold eq1 at this
  rw [if_pos h] at this
  exact this
/-- a part of entry e goes: g is f but for what entries are not of -/
theorem sq_goes {q : Nat} (hq : q = 1 ∨ q = 4) {v : Int32} (ho : rng (f 117) 16) (h117 : g 117 = f 117) (h1 : ∀ e, e < mo f → en g e q = en f e q) (h2 : ∀ e, e < mo f → en g e 2 = en f e 2) {e : Nat} {w : Int32} (he : e < mo f) (hE : rng (en f e 2) 999) (hw : rng w (en f e 2).toNatClampNeg) :
    sq (goesF g e w) q v + (if en f e q = v then w.toNatClampNeg else 0) = sq f q v := by
  have hm : mo g = mo f := mo_c h117
  have hq8 : q < 8 := by omega
  have hq2 : ¬ q = 2 := by omega
  have hq3 : ¬ q = 3 := by omega
  have hs := sub_r hE (by decide) hw
  have hw2 := hw.2
  have hpm : mo (partG g e w) = mo f := (mo_c (part_lo g e w (by decide))).trans hm
  have hpe : eq1 (partG g e w) q v e + (if en f e q = v then w.toNatClampNeg else 0) = eq1 f q v e := by
    unfold eq1 wN
    rw [part_oq g w hq8 hq2 hq3, part_2, h1 e he, h2 e he, hs.2]
    by_cases z : en f e q = v
    · rw [if_pos z, if_pos z, if_pos z]; omega
    · rw [if_neg z, if_neg z, if_neg z]
  have hpo : ∀ x, x < mo f → ¬ x = e → eq1 (partG g e w) q v x = eq1 f q v x := fun x hx hn => by
    refine eq1_c ?_ ?_
    · rw [part_oe g w hq8 hn]; exact h1 x hx
    · rw [part_oe g w (by decide) hn]; exact h2 x hx
  have hsum : sg (eq1 (partG g e w) q v) (mo f) + eq1 f q v e = sg (eq1 f q v) (mo f) + eq1 (partG g e w) q v e := sg_upd _ he hpo
  unfold goesF sq
  by_cases z : en g e 2 - w = 0
  · rw [if_pos z]
    have ho' : rng (partG g e w 117) 16 := by rw [part_lo _ _ _ (by decide), h117]; exact ho
    have hcm : mo (closeF (partG g e w) e) = mo f - 1 := by rw [close_mo ho' (by rw [hpm]; exact he), hpm]
    rw [hcm]
    have hr := sg_rm (G := eq1 (closeF (partG g e w) e) q v) (F := eq1 (partG g e w) q v) he (fun p hp => eq1_c (close_en _ _ (by rw [hpm]; exact hp) hq8) (close_en _ _ (by rw [hpm]; exact hp) (by decide)))
    have h0 : eq1 (partG g e w) q v e = 0 := by
      unfold eq1 wN
      rw [part_2, z]
      split <;> rfl
    omega
  · rw [if_neg z, hpm]
    omega
/-! what more is so of every state -/
def nN (f : Nat → Int32) (e : Nat) : Nat := (en f e 0).toNatClampNeg
def JN (f : Nat → Int32) : Prop := (∀ e, e < mo f → en f e 0 = nI (nN f e) ∧ nN f e < (f 1).toNatClampNeg) ∧ (∀ x y, x < y → y < mo f → nN f x < nN f y)
def JM (f : Nat → Int32) : Prop := f 3 - f 4 = f 6 + f 9 - f 7 - f 8 ∧ (f 3 = 0 ∨ f 4 = 0)
def JC (f : Nat → Int32) : Prop := ∀ c, c < 5 → sq f 4 (nI c) ≤ 2000
def tn (f : Nat → Int32) (k q : Nat) : Nat := (f (32 + 6 * k + q)).toNatClampNeg
def rq1 (f : Nat → Int32) (v : Int32) (r : Nat) : Nat := if rc f r 0 = v then (rc f r 1).toNatClampNeg else 0
def rq (f : Nat → Int32) (v : Int32) : Nat := sg (rq1 f v) (mr f)
def JK1 (f : Nat → Int32) (k : Nat) : Prop := (∀ q, q < 6 → f (32 + 6 * k + q) = nI (tn f k q)) ∧ tn f k 0 = sq f 1 (nI k) + tn f k 1 + tn f k 2 + tn f k 3 + tn f k 4 ∧ tn f k 0 ≤ 999 * (f 1).toNatClampNeg ∧ tn f k 5 + rq f (nI k) ≤ tn f k 1
def JK (f : Nat → Int32) : Prop := ∀ k, k < 6 → JK1 f k
def JI (f : Nat → Int32) : Prop := JN f ∧ JM f ∧ JC f ∧ JK f
theorem JN.same (h : JN f) (h117 : g 117 = f 117) (h1 : g 1 = f 1) (hen : ∀ e, e < mo f → en g e 0 = en f e 0) : JN g := by
  have hm := mo_c h117
  have hn : ∀ e, e < mo f → nN g e = nN f e := fun e he => by unfold nN; rw [hen e he]
  refine ⟨fun e he => ?_, fun x y hxy hy => ?_⟩
  · rw [hm] at he
    rw [hen e he, hn e he, h1]
    exact h.1 e he
  · rw [hm] at hy
    rw [hn x (by omega), hn y hy]
    exact h.2 x y hxy hy
theorem JM.same (h : JM f) (h3 : g 3 = f 3) (h4 : g 4 = f 4) (h6 : ∀ k, 6 ≤ k → k < 10 → g k = f k) : JM g := by
  unfold JM at *
  rw [h3, h4, h6 6 (by decide) (by decide), h6 7 (by decide) (by decide), h6 8 (by decide) (by decide), h6 9 (by decide) (by decide)]
  exact h
theorem JC.same (h : JC f) (h117 : g 117 = f 117) (h4 : ∀ e, e < mo f → en g e 4 = en f e 4) (h2 : ∀ e, e < mo f → en g e 2 = en f e 2) : JC g := fun c hc => by
  rw [sq_c (mo_c h117) h4 h2]
  exact h c hc
theorem rq_c {v : Int32} (hm : mr g = mr f) (h0 : ∀ r, r < mr f → rc g r 0 = rc f r 0) (h1 : ∀ r, r < mr f → rc g r 1 = rc f r 1) : rq g v = rq f v := by
  unfold rq
  rw [hm]
  exact sg_c (fun r hr => by unfold rq1; rw [h0 r hr, h1 r hr])
theorem JK1.same {k : Nat} (hk : k < 6) (h : JK1 f k) (ht : ∀ j, 32 ≤ j → j < 68 → g j = f j) (h1 : g 1 = f 1) (hs : sq g 1 (nI k) = sq f 1 (nI k)) (hr : rq g (nI k) = rq f (nI k)) : JK1 g k := by
  have htn : ∀ q, q < 6 → tn g k q = tn f k q := fun q hq => by unfold tn; rw [ht _ (by omega) (by omega)]
  obtain ⟨a1, a2, a3, a4⟩ := h
  refine ⟨fun q hq => ?_, ?_, ?_, ?_⟩
  · rw [htn q hq, ht _ (by omega) (by omega)]; exact a1 q hq
  · rw [htn 0 (by decide), htn 1 (by decide), htn 2 (by decide), htn 3 (by decide), htn 4 (by decide), hs]; exact a2
  · rw [htn 0 (by decide), h1]; exact a3
  · rw [htn 5 (by decide), htn 1 (by decide), hr]; exact a4
theorem JK.same (h : JK f) (ht : ∀ j, 32 ≤ j → j < 68 → g j = f j) (h1 : g 1 = f 1) (h117 : g 117 = f 117) (h68 : g 68 = f 68) (hk : ∀ e, e < mo f → en g e 1 = en f e 1) (h2 : ∀ e, e < mo f → en g e 2 = en f e 2) (hr0 : ∀ r, r < mr f → rc g r 0 = rc f r 0) (hr1 : ∀ r, r < mr f → rc g r 1 = rc f r 1) : JK g := fun k hk6 =>
  (h k hk6).same hk6 ht h1 (sq_c (mo_c h117) hk h2) (rq_c (mr_c h68) hr0 hr1)
/-- totals: one goes up by w -/
theorem tot_at (f : Nat → Int32) (k q : Nat) (w : Int32) : totF f k q w (32 + 6 * k + q) = f (32 + 6 * k + q) + w := up_eq _ _ _
theorem tot_ne (f : Nat → Int32) (k q : Nat) (w : Int32) {j : Nat} (h : ¬ j = 32 + 6 * k + q) : totF f k q w j = f j := up_ne _ _ h
theorem n_add {x w : Int32} {n b : Nat} (hx : x = nI n) (hw : rng w b) (hb : n + b < 2147483648) : x + w = nI (n + w.toNatClampNeg) ∧ (x + w).toNatClampNeg = n + w.toNatClampNeg := by
  have h2 := hw.2
  have e : x + w = nI (n + w.toNatClampNeg) := by
    rw [hx]
    have h1 := hw.1
    generalize hz : w.toNatClampNeg = m at *
    rw [h1]
    exact nI_add n m
  exact ⟨e, by rw [e]; exact rs_tn (by omega)⟩
theorem Inv.m60 (h : Inv a s f) : (f 1).toNatClampNeg ≤ 60 := h.made.2
end JINV
