section SEM20
variable {a a' s s' : Nat} {f g : Nat → Int32}
def okA (x : Int32) : Prop := ¬ x = -1 ∧ ¬ x = -2 ∧ ¬ x = -3
theorem rng.okA {x : Int32} {b : Nat} (h : rng x b) (hb : b < 2147483648) : okA x := by
  have hn := h.nn hb
  exact ⟨fun z => hn (by rw [z]; decide), fun z => hn (by rw [z]; decide), fun z => hn (by rw [z]; decide)⟩
theorem c_answer {x : Int32} (h : okA x) (mm : Mm) (Q : Int32 → Prop) (X : Nat → Mm → Prop) : w_X9_answer x mm Q X ↔ Q x := by
  unfold w_X9_answer
  obtain ⟨h1, h2, h3⟩ := h
  simp only [h1, h2, h3, not_true_eq_false, not_false_eq_true, false_implies, true_implies, true_and, and_true, forall_eq, if_true, if_false, reduceIte]
theorem c_answer1 (mm : Mm) (Q : Int32 → Prop) (X : Nat → Mm → Prop) : w_X9_answer (-1) mm Q X ↔ X 1 mm := by
  unfold w_X9_answer
  simp only [not_true_eq_false, not_false_eq_true, false_implies, true_implies, true_and, and_true, forall_eq, if_true, if_false, reduceIte]
theorem c_answer2 (mm : Mm) (Q : Int32 → Prop) (X : Nat → Mm → Prop) : w_X9_answer (-2) mm Q X ↔ X 2 mm := by
  unfold w_X9_answer
  simp only [show ¬ (-2 : Int32) = -1 by decide, not_true_eq_false, not_false_eq_true, false_implies, true_implies, true_and, and_true, forall_eq, if_true, if_false, reduceIte]
theorem c_answer3 (mm : Mm) (Q : Int32 → Prop) (X : Nat → Mm → Prop) : w_X9_answer (-3) mm Q X ↔ X 3 mm := by
  unfold w_X9_answer
  simp only [show ¬ (-3 : Int32) = -1 by decide, show ¬ (-3 : Int32) = -2 by decide, not_true_eq_false, not_false_eq_true, false_implies, true_implies, true_and, and_true, forall_eq, if_true, if_false, reduceIte]
def cw (f : Nat → Int32) (c : Int32) : Nat → Nat
  | 0 => 0
  | n + 1 => cw f c n + (if en f n 4 = c then (en f n 2).toNatClampNeg else 0)
theorem room_n (c : Int32) : ∀ j, (∀ e, e < j → rng (en f e 2) 999) → fo (fun e s => if en f e 4 = c then s - en f e 2 else s) j 2000 = nI 2000 - nI (cw f c j) ∧ cw f c j ≤ 999 * j := by
  intro j
  induction j with
  | zero =>
    intro _
    refine ⟨?_, Nat.le_refl _⟩
    show (2000 : Int32) = nI 2000 - nI 0
    decide
  | succ j ih =>
    intro h
    have ih := ih (fun e he => h e (by omega))
    have hj := h j (by omega)
    show (if en f j 4 = c then fo _ j 2000 - en f j 2 else fo _ j 2000) = nI 2000 - nI (cw f c j + (if en f j 4 = c then (en f j 2).toNatClampNeg else 0)) ∧ cw f c j + (if en f j 4 = c then (en f j 2).toNatClampNeg else 0) ≤ _
    rw [ih.1]
    have h2 := hj.2
    by_cases z : en f j 4 = c
    · rw [if_pos z, if_pos z, ← nI_add, ← hj.1, Int32.sub_eq_add_neg, Int32.sub_eq_add_neg, Int32.sub_eq_add_neg, Int32.neg_add, Int32.sub_eq_add_neg, Int32.add_assoc]
      exact ⟨rfl, by omega⟩
    · rw [if_neg z, if_neg z]
      exact ⟨rfl, by omega⟩
theorem cw_move {e : Nat} {c : Int32} (hc : ¬ en f e 4 = c) : ∀ j, cw (moveF f e c) c j = cw f c j + (if e < j then (en f e 2).toNatClampNeg else 0) := by
  intro j
  induction j with
  | zero => rfl
  | succ j ih =>
    show cw (moveF f e c) c j + _ = cw f c j + _ + _
    rw [ih]
    have h2 : ∀ x, en (moveF f e c) x 2 = en f x 2 := fun x => en_up _ _ (by omega)
    rw [h2]
    by_cases z : j = e
    · subst z
      rw [show en (moveF f j c) j 4 = c from en_up_e f j 4 c, if_pos rfl, if_neg hc, if_neg (by omega), if_pos (by omega)]
    · have h4 : en (moveF f e c) j 4 = en f j 4 := en_oe _ _ (by decide) (by decide) z
      rw [h4]
      by_cases y : e < j
      · rw [if_pos y, if_pos (show e < j + 1 by omega)]
        omega
      · rw [if_neg y, if_neg (show ¬ e < j + 1 by omega), Nat.add_zero, Nat.add_zero]
theorem whyM0 {e : Nat} {c : Int32} (h : whyM f e c = 0) : ¬ en f e 4 = c ∧ en f e 2 ≤ roomF f c := by
  unfold whyM at h
  by_cases h1 : en f e 4 = c
  · rw [if_pos h1] at h; exact absurd h (by decide)
  · rw [if_neg h1] at h
    by_cases h2 : f (10 + (en f e 4).toNatClampNeg) ≤ 0
    · rw [if_pos h2] at h
      by_cases h3 : en f e 7 = 0
      · rw [if_pos h3] at h; exact absurd h (by decide)
      · rw [if_neg h3] at h
        by_cases h4 : f (10 + c.toNatClampNeg) ≤ 0
        · rw [if_pos h4] at h
          by_cases h5 : en f e 2 ≤ roomF f c
          · exact ⟨h1, h5⟩
          · rw [if_neg h5] at h; exact absurd h (by decide)
        · rw [if_neg h4] at h; exact absurd h (by decide)
    · rw [if_neg h2] at h; exact absurd h (by decide)
theorem move_r (hI : Inv a s f) {e : Nat} {c : Int32} (he : e < mo f) (h : whyM f e c = 0) : rng (roomF (moveF f e c) c) 2000 := by
  obtain ⟨h4, hr⟩ := whyM0 h
  have hmo : mo (moveF f e c) = mo f := mo_up _ _ (by omega)
  have h16 := hI.mo16
  have h1 := room_n (f := f) c (mo f) (fun e he => (hI.ent e he).2.1)
  have h2 := room_n (f := moveF f e c) c (mo f) (fun x hx => by
    rw [show en (moveF f e c) x 2 = en f x 2 from en_up _ _ (by omega)]
    exact (hI.ent x hx).2.1)
  have hw := (hI.ent e he).2.1
  unfold roomF at hr ⊢
  rw [hmo, h2.1, cw_move h4, if_pos he]
  rw [h1.1] at hr
  rw [Int32.le_iff_toInt_le, pk_sub_toInt (by decide) (by omega), hw.1, nI_toInt (by have := hw.2; omega)] at hr
  rw [pk_sub (by omega)]
  exact rng_of (by omega) (by decide)
theorem op_r (hI : Inv a s f) (c : Nat) : ∀ j, j ≤ mo f → rng (opC f c j).1 j := by
  intro j
  induction j with
  | zero => intro _; exact rng_of (n := 0) (Nat.le_refl _) (by decide)
  | succ j ih =>
    intro hj
    have h16 := hI.mo16
    have ih := ih (by omega)
    have hC : opC f c (j + 1) = opG (decide (f (15 + c) = 1)) (nI c) j (opC f c j) := rfl
    have h7 : en (opC f c j).2 j 7 = en f j 7 := opC_at f c (fun ⟨e, h1, h2⟩ => by omega)
    have hb := rng01 (hI.ent j (by omega)).2.2.2.2.2.2.2
    rw [hC]
    by_cases z : en (opC f c j).2 j 4 = nI c
    · rw [opG_pos z]
      show rng ((opC f c j).1 + (1 - opV _ (en (opC f c j).2 j 7))) (j + 1)
      rw [h7]
      refine (add_r ih (y := 1 - opV _ (en f j 7)) (c := 1) ?_ (by omega)).1
      unfold opV
      split
      · exact rng_of (n := 1) (by decide) (by decide)
      · rcases hb with hb | hb
        · rw [hb]; exact rng_of (n := 1) (by decide) (by decide)
        · rw [hb]; exact rng_of (n := 0) (by decide) (by decide)
    · rw [opG_neg z]
      exact ih.mono (by omega)
theorem opF_r (hI : Inv a s f) {c : Nat} (hc : c < 5) : rng (opF f c).1 16 := by
  have hcl : opF f c = ((opC f c (mo f)).1, up (up (opC f c (mo f)).2 (10 + c) 0) (15 + c) 0) := opL_C f hc (mo f)
  rw [hcl]
  exact (op_r hI c (mo f) (Nat.le_refl _)).mono hI.mo16
theorem ps_r (hI : Inv a s f) (d : Int32) : ∀ j, j ≤ mo f → rng (psL f d j).1 j := by
  intro j
  induction j with
  | zero => intro _; exact rng_of (n := 0) (Nat.le_refl _) (by decide)
  | succ j ih =>
    intro hj
    have h16 := hI.mo16
    have ih := ih (by omega)
    show rng ((psL f d j).1 + (if en (psL f d j).2 j 5 ≤ 200 then (if en (psL f d j).2 j 5 + d ≤ 200 then 0 else 1) else 0)) (j + 1)
    refine (add_r ih (c := 1) ?_ (by omega)).1
    split
    · split
      · exact rng_of (n := 0) (by decide) (by decide)
      · exact rng_of (n := 1) (by decide) (by decide)
    · exact rng_of (n := 0) (by decide) (by decide)
theorem psF_r (hI : Inv a s f) (d : Int32) : rng (psL f d (mo f)).1 16 := (ps_r hI d _ (Nat.le_refl _)).mono hI.mo16
end SEM20
