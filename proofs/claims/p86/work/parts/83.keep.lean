section JKEEP
variable {a s : Nat} {f g G : Nat → Int32}
theorem part_0 (f : Nat → Int32) (e : Nat) (w : Int32) (x : Nat) : en (partG f e w) x 0 = en f x 0 := by
  by_cases z : x = e
  · subst z; exact part_oq f w (by decide) (by decide) (by decide)
  · exact part_oe f w (by decide) z
theorem JN.close (h : JN f) (ho : rng (f 117) 16) {e : Nat} (he : e < mo f) : JN (closeF f e) := by
  have hm := close_mo ho he
  have hen : ∀ p, p < mo f - 1 → en (closeF f e) p 0 = en f (if p < e then p else p + 1) 0 := fun p hp => close_en f e hp (by decide)
  have hn : ∀ p, p < mo f - 1 → nN (closeF f e) p = nN f (if p < e then p else p + 1) := fun p hp => by unfold nN; rw [hen p hp]
  refine ⟨fun p hp => ?_, fun x y hxy hy => ?_⟩
  · rw [hm] at hp
    rw [hen p hp, hn p hp, close_lo f e (by decide)]
    exact h.1 _ (by split <;> omega)
  · rw [hm] at hy
    rw [hn x (by omega), hn y hy]
    exact h.2 _ _ (by split <;> split <;> omega) (by split <;> omega)
theorem JN.goes (h : JN f) (ho : rng (f 117) 16) (h117 : g 117 = f 117) (h1 : g 1 = f 1) (hen : ∀ e, e < mo f → en g e 0 = en f e 0) {e : Nat} {w : Int32} (he : e < mo f) : JN (goesF g e w) := by
  have hp : JN (partG g e w) := h.same ((part_lo _ _ _ (by decide)).trans h117) ((part_lo _ _ _ (by decide)).trans h1) (fun x hx => (part_0 g e w x).trans (hen x hx))
  unfold goesF
  split
  · exact hp.close (by rw [part_lo _ _ _ (by decide), h117]; exact ho) (by rw [mo_c ((part_lo _ _ _ (by decide)).trans h117)]; exact he)
  · exact hp
theorem JC.le (h : JC f) (hs : ∀ c, c < 5 → sq g 4 (nI c) ≤ sq f 4 (nI c)) : JC g := fun c hc => Nat.le_trans (hs c hc) (h c hc)
theorem JK1.bd {k : Nat} (h : JK1 f k) (hm : (f 1).toNatClampNeg ≤ 60) : ∀ q, q < 6 → tn f k q ≤ 59940 := by
  obtain ⟨_, a2, a3, a4⟩ := h
  intro q hq
  have : q = 0 ∨ q = 1 ∨ q = 2 ∨ q = 3 ∨ q = 4 ∨ q = 5 := by omega
  rcases this with rfl | rfl | rfl | rfl | rfl | rfl <;> omega
theorem JK1.upd {k : Nat} {d : Nat → Nat} (h : JK1 f k) (hm : (f 1).toNatClampNeg ≤ 60) (hd : ∀ q, q < 6 → d q ≤ 2000) (hG : ∀ q, q < 6 → G (32 + 6 * k + q) = nI (tn f k q + d q)) (h1 : 999 * (f 1).toNatClampNeg + d 0 ≤ 999 * (G 1).toNatClampNeg) (hs : sq G 1 (nI k) + d 1 + d 2 + d 3 + d 4 = sq f 1 (nI k) + d 0) (hr : d 5 + rq G (nI k) ≤ rq f (nI k) + d 1) : JK1 G k := by
  have hb := h.bd hm
  have ht : ∀ q, q < 6 → tn G k q = tn f k q + d q := fun q hq => by
    unfold tn
    have := hb q hq
    have := hd q hq
    unfold tn at *
    rw [hG q hq, rs_tn (by omega)]
  obtain ⟨_, a2, a3, a4⟩ := h
  refine ⟨fun q hq => by rw [hG q hq, ht q hq], ?_, ?_, ?_⟩
  · rw [ht 0 (by decide), ht 1 (by decide), ht 2 (by decide), ht 3 (by decide), ht 4 (by decide)]; omega
  · rw [ht 0 (by decide)]; omega
  · rw [ht 5 (by decide), ht 1 (by decide)]; omega
/-- nothing of this kind has changed -/
theorem JK1.keep {k : Nat} (hk : k < 6) (h : JK1 f k) (hm : (f 1).toNatClampNeg ≤ (G 1).toNatClampNeg) (hG : ∀ q, q < 6 → G (32 + 6 * k + q) = f (32 + 6 * k + q)) (hs : sq G 1 (nI k) = sq f 1 (nI k)) (hr : rq G (nI k) ≤ rq f (nI k)) : JK1 G k := by
  have htn : ∀ q, q < 6 → tn G k q = tn f k q := fun q hq => by unfold tn; rw [hG q hq]
  obtain ⟨a1, a2, a3, a4⟩ := h
  refine ⟨fun q hq => ?_, ?_, ?_, ?_⟩
  · rw [htn q hq, hG q hq]; exact a1 q hq
  · rw [htn 0 (by decide), htn 1 (by decide), htn 2 (by decide), htn 3 (by decide), htn 4 (by decide), hs]; exact a2
  · rw [htn 0 (by decide)]; omega
  · rw [htn 5 (by decide), htn 1 (by decide)]; omega
theorem tot_in (f : Nat → Int32) {k k0 q q0 : Nat} {w : Int32} (h : JK1 f k) (hm : (f 1).toNatClampNeg ≤ 60) (hw : rng w 999) (hq : q < 6) (hq0 : q0 < 6) (hk : k = k0) : totF f k0 q0 w (32 + 6 * k + q) = nI (tn f k q + (if q = q0 then w.toNatClampNeg else 0)) := by
  subst hk
  have h1 := h.1 q hq
  by_cases z : q = q0
  · subst z
    rw [if_pos rfl, tot_at]
    have := h.bd hm q hq
    exact (n_add h1 hw (by omega)).1
  · rw [if_neg z, tot_ne _ _ _ _ (by omega)]
    exact h1
theorem tot_out (f : Nat → Int32) {k k0 q q0 : Nat} {w : Int32} (hq : q < 6) (hq0 : q0 < 6) (hk : ¬ k = k0) : totF f k0 q0 w (32 + 6 * k + q) = f (32 + 6 * k + q) := tot_ne _ _ _ _ (by omega)
theorem kn_eq {e k : Nat} (hE : EI f e) (hk : k < 6) : (en f e 1 = nI k) ↔ k = knd f e := by
  have h1 := hE.k
  rw [h1.1]
  constructor
  · intro h; exact ((nI_inj (by omega) (by omega)).mp h).symm
  · intro h; rw [h]
/-- goods leave: total q0 of their kind goes up -/
theorem JI.leave (hI : Inv a s f) (hJ : JI f) {e q0 : Nat} {w : Int32} (he : e < mo f) (hw : rng w (en f e 2).toNatClampNeg) (hq0 : q0 = 1 ∨ q0 = 2) (ht : ∀ j, 32 ≤ j → j < 68 → g j = totF f (knd f e) q0 w j) (h1 : g 1 = f 1) (h117 : g 117 = f 117) (hen : ∀ x q, x < mo f → q < 8 → en g x q = en f x q) (hM : JM g) (h12 : mr g ≤ 12)
    (hr : ∀ k, k < 6 → rq g (nI k) ≤ rq f (nI k) + (if k = knd f e then (if q0 = 1 then w.toNatClampNeg else 0) else 0)) : JI (goesF g e w) := by
  obtain ⟨j1, _, j3, j4⟩ := hJ
  have hE := hI.ent e he
  have hw9 : rng w 999 := hw.mono hE.2.1.2
  have hs : ∀ q v, q = 1 ∨ q = 4 → sq (goesF g e w) q v + (if en f e q = v then w.toNatClampNeg else 0) = sq f q v := fun q v hq => sq_goes hq hI.opn h117 (fun x hx => hen x q hx (by omega)) (fun x hx => hen x 2 hx (by decide)) he hE.2.1 hw
  have hlo : ∀ {j}, j < 117 → goesF g e w j = g j := fun hj => goes_lo g e w hj
  have hrG : ∀ v, rq (goesF g e w) v = rq g v := fun v => rq_c (mr_c (hlo (by decide))) (fun r hr => hlo (by omega)) (fun r hr => hlo (by omega))
  refine ⟨j1.goes hI.opn h117 h1 (fun x hx => hen x 0 hx (by decide)) he, hM.same (hlo (by decide)) (hlo (by decide)) (fun k _ hk => hlo (by omega)), j3.le (fun c hc => ?_), fun k hk => ?_⟩
  · have := hs 4 (nI c) (Or.inr rfl)
    omega
  · have h4 := hs 1 (nI k) (Or.inl rfl)
    have h5 := hr k hk
    have h9 := hw9.2
    have e1 : goesF g e w 1 = f 1 := (hlo (by decide)).trans h1
    by_cases z : k = knd f e
    · rw [if_pos ((kn_eq hE hk).mpr z)] at h4
      rw [if_pos z] at h5
      refine (j4 k hk).upd (d := fun q => if q = q0 then w.toNatClampNeg else 0) hI.m60 (fun q _ => ?_) (fun q hq => ?_) ?_ ?_ ?_
      · split <;> omega
      · rw [hlo (by omega), ht _ (by omega) (by omega)]
        exact tot_in f (j4 k hk) hI.m60 hw9 hq (by omega) z
      · try dsimp only
        rw [e1]
        rcases hq0 with rfl | rfl <;> simp
      · try dsimp only
        rcases hq0 with rfl | rfl <;> simp <;> omega
      · try dsimp only
        rw [hrG]
        rcases hq0 with rfl | rfl <;> simp at h5 ⊢ <;> omega
    · rw [if_neg (fun y => z ((kn_eq hE hk).mp y))] at h4
      rw [if_neg z] at h5
      refine (j4 k hk).keep hk (by rw [e1]; exact Nat.le_refl _) (fun q hq => ?_) (by omega) (by rw [hrG]; omega)
      rw [hlo (by omega), ht _ (by omega) (by omega)]
      exact tot_out f hq (by omega) z
theorem z4 {x : Int32} {b : Nat} (h : rng x b) (hb : b < 2147483648) (h0 : x ≤ 0) : x = 0 := by
  have h1 := h.1
  have h2 := h.2
  rw [h1] at h0 ⊢
  have := (nI_leI (a := x.toNatClampNeg) (b := 0) (by omega) (by decide)).mp h0
  rw [show x.toNatClampNeg = 0 by omega]
  rfl
/-- the receipts behind a new one -/
theorem sg_shift {A B : Nat → Nat} : ∀ n, (∀ r, r < n → A (r + 1) = B r) → sg A (n + 1) = A 0 + sg B n := by
  intro n
  induction n with
  | zero => intro _; show 0 + A 0 = A 0 + 0; omega
  | succ n ih =>
    intro h
    rw [sg_s A, ih (fun r hr => h r (by omega)), h n (by omega), sg_s B]
    omega
theorem files_0 (f : Nat → Int32) (kd w d : Int32) : rc (filesF f kd w d) 0 0 = kd ∧ rc (filesF f kd w d) 0 1 = w ∧ rc (filesF f kd w d) 0 2 = d ∧ rc (filesF f kd w d) 0 3 = f 0 := ⟨rfl, rfl, rfl, rfl⟩
theorem files_s (f : Nat → Int32) (kd w d : Int32) {r q : Nat} (hr : r + 1 < mr1 f) (hq : q < 4) : rc (filesF f kd w d) (r + 1) q = rc f r q := by
  unfold rc filesF
  rw [if_neg (by omega), if_neg (by omega), if_neg (by omega), if_neg (by omega), if_neg (by omega), if_pos (by omega)]
  exact congrArg f (by omega)
theorem rq_files (f : Nat → Int32) (h12 : mr f ≤ 12) (kd w d v : Int32) : rq (filesF f kd w d) v ≤ rq f v + (if kd = v then w.toNatClampNeg else 0) := by
  unfold rq
  rw [files_mr f h12]
  have h0 : rq1 (filesF f kd w d) v 0 = if kd = v then w.toNatClampNeg else 0 := rfl
  have hs : ∀ r, r + 1 < mr1 f → rq1 (filesF f kd w d) v (r + 1) = rq1 f v r := fun r hr => by
    unfold rq1
    rw [files_s f kd w d hr (by decide), files_s f kd w d hr (by decide)]
  by_cases z : mr f < 12
  · have e : mr1 f = mr f + 1 := if_pos z
    rw [e] at hs ⊢
    rw [sg_shift (B := rq1 f v) (mr f) (fun r hr => hs r (by omega)), h0]
    omega
  · have e : mr1 f = 11 + 1 := by unfold mr1; rw [if_neg z]; omega
    have e2 : mr f = 11 + 1 := by omega
    rw [e] at hs
    have e3 := sg_s (rq1 f v) 11
    rw [e, e2, sg_shift (B := rq1 f v) 11 (fun r hr => hs r (by omega)), h0, e3]
    omega
theorem JI.withdraw (hI : Inv a s f) (hJ : JI f) {e : Nat} {w : Int32} (he : e < mo f) (hw : rng w (en f e 2).toNatClampNeg) (h4 : f 4 ≤ 0) : JI (withdrawF f e w) := by
  have hE := hI.ent e he
  have hk := hE.k.2
  have h12 := hI.mr12
  have h40 : f 4 = 0 := z4 hI.debt (by decide) h4
  have ht : ∀ j, ¬ j = 3 → ¬ j = 7 → up (up f 3 (f 3 - dutyPF f e w)) 7 (f 7 + dutyPF f e w) j = f j := fun j h1 h2 => by rw [up_ne _ _ h2, up_ne _ _ h1]
  have ht3 : up (up f 3 (f 3 - dutyPF f e w)) 7 (f 7 + dutyPF f e w) 3 = f 3 - dutyPF f e w := by rw [up_ne _ _ (by decide), up_eq]
  have ht7 : up (up f 3 (f 3 - dutyPF f e w)) 7 (f 7 + dutyPF f e w) 7 = f 7 + dutyPF f e w := up_eq _ _ _
  have hhi := fun {k : Nat} (h : 117 ≤ k) => wd_hi f h12 (e := e) (w := w) hk h
  unfold withdrawF
  unfold wdF at *
  generalize up (up f 3 (f 3 - dutyPF f e w)) 7 (f 7 + dutyPF f e w) = t at *
  have hmt : mr t = mr f := mr_c (ht _ (by decide) (by decide))
  have hf : ∀ j, j < 68 → filesF t (en f e 1) w (dutyPF f e w) j = t j := fun j hj => files_hi t (by omega) (Or.inr hj)
  have hlo : ∀ j, j < 32 → totF (filesF t (en f e 1) w (dutyPF f e w)) (knd f e) 1 w j = t j := fun j hj => (tot_ne _ _ _ _ (by omega)).trans (hf j (by omega))
  have hrt : ∀ v, rq t v = rq f v := fun v => rq_c hmt (fun r hr => ht _ (by omega) (by omega)) (fun r hr => ht _ (by omega) (by omega))
  have hmr : mr (totF (filesF t (en f e 1) w (dutyPF f e w)) (knd f e) 1 w) = mr1 t := (mr_c (tot_ne _ _ _ _ (by omega))).trans (files_mr t (by omega) _ _ _)
  refine JI.leave hI hJ he hw (q0 := 1) (Or.inl rfl) (fun j h1 h2 => ?_) ((hlo 1 (by decide)).trans (ht _ (by decide) (by decide))) (hhi (by decide)) (fun x q hx hq => hhi (by omega)) ?_ (by rw [hmr]; unfold mr1; split <;> omega) (fun k hk6 => ?_)
  · by_cases z : j = 32 + 6 * knd f e + 1
    · rw [z, tot_at, tot_at, hf _ (by omega), ht _ (by omega) (by omega)]
    · rw [tot_ne _ _ _ _ z, tot_ne _ _ _ _ z, hf _ h2, ht _ (by omega) (by omega)]
  · have hm := hJ.2.1
    unfold JM at hm ⊢
    rw [hlo 3 (by decide), hlo 4 (by decide), hlo 6 (by decide), hlo 7 (by decide), hlo 8 (by decide), hlo 9 (by decide), ht3, ht7, ht 4 (by decide) (by decide), ht 6 (by decide) (by decide), ht 8 (by decide) (by decide), ht 9 (by decide) (by decide)]
    refine ⟨?_, Or.inr h40⟩
    have := hm.1
    grind
  · have h1 : rq (totF (filesF t (en f e 1) w (dutyPF f e w)) (knd f e) 1 w) (nI k) = rq (filesF t (en f e 1) w (dutyPF f e w)) (nI k) := rq_c (mr_c (tot_ne _ _ _ _ (by omega))) (fun r _ => tot_ne _ _ _ _ (by omega)) (fun r _ => tot_ne _ _ _ _ (by omega))
    have h2 := rq_files t (by omega) (en f e 1) w (dutyPF f e w) (nI k)
    rw [hrt] at h2
    rw [h1, if_pos rfl]
    by_cases z : k = knd f e
    · rw [if_pos z]
      rw [if_pos ((kn_eq hE hk6).mpr z)] at h2
      exact h2
    · rw [if_neg z]
      rw [if_neg (fun y => z ((kn_eq hE hk6).mp y))] at h2
      exact h2
theorem JI.send (hI : Inv a s f) (hJ : JI f) {e : Nat} {w : Int32} (he : e < mo f) (hw : rng w (en f e 2).toNatClampNeg) : JI (sendF f e w) := by
  have hE := hI.ent e he
  have hk := hE.k.2
  unfold sendF
  have ht : ∀ j, j < 32 ∨ 67 < j → totF f (knd f e) 2 w j = f j := fun j hj => tot_o f w hk (by decide) hj
  refine JI.leave hI hJ he hw (q0 := 2) (Or.inr rfl) (fun j _ _ => rfl) (ht _ (by decide)) (ht _ (by decide)) (fun x q _ _ => ht _ (by omega)) (hJ.2.1.same (ht _ (by decide)) (ht _ (by decide)) (fun k _ h => ht _ (by omega))) (by rw [mr_c (ht _ (by decide))]; exact hI.mr12) (fun k _ => ?_)
  rw [rq_c (f := f) (mr_c (ht _ (by decide))) (fun r _ => ht _ (by omega)) (fun r _ => ht _ (by omega))]
  omega
/-- nothing that matters changes -/
theorem JI.same (hJ : JI f) (h3 : g 3 = f 3) (h4 : g 4 = f 4) (h6 : ∀ k, 6 ≤ k → k < 10 → g k = f k) (ht : ∀ j, 32 ≤ j → j < 117 → g j = f j) (h1 : g 1 = f 1) (h117 : g 117 = f 117) (h12 : mr f ≤ 12) (hen : ∀ e q, e < mo f → (q = 0 ∨ q = 1 ∨ q = 2 ∨ q = 4) → en g e q = en f e q) : JI g :=
  ⟨hJ.1.same h117 h1 (fun e he => hen e 0 he (by decide)), hJ.2.1.same h3 h4 h6, hJ.2.2.1.same h117 (fun e he => hen e 4 he (by decide)) (fun e he => hen e 2 he (by decide)), hJ.2.2.2.same (fun j h1 h2 => ht j h1 (by omega)) h1 h117 (ht 68 (by decide) (by decide)) (fun e he => hen e 1 he (by decide)) (fun e he => hen e 2 he (by decide)) (fun r hr => ht _ (by omega) (by omega)) (fun r hr => ht _ (by omega) (by omega))⟩
theorem JI.draw (hI : Inv a s f) (hJ : JI f) {r : Nat} {w : Int32} (hr : r < mr f) (hw : rng w (rc f r 1).toNatClampNeg) (h4 : f 4 ≤ 0) : JI (drawF f r w) := by
  have hRI := hI.rec r hr
  have hr12 : r < 12 := Nat.lt_of_lt_of_le hr hI.mr12
  have h12 := hI.mr12
  have hk : (rc f r 0).toNatClampNeg < 6 := by have := hRI.1.2; omega
  have h40 : f 4 = 0 := z4 hI.debt (by decide) h4
  have hw9 : rng w 999 := hw.mono hRI.2.1.2
  unfold drawF
  generalize backF f r w = b at *
  generalize partF f r w = p at *
  have ht : ∀ j, ¬ j = 3 → ¬ j = 9 → up (up f 3 (f 3 + b)) 9 (f 9 + b) j = f j := fun j h1 h2 => by rw [up_ne _ _ h2, up_ne _ _ h1]
  have ht3 : up (up f 3 (f 3 + b)) 9 (f 9 + b) 3 = f 3 + b := by rw [up_ne _ _ (by decide), up_eq]
  have ht9 : up (up f 3 (f 3 + b)) 9 (f 9 + b) 9 = f 9 + b := up_eq _ _ _
  generalize up (up f 3 (f 3 + b)) 9 (f 9 + b) = t at *
  generalize hkd : (rc f r 0).toNatClampNeg = kd at *
  have hG : ∀ j, ¬ j = 69 + 4 * r + 1 → ¬ j = 69 + 4 * r + 2 → up (up (totF t kd 5 w) (69 + 4 * r + 1) (rc f r 1 - w)) (69 + 4 * r + 2) (rc f r 2 - p) j = totF t kd 5 w j := fun j h1 h2 => by rw [up_ne _ _ h2, up_ne _ _ h1]
  have hG1 : up (up (totF t kd 5 w) (69 + 4 * r + 1) (rc f r 1 - w)) (69 + 4 * r + 2) (rc f r 2 - p) (69 + 4 * r + 1) = rc f r 1 - w := by rw [up_ne _ _ (by omega), up_eq]
  generalize up (up (totF t kd 5 w) (69 + 4 * r + 1) (rc f r 1 - w)) (69 + 4 * r + 2) (rc f r 2 - p) = G at *
  have hlo : ∀ j, j < 32 → G j = t j := fun j hj => (hG j (by omega) (by omega)).trans (tot_ne _ _ _ _ (by omega))
  have hhi : ∀ j, 68 ≤ j → ¬ j = 69 + 4 * r + 1 → ¬ j = 69 + 4 * r + 2 → G j = f j := fun j hj h1 h2 => (hG j h1 h2).trans ((tot_ne _ _ _ _ (by omega)).trans (ht j (by omega) (by omega)))
  have hmo : mo G = mo f := mo_c (hhi _ (by decide) (by omega) (by omega))
  have hen : ∀ x q, en G x q = en f x q := fun x q => hhi _ (by omega) (by omega) (by omega)
  have hmr : mr G = mr f := mr_c (hhi _ (by decide) (by omega) (by omega))
  have hs2 := sub_r hRI.2.1 (by decide) hw
  have hw2 := hw.2
  have hrq : ∀ v, rq G v + (if rc f r 0 = v then w.toNatClampNeg else 0) = rq f v := fun v => by
    unfold rq
    rw [hmr]
    have h1 := sg_upd (g := rq1 f v) (g' := rq1 G v) (q := r) (mr f) hr (fun x hx hn => by
      unfold rq1
      rw [show rc G x 0 = rc f x 0 from hhi _ (by omega) (by omega) (by omega), show rc G x 1 = rc f x 1 from hhi _ (by omega) (by omega) (by omega)])
    have h2 : rq1 G v r + (if rc f r 0 = v then w.toNatClampNeg else 0) = rq1 f v r := by
      unfold rq1
      rw [show rc G r 0 = rc f r 0 from hhi _ (by omega) (by omega) (by omega), show rc G r 1 = rc f r 1 - w from hG1, hs2.2]
      by_cases z : rc f r 0 = v
      · rw [if_pos z, if_pos z, if_pos z]; omega
      · rw [if_neg z, if_neg z, if_neg z]
    omega
  refine ⟨hJ.1.same (hhi _ (by decide) (by omega) (by omega)) ((hlo 1 (by decide)).trans (ht _ (by decide) (by decide))) (fun x _ => hen x 0), ?_, hJ.2.2.1.same (hhi _ (by decide) (by omega) (by omega)) (fun x _ => hen x 4) (fun x _ => hen x 2), fun k hk6 => ?_⟩
  · have hm := hJ.2.1
    unfold JM at hm ⊢
    rw [hlo 3 (by decide), hlo 4 (by decide), hlo 6 (by decide), hlo 7 (by decide), hlo 8 (by decide), hlo 9 (by decide), ht3, ht9, ht 4 (by decide) (by decide), ht 6 (by decide) (by decide), ht 7 (by decide) (by decide), ht 8 (by decide) (by decide)]
    refine ⟨?_, Or.inr h40⟩
    have := hm.1
    grind
  · have e1 : G 1 = f 1 := (hlo 1 (by decide)).trans (ht _ (by decide) (by decide))
    have hsq : sq G 1 (nI k) = sq f 1 (nI k) := sq_c hmo (fun x _ => hen x 1) (fun x _ => hen x 2)
    have h5 := hrq (nI k)
    have h9 := hw9.2
    have hkk : (rc f r 0 = nI k) ↔ k = kd := by
      have h1 := hRI.1.1
      rw [hkd] at h1
      rw [h1]
      constructor
      · intro h; exact ((nI_inj (by omega) (by omega)).mp h).symm
      · intro h; rw [h]
    have htT : ∀ q, q < 6 → G (32 + 6 * k + q) = totF t kd 5 w (32 + 6 * k + q) := fun q hq => hG _ (by omega) (by omega)
    have htt : ∀ q, q < 6 → totF t kd 5 w (32 + 6 * k + q) = totF f kd 5 w (32 + 6 * k + q) := fun q hq => by
      by_cases z : 32 + 6 * k + q = 32 + 6 * kd + 5
      · rw [z, tot_at, tot_at, ht _ (by omega) (by omega)]
      · rw [tot_ne _ _ _ _ z, tot_ne _ _ _ _ z, ht _ (by omega) (by omega)]
    by_cases z : k = kd
    · rw [if_pos (hkk.mpr z)] at h5
      refine (hJ.2.2.2 k hk6).upd (d := fun q => if q = 5 then w.toNatClampNeg else 0) hI.m60 (fun q _ => ?_) (fun q hq => ?_) ?_ ?_ ?_
      · split <;> omega
      · rw [htT q hq, htt q hq]
        exact tot_in f (hJ.2.2.2 k hk6) hI.m60 hw9 hq (by decide) z
      · try dsimp only
        rw [e1]
        simp
      · try dsimp only
        rw [hsq]
        simp
      · try dsimp only
        simp
        omega
    · rw [if_neg (fun y => z (hkk.mp y))] at h5
      refine (hJ.2.2.2 k hk6).keep hk6 (by rw [e1]; exact Nat.le_refl _) (fun q hq => ?_) hsq (by omega)
      rw [htT q hq, htt q hq]
      exact tot_out f hq (by decide) z
/-- room, by the sum -/
theorem room_sq (hI : Inv a s f) (c : Int32) : roomF f c = nI 2000 - nI (sq f 4 c) ∧ sq f 4 c ≤ 15984 := by
  have h := room_n (f := f) c (mo f) (fun e he => (hI.ent e he).2.1)
  have h16 := hI.mo16
  have e : ∀ n, cw f c n = sg (eq1 f 4 c) n := by
    intro n
    induction n with
    | zero => rfl
    | succ n ih =>
      show cw f c n + _ = sg (eq1 f 4 c) n + _
      rw [ih]
      rfl
  rw [e] at h
  exact ⟨h.1, by unfold sq; omega⟩
theorem room_le (hI : Inv a s f) {c w : Int32} {b : Nat} (hw : rng w b) (hb : b ≤ 999) (hc : sq f 4 c ≤ 2000) (h : w ≤ roomF f c) : w.toNatClampNeg + sq f 4 c ≤ 2000 := by
  have h1 := room_sq hI c
  have h2 := hw.2
  rw [h1.1, pk_sub (by omega), hw.1] at h
  have := (nI_leI (by omega) (by omega)).mp h
  omega
theorem JI.move (hI : Inv a s f) (hJ : JI f) {e c : Nat} (he : e < mo f) (hc : c < 5) (h : whyM f e (nI c) = 0) : JI (moveF f e (nI c)) := by
  have hE := hI.ent e he
  have h0 := whyM0 h
  have hlo : ∀ j, j < 118 → moveF f e (nI c) j = f j := fun j hj => up_ne _ _ (by omega)
  have ho : ∀ x q, q < 8 → ¬ q = 4 → en (moveF f e (nI c)) x q = en f x q := fun x q hq h4 => en_up _ _ (by omega)
  have h4o : ∀ x, ¬ x = e → en (moveF f e (nI c)) x 4 = en f x 4 := fun x hx => en_up _ _ (by omega)
  have h4e : en (moveF f e (nI c)) e 4 = nI c := en_up_e _ _ _ _
  have hmo : mo (moveF f e (nI c)) = mo f := mo_c (hlo _ (by decide))
  have h12 := hI.mr12
  refine ⟨hJ.1.same (hlo _ (by decide)) (hlo _ (by decide)) (fun x _ => ho x 0 (by decide) (by decide)), hJ.2.1.same (hlo _ (by decide)) (hlo _ (by decide)) (fun k _ hk => hlo _ (by omega)), fun c' hc' => ?_, hJ.2.2.2.same (fun j _ hj => hlo _ (by omega)) (hlo _ (by decide)) (hlo _ (by decide)) (hlo _ (by decide)) (fun x _ => ho x 1 (by decide) (by decide)) (fun x _ => ho x 2 (by decide) (by decide)) (fun r hr => hlo _ (by omega)) (fun r hr => hlo _ (by omega))⟩
  have hu : sg (eq1 (moveF f e (nI c)) 4 (nI c')) (mo f) + eq1 f 4 (nI c') e = sg (eq1 f 4 (nI c')) (mo f) + eq1 (moveF f e (nI c)) 4 (nI c') e := sg_upd _ he (fun x _ hn => eq1_c (h4o x hn) (ho x 2 (by decide) (by decide)))
  have hw : wN (moveF f e (nI c)) e = wN f e := by unfold wN; rw [ho e 2 (by decide) (by decide)]
  have h5 := hJ.2.2.1 c' hc'
  unfold sq at h5 ⊢
  rw [hmo]
  by_cases z : c' = c
  · subst z
    have h6 := room_le hI hE.2.1 (by decide) (hJ.2.2.1 c' hc') h0.2
    have e1 : eq1 (moveF f e (nI c')) 4 (nI c') e = wN f e := by unfold eq1; rw [if_pos h4e, hw]
    have e2 : eq1 f 4 (nI c') e = 0 := by unfold eq1; rw [if_neg h0.1]
    have e3 : wN f e = (en f e 2).toNatClampNeg := rfl
    unfold sq at h6
    omega
  · have e1 : eq1 (moveF f e (nI c)) 4 (nI c') e = 0 := by
      unfold eq1
      rw [if_neg]
      rw [h4e]
      exact fun y => z ((nI_inj (by omega) (by omega)).mp y).symm
    omega
end JKEEP
