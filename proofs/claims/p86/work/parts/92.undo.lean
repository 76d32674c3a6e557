section LUNDO
variable {a s : Nat} {f g0 : Fn} {u : PS} {o q : Bool} {g : Gh} {p2 y3 : Int32} {Q9 : Int32 → Gh → Prop}
theorem thrown0 {n : Nat} (hn : n < 2147483648) (h : Q9 0 g) : w_L_thrown (nI n) g Q9 := by
  have hne : ∀ z : Int32, z < 0 → ¬ nI n = z := fun z hz e => by
    have h0 : (0 : Int32) ≤ nI n := nI_le (a := 0) (by omega) hn
    rw [e] at h0
    exact absurd hz (Int32.not_lt.mpr h0)
  unfold w_L_thrown
  exact ⟨fun e => absurd e (hne _ (by decide)), fun _ => ⟨fun e => absurd e (hne _ (by decide)), fun _ => ⟨fun _ => h, fun e => absurd e (hne _ (by decide))⟩⟩⟩
theorem U1 {K : Int32 → Int32 → Gh → Prop} (hk : g.2 + 2 ≤ 2400) (ho : g.1 o = u) (hq : g.1 q = u) (hoq : ¬ q = o) (hu : 0 < u.2.1) (h6 : u.2.1 ≤ 6) (hn : ¬ p2 ≤ y3) (hK : ∀ g', GI g' → g'.1 o = unP u → g'.1 q = unP u → g'.2 = g.2 + 2 → K 1 (y3 + 1) g') : w_L_undoes_B5 o q p2 Q9 K 1 y3 g := by
  have ht : tUndo u = 0 := by unfold tUndo; rw [if_neg (by omega)]
  have hz : z_tryUndo u = (nI (u.2.1 - 1), unP u, 1) := by unfold z_tryUndo; rw [if_pos ht]
  unfold w_L_undoes_B5
  refine ⟨fun h => absurd h hn, fun _ => ⟨fun h => absurd h z10, fun _ => ⟨by omega, fun r hr g1 hg1 hi1 => ?_⟩⟩⟩
  rw [ho, hz] at hr hg1
  subst hr
  refine thrown0 (by omega) ⟨fun h => absurd rfl h, fun _ => ⟨?_, fun r2 hr2 g2 hg2 hi2 => ?_⟩⟩
  · rw [hg1]
    show g.2 + 1 + 1 ≤ 2400
    omega
  · have e1 : g1.1 q = u := by rw [hg1, gz_1n _ hoq]; exact hq
    rw [e1, hz] at hr2 hg2
    subst hr2
    refine thrown0 (by omega) ⟨fun h => absurd rfl h, fun _ x hx => ?_⟩
    subst hx
    refine hK g2 hi2 ?_ ?_ ?_
    · rw [hg2, gz_1n _ (fun e => hoq e.symm), hg1]
      exact gz_1 _ _ _
    · rw [hg2]
      exact gz_1 _ _ _
    · rw [hg2, hg1]
      rfl
theorem L_undo1 (hk : g.2 + 2 ≤ 2400) (ho : g.1 o = u) (hq : g.1 q = u) (hoq : ¬ q = o) (hu : 0 < u.2.1) (h6 : u.2.1 ≤ 6) (h : ∀ g', GI g' → g'.1 o = unP u → g'.1 q = unP u → g'.2 = g.2 + 2 → Q9 1 g') : w_L_undoes o q 1 g Q9 := by
  unfold w_L_undoes
  show w_L_undoes_B5 o q 1 Q9 _ 1 0 g
  refine U1 hk ho hq hoq hu h6 (by decide) (fun g' a b c d => ?_)
  show w_L_undoes_B5 o q 1 Q9 _ 1 (0 + 1) g'
  exact ⟨fun _ => ⟨isB1, h g' a b c d⟩, fun z => absurd (by decide) z⟩
theorem L_undo2 (hk : g.2 + 4 ≤ 2400) (ho : g.1 o = u) (hq : g.1 q = u) (hoq : ¬ q = o) (hu : 2 ≤ u.2.1) (h6 : u.2.1 ≤ 6) (h : ∀ g', GI g' → g'.1 o = unP (unP u) → g'.1 q = unP (unP u) → g'.2 = g.2 + 4 → Q9 1 g') : w_L_undoes o q 2 g Q9 := by
  unfold w_L_undoes
  show w_L_undoes_B5 o q 2 Q9 _ 1 0 g
  refine U1 (by omega) ho hq hoq (by omega) h6 (by decide) (fun g' a b c d => ?_)
  show w_L_undoes_B5 o q 2 Q9 _ 1 (0 + 1) g'
  have hu1 : (unP u).2.1 = u.2.1 - 1 := rfl
  refine U1 (by omega) b c hoq (by omega) (by omega) (by decide) (fun g2 a2 b2 c2 d2 => ?_)
  show w_L_undoes_B5 o q 2 Q9 (fun _ _ _ => False) 1 (0 + 1 + 1) g2
  exact ⟨fun _ => ⟨isB1, h g2 a2 b2 c2 (by omega)⟩, fun z => absurd (by decide) z⟩
theorem un_1 (u : PS) (x : Fn) : (unP (svP u x)).1 = u.1 := svP_last u x
theorem un_2 (u : PS) (x y : Fn) : (unP (unP (svP (svP u x) y))).1 = u.1 ∧ 2 ≤ (svP (svP u x) y).2.1 := by
  have h1 := svP_pos u x
  have h2 := svP_last u x
  show (svP (svP u x) y).2.2.1 ((svP (svP u x) y).2.1 - 1 - 1) = u.1 ∧ _
  generalize svP u x = v at *
  unfold svP
  by_cases z : v.2.1 = 6
  · rw [if_pos z]
    refine ⟨?_, (show 2 ≤ 6 by decide)⟩
    show (if 6 - 1 - 1 = 5 then v.1 else v.2.2.1 (6 - 1 - 1 + 1)) = u.1
    rw [if_neg (by decide), ← h2, z]
  · rw [if_neg z]
    refine ⟨?_, Nat.succ_le_succ h1⟩
    show (if v.2.1 + 1 - 1 - 1 = v.2.1 then v.1 else v.2.2.1 (v.2.1 + 1 - 1 - 1)) = u.1
    rw [if_neg (by omega), ← h2]
    exact congrArg v.2.2.1 (by omega)
theorem GI.six (h : GI g) (b : Bool) : (g.1 b).2.1 ≤ 6 := by
  obtain ⟨mc, mm, h1, h2⟩ := h b
  exact h2.2.2.1
/-- what is left of an entry keeps its number; what has gone is nowhere -/
theorem goes_open (h : JN f) (ho : rng (f 117) 16) (h117 : g0 117 = f 117) (hen : ∀ e, e < mo f → en g0 e 0 = en f e 0) {e : Nat} {w : Int32} (he : e < mo f) : (fiE (goesF g0 e w) (en f e 0) < mo (goesF g0 e w)) ↔ ¬ en g0 e 2 - w = 0 := by
  have hpm : mo (partG g0 e w) = mo f := (mo_c (part_lo g0 e w (by decide))).trans (mo_c h117)
  unfold goesF
  by_cases z : en g0 e 2 - w = 0
  · rw [if_pos z]
    refine ⟨fun hF => ?_, fun q => absurd z q⟩
    have ho' : rng (partG g0 e w 117) 16 := by rw [part_lo _ _ _ (by decide), h117]; exact ho
    have hcm : mo (closeF (partG g0 e w) e) = mo f - 1 := by rw [close_mo ho' (by rw [hpm]; exact he), hpm]
    have h1 := fiE_num hF
    rw [hcm] at hF
    rw [close_en _ _ (by rw [hpm]; exact hF) (by decide), part_0] at h1
    exfalso
    by_cases y : fiE (closeF (partG g0 e w) e) (en f e 0) < e
    · rw [if_pos y, hen _ (by omega)] at h1
      have h2 := h.2 _ e y he
      unfold nN at h2
      rw [h1] at h2
      omega
    · rw [if_neg y, hen _ (by omega)] at h1
      have h2 := h.2 e (fiE (closeF (partG g0 e w) e) (en f e 0) + 1) (by omega) (by omega)
      unfold nN at h2
      rw [h1] at h2
      omega
  · rw [if_neg z]
    refine ⟨fun _ => z, fun _ => ?_⟩
    rw [hpm]
    have : fiE (partG g0 e w) (en f e 0) ≤ e := fnd_to _ _ _ _ (Nat.zero_le _) (by rw [hpm]; omega) (by
      show decide (en (partG g0 e w) e 0 = en f e 0) = true
      rw [part_0, hen e he]
      exact decide_eq_true rfl)
    omega
/-- what a withdrawal leaves -/
theorem wd_facts (hI : Inv a s f) {e w : Nat} (he : e < mo f) (h1 : 1 ≤ w) (h2 : w ≤ wN f e) : withdrawF f e (nI w) 3 = f 3 - dutyPF f e (nI w) ∧ withdrawF f e (nI w) 4 = f 4 ∧ withdrawF f e (nI w) 0 = f 0 ∧ withdrawF f e (nI w) 68 = nI (mr1 f) ∧ rc (withdrawF f e (nI w)) 0 0 = en f e 1 ∧ rc (withdrawF f e (nI w)) 0 1 = nI w ∧ rc (withdrawF f e (nI w)) 0 2 = dutyPF f e (nI w) ∧ rc (withdrawF f e (nI w)) 0 3 = f 0 ∧ sq (withdrawF f e (nI w)) 1 (en f e 1) + w = sq f 1 (en f e 1) := by
  have hE := hI.ent e he
  have hk := hE.k.2
  have h12 := hI.mr12
  have hW : wN f e ≤ 999 := hE.2.1.2
  have hhi := fun {k : Nat} (h : 117 ≤ k) => wd_hi f h12 (e := e) (w := nI w) hk h
  have hw : rng (nI w) (en f e 2).toNatClampNeg := rng_of h2 (by unfold wN at hW; omega)
  have hs := sq_goes (g := wdF f e (nI w)) (q := 1) (v := en f e 1) (Or.inl rfl) hI.opn (hhi (by decide)) (fun x _ => hhi (by omega)) (fun x _ => hhi (by omega)) he hE.2.1 hw
  rw [if_pos rfl, rs_tn (by omega)] at hs
  have hgl : ∀ {j}, j < 117 → withdrawF f e (nI w) j = wdF f e (nI w) j := fun hj => goes_lo _ e _ hj
  have hmt : mr (up (up f 3 (f 3 - dutyPF f e (nI w))) 7 (f 7 + dutyPF f e (nI w))) = mr f := mr_c (by rw [up_ne _ _ (by decide), up_ne _ _ (by decide)])
  have hlo : ∀ j, j < 32 → wdF f e (nI w) j = up (up f 3 (f 3 - dutyPF f e (nI w))) 7 (f 7 + dutyPF f e (nI w)) j := fun j hj => (tot_ne _ _ _ _ (by omega)).trans (files_hi _ (by omega) (Or.inr (by omega)))
  have hhf : ∀ j, 68 ≤ j → j < 117 → withdrawF f e (nI w) j = filesF (up (up f 3 (f 3 - dutyPF f e (nI w))) 7 (f 7 + dutyPF f e (nI w))) (en f e 1) (nI w) (dutyPF f e (nI w)) j := fun j h3 h4 => (hgl h4).trans (tot_ne _ _ _ _ (by omega))
  have hf0 := files_0 (up (up f 3 (f 3 - dutyPF f e (nI w))) 7 (f 7 + dutyPF f e (nI w))) (en f e 1) (nI w) (dutyPF f e (nI w))
  refine ⟨?_, ?_, ?_, ?_, ?_, ?_, ?_, ?_, hs⟩
  · rw [hgl (by decide), hlo 3 (by decide), up_ne _ _ (by decide), up_eq]
  · rw [hgl (by decide), hlo 4 (by decide), up_ne _ _ (by decide), up_ne _ _ (by decide)]
  · rw [hgl (by decide), hlo 0 (by decide), up_ne _ _ (by decide), up_ne _ _ (by decide)]
  · rw [hhf 68 (by decide) (by decide)]
    unfold filesF
    rw [if_pos rfl]
    unfold mr1
    rw [hmt]
  · exact (hhf 69 (by decide) (by decide)).trans hf0.1
  · exact (hhf 70 (by decide) (by decide)).trans hf0.2.1
  · exact (hhf 71 (by decide) (by decide)).trans hf0.2.2.1
  · refine (hhf 72 (by decide) (by decide)).trans (hf0.2.2.2.trans ?_)
    rw [up_ne _ _ (by decide), up_ne _ _ (by decide)]
theorem wd_open (hI : Inv a s f) (hJ : JN f) {e w : Nat} (he : e < mo f) (h2 : w ≤ wN f e) : (fiE (withdrawF f e (nI w)) (en f e 0) < mo (withdrawF f e (nI w))) ↔ w < wN f e := by
  have hE := hI.ent e he
  have h12 := hI.mr12
  have hW : wN f e ≤ 999 := hE.2.1.2
  have hhi := fun {k : Nat} (h : 117 ≤ k) => wd_hi f h12 (e := e) (w := nI w) hE.k.2 h
  have e2 : en (wdF f e (nI w)) e 2 = en f e 2 := hhi (by omega)
  unfold withdrawF
  rw [goes_open (g0 := wdF f e (nI w)) hJ hI.opn (hhi (by decide)) (fun x _ => hhi (by omega)) he, e2, hE.ent.2.2.1, pk_sub h2]
  constructor
  · intro h
    by_cases z : w < wN f e
    · exact z
    · exact absurd (by rw [show wN f e - w = 0 by omega]; rfl) h
  · intro h z
    have := (nI_eq (b := 0) (by omega) (by decide)).mp z
    omega
/-- the whole of the last receipt is drawn -/
theorem dw_facts {d w : Nat} (h1 : 1 ≤ w) (h2 : w ≤ 999) (hd : d ≤ 440000) (r1 : rc f 0 1 = nI w) (r2 : rc f 0 2 = nI d) : backF f 0 (nI w) = nI d * 9 / 10 ∧ drawF f 0 (nI w) 3 = f 3 + nI d * 9 / 10 ∧ drawF f 0 (nI w) 68 = f 68 ∧ rc (drawF f 0 (nI w)) 0 1 = 0 ∧ rc (drawF f 0 (nI w)) 0 2 = 0 := by
  have hdw : d * w ≤ 440000 * 999 := Nat.mul_le_mul hd h2
  have hp : partF f 0 (nI w) = nI d := by
    unfold partF
    rw [r1, r2, pk_mul, pk_div (by omega) (by omega) (by omega), Nat.mul_div_cancel d h1]
  have hb : backF f 0 (nI w) = nI d * 9 / 10 := by
    unfold backF
    rw [hp]
  refine ⟨hb, ?_, ?_, ?_, ?_⟩
  · unfold drawF totF
    rw [up_ne _ _ (by omega), up_ne _ _ (by omega), up_ne _ _ (by omega), up_ne _ _ (by omega), up_eq, hb]
  · have hk : ∀ k : Nat, ¬ 68 = 32 + 6 * k + 5 := fun k => by omega
    unfold drawF totF
    rw [up_ne _ _ (by omega), up_ne _ _ (by omega), up_ne _ _ (hk _), up_ne _ _ (by omega), up_ne _ _ (by omega)]
  · show drawF f 0 (nI w) (69 + 4 * 0 + 1) = 0
    unfold drawF
    rw [up_ne _ _ (by omega), up_eq, r1, pk_sub (Nat.le_refl _), Nat.sub_self]
    rfl
  · show drawF f 0 (nI w) (69 + 4 * 0 + 2) = 0
    unfold drawF
    rw [up_eq, r2, hp, pk_sub (Nat.le_refl _), Nat.sub_self]
    rfl
end LUNDO
