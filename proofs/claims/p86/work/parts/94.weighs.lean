section LWEIGH
variable {a s : Nat} {f g0 : Fn} {u : PS} {o q : Bool} {g : Gh} {p2 y3 : Int32} {Q9 : Int32 → Gh → Prop}
/-- what a weighing leaves -/
theorem wg_lo (f : Fn) (e : Nat) (w : Int32) {j : Nat} (hj : j < 32) : weighF f e w j = up (up (up f 3 (f 3 - wgP f (chargeF f e (lossF f e w)))) 4 (f 4 + (chargeF f e (lossF f e w) - wgP f (chargeF f e (lossF f e w))))) 8 (f 8 + chargeF f e (lossF f e w)) j := by
  unfold weighF
  rw [goes_lo _ _ _ (by omega)]
  unfold wgF
  rw [up_ne _ _ (by omega), up_ne _ _ (by omega)]
  exact (tot_ne _ _ _ _ (by omega)).trans (tot_ne _ _ _ _ (by omega))
theorem wg_bal (f : Fn) (e : Nat) (w : Int32) : weighF f e w 3 - weighF f e w 4 = f 3 - f 4 - chargeF f e (lossF f e w) := by
  rw [wg_lo f e w (by decide), wg_lo f e w (by decide), up_ne _ _ (by decide), up_ne _ _ (by decide), up_eq, up_ne _ _ (by decide), up_eq]
  grind
theorem wg_tot (f : Fn) {e : Nat} (hk : knd f e < 6) (w : Int32) : weighF f e w (32 + 6 * knd f e + 3) = f (32 + 6 * knd f e + 3) + (en f e 2 - w - lossF f e w) ∧ weighF f e w (32 + 6 * knd f e + 4) = f (32 + 6 * knd f e + 4) + lossF f e w := by
  unfold weighF
  rw [goes_lo _ _ _ (by omega), goes_lo _ _ _ (by omega)]
  unfold wgF
  rw [up_ne _ _ (by omega), up_ne _ _ (by omega), up_ne _ _ (by omega), up_ne _ _ (by omega), tot_at, tot_ne _ _ _ _ (by omega), tot_at, tot_ne _ _ _ _ (by omega), up_ne _ _ (by omega), up_ne _ _ (by omega), up_ne _ _ (by omega), up_ne _ _ (by omega), up_ne _ _ (by omega), up_ne _ _ (by omega)]
  exact ⟨rfl, rfl⟩
theorem wg_rest (hI : Inv a s f) {e w : Nat} (he : e < mo f) (h2 : w ≤ wN f e) : en (wgF f e (nI w)) e 2 - (en f e 2 - nI w) = nI w := by
  have hE := hI.ent e he
  have hW : wN f e ≤ 999 := hE.2.1.2
  have e2 : en (wgF f e (nI w)) e 2 = en f e 2 := wg_at f hE.k.2 (by omega)
  rw [e2, hE.ent.2.2.1, pk_sub h2, pk_sub (by omega)]
  exact congrArg nI (by omega)
theorem wg_open (hI : Inv a s f) (hJ : JN f) {e w : Nat} (he : e < mo f) (h2 : w ≤ wN f e) : (fiE (weighF f e (nI w)) (en f e 0) < mo (weighF f e (nI w))) ↔ ¬ nI w = 0 := by
  have hE := hI.ent e he
  have hl : ∀ k, 117 ≤ k → (k = 117 ∨ (118 ≤ k ∧ (k - 118) % 8 < 6)) → wgF f e (nI w) k = f k := fun k h3 h4 => by
    have hk := hE.k.2
    unfold wgF totF
    rw [up_ne _ _ (by omega), up_ne _ _ (by omega), up_ne _ _ (by omega), up_ne _ _ (by omega), up_ne _ _ (by omega), up_ne _ _ (by omega), up_ne _ _ (by omega)]
  unfold weighF
  rw [goes_open (g0 := wgF f e (nI w)) hJ hI.opn (hl _ (by decide) (Or.inl rfl)) (fun x _ => hl _ (by omega) (Or.inr (by omega))) he, wg_rest hI he h2]
/-- what is weighed and still there -/
theorem wg_left {e0 w0 : Nat} (hI : Inv a s f) (hJ1 : JN (weighF f e0 (nI w0))) (he : e0 < mo f) (h2 : w0 ≤ wN f e0) (h0 : 0 < w0) : fiE (weighF f e0 (nI w0)) (en f e0 0) = e0 ∧ e0 < mo (weighF f e0 (nI w0)) ∧ en (weighF f e0 (nI w0)) e0 7 = 1 ∧ allowF (weighF f e0 (nI w0)) e0 = 0 := by
  have hE := hI.ent e0 he
  have hW : wN f e0 ≤ 999 := hE.2.1.2
  have hr := wg_rest hI he h2
  have hn : ¬ nI w0 = 0 := fun z => by
    have := (nI_eq (b := 0) (by omega) (by decide)).mp z
    omega
  have ef : weighF f e0 (nI w0) = partG (wgF f e0 (nI w0)) e0 (en f e0 2 - nI w0) := by
    unfold weighF goesF
    rw [hr, if_neg hn]
  rw [ef] at hJ1 ⊢
  have g117 : wgF f e0 (nI w0) 117 = f 117 := wg_at f hE.k.2 (Or.inl rfl)
  have hm : mo (partG (wgF f e0 (nI w0)) e0 (en f e0 2 - nI w0)) = mo f := (mo_c (part_lo _ _ _ (by decide))).trans (mo_c g117)
  have e00 : en (partG (wgF f e0 (nI w0)) e0 (en f e0 2 - nI w0)) e0 0 = en f e0 0 := (part_0 _ _ _ _).trans (wg_at f hE.k.2 (by omega))
  have e7 : en (partG (wgF f e0 (nI w0)) e0 (en f e0 2 - nI w0)) e0 7 = 1 := by
    rw [part_oq _ _ (by decide) (by decide) (by decide)]
    show wgF f e0 (nI w0) (118 + 8 * e0 + 7) = 1
    unfold wgF
    rw [up_ne _ _ (by omega), up_eq]
  have e6 : en (partG (wgF f e0 (nI w0)) e0 (en f e0 2 - nI w0)) e0 6 = 0 := by
    rw [part_oq _ _ (by decide) (by decide) (by decide)]
    show wgF f e0 (nI w0) (118 + 8 * e0 + 6) = 0
    unfold wgF
    rw [up_eq]
  have e2 : en (partG (wgF f e0 (nI w0)) e0 (en f e0 2 - nI w0)) e0 2 = nI w0 := by rw [part_2, hr]
  refine ⟨by rw [← e00]; exact fi_at hJ1 (by rw [hm]; exact he), by rw [hm]; exact he, e7, ?_⟩
  have hw : wst (partG (wgF f e0 (nI w0)) e0 (en f e0 2 - nI w0)) e0 = 0 := by
    unfold wst
    rw [e6, show (0 : Int32) / 10 = 0 from rfl, Int32.mul_zero]
    rfl
  unfold allowF
  have hlt : (0 : Int32) < nI w0 := (nI_ltI (a := 0) (b := w0) (by decide) (by omega)).mpr h0
  rw [hw, e2, if_pos hlt]
theorem a_charge1 (hI : Inv a s u.1) (hJ : JN u.1) {j w : Nat} (hj : j < mo u.1) (h2 : w ≤ wN u.1 j) : y_tryCharge (en u.1 j 0) (nI w) u = chargeF u.1 j (lossF u.1 j (nI w)) := by
  rw [a_charge hI hJ hj h2, loss_n hI hj h2]
theorem V332 (x : Fn) (hk : g.2 + 2 ≤ 2400) (ho : g.1 o = svP u x) (hq : g.1 q = svP u x) (hg : GI g) (hoq : ¬ q = o) (hJ : JP (g.1 o)) (k : Int32) (h : ∀ g', GI g' → g'.1 q = g'.1 o → JP (g'.1 o) → g'.2 = g.2 + 2 → Q9 1 g') : w_L_weighs_J332 o q Q9 k (y_tryWeight k u) (v_balance u) 1 g := by
  have h1 := svP_pos u x
  have h6 : (svP u x).2.1 ≤ 6 := by rw [← ho]; exact hg.six o
  rw [ho] at hJ
  unfold w_L_weighs_J332
  refine ⟨fun z => absurd z z10, fun _ => L_undo1 hk ho hq hoq (by omega) h6 (fun g' hi b c d => ?_)⟩
  have e1 : (g'.1 o).1 = u.1 := by rw [b]; exact un_1 u x
  have hk' : g'.2 ≤ 2400 := by omega
  have hJ' : JP (g'.1 o) := by
    rw [b]
    exact hJ.un (by omega)
  simp only [same_balance e1, same_weight e1, hk', z10, z01, implies_true, ne_eq, eq_self, and_self, not_true_eq_false, not_false_eq_true, false_implies, true_implies, true_and, and_true, forall_eq, if_true, if_false, reduceIte]
  exact h g' hi (by rw [b, c]) hJ' d
theorem L_weighs (hg : GI g) (hk : g.2 + 4 ≤ 2400) (hs : g.1 q = g.1 o) (hoq : ¬ q = o) (hJ : JP (g.1 o)) (hx : 0 ≤ p2) (h : ∀ g', GI g' → g'.1 q = g'.1 o → JP (g'.1 o) → g'.2 ≤ g.2 + 4 → Q9 1 g') : w_L_weighs o q p2 g Q9 := by
  obtain ⟨n, hn, hp⟩ := nn_of hx
  have hk1 : g.2 ≤ 2400 := by omega
  have hI := hg.inv o
  have hJN := hJ.1.1
  have h16 := hI.mo16
  have e0 : v_entries (g.1 o) = nI (mo (g.1 o).1) := hI.opn.1
  unfold w_L_weighs
  refine ⟨hk1, fun r1 hr1 => ⟨fun hne => ⟨hk1, fun r4 hr4 => ?_⟩, fun _ => h g hg hs hJ (by omega)⟩⟩
  subst hr4
  rw [hr1] at hne
  have hm : 0 < mo (g.1 o).1 := by
    by_cases z : mo (g.1 o).1 = 0
    · exact absurd (by rw [e0, z]; rfl) hne
    · omega
  have e1 : p2 - p2 / v_entries (g.1 o) * v_entries (g.1 o) = nI (n % mo (g.1 o).1) := by rw [hp, e0]; exact rm_n hn hm (by omega)
  have hj := Nat.mod_lt n hm
  rw [e1, a_at hI hj]
  generalize n % mo (g.1 o).1 = j at *
  have hE := hI.ent j hj
  have e := hE.ent
  refine ⟨hne, hk1, fun k hkk => ⟨hk1, fun r9 hr9 => ?_⟩⟩
  subst hkk
  have er9 : r9 = nI (wN (g.1 o).1 j) := by rw [hr9, a_weight hJN hj, e.2.2.1]
  have hsu : r9 + 1 = nI (wN (g.1 o).1 j + 1) := by rw [er9, nI_1]
  have n0 : ¬ r9 + 1 = 0 := by
    rw [hsu]
    intro z
    have := (nI_eq (b := 0) (by omega) (by decide)).mp z
    omega
  refine ⟨n0, fun x hx12 => ?_⟩
  have hmod := Nat.mod_lt (n / 16) (show 0 < wN (g.1 o).1 j + 1 by omega)
  have hn16 := Nat.div_le_self n 16
  have e2 : x = nI (n / 16 % (wN (g.1 o).1 j + 1)) := by
    rw [hx12, hsu, hp, show (16 : Int32) = nI 16 from rfl, pk_div hn (by decide) (by decide), rm_n (by omega) (by omega) (by omega)]
  clear hx12
  subst e2
  generalize n / 16 % (wN (g.1 o).1 j + 1) = w at *
  have hw2 : w ≤ wN (g.1 o).1 j := by omega
  clear hmod hn16
  refine ⟨hk1, fun r13 hr13 => ⟨hk1, fun r15 hr15 => ⟨hk1, fun r17 hr17 => ⟨hk1, fun r19 hr19 => ⟨hk1, fun r21 hr21 x23 hx23 => ⟨hk1, fun r24 hr24 => ⟨hk1, fun r26 hr26 => ⟨hk1, fun r28 hr28 => ⟨hk1, fun r30 hr30 => ?_⟩⟩⟩⟩⟩⟩⟩⟩⟩
  rw [a_charge1 hI hJN hj hw2] at hr13
  rw [a_kind hJN hj] at hr17
  rw [a_allowed hJN hj] at hr26
  have hcham := hE.c
  have ech : r28 = nI (chm (g.1 o).1 j) := by
    rw [hr28]
    unfold y_tryChamber tEnt
    rw [fi_at hJN hj, if_pos hj, if_pos rfl]
    exact hcham.1
  have hcc : chm (g.1 o).1 j < 5 := hcham.2
  have hlk : r30 = if (g.1 o).1 (10 + chm (g.1 o).1 j) ≤ 0 then 0 else 1 := by
    have ht : tCh (nI (chm (g.1 o).1 j)) = 0 := by unfold tCh; rw [if_pos ⟨nI_le (a := 0) (by omega) (by omega), nI_le (b := 4) (by omega) (by decide)⟩]
    rw [hr30, ech]
    unfold y_isLocked
    rw [ht, if_pos rfl, rs_tn (by omega)]
    by_cases z : (g.1 o).1 (10 + chm (g.1 o).1 j) ≤ 0
    · rw [if_pos z, if_pos rfl]
    · rw [if_neg z, if_neg (by decide)]
  have htw : tWeigh (g.1 o).1 (en (g.1 o).1 j 0) (nI w) = if (g.1 o).1 (10 + chm (g.1 o).1 j) ≤ 0 then 0 else 3 := by
    have hc : 0 ≤ nI w ∧ nI w ≤ en (g.1 o).1 j 2 := by
      rw [e.2.2.1]
      exact ⟨nI_le (a := 0) (by omega) (by omega), nI_le hw2 (by omega)⟩
    unfold tWeigh
    rw [fi_at hJN hj, if_pos hj, if_pos hc]
  refine ⟨fun hun => ?_, fun hlo => ?_⟩
  · have hop : (g.1 o).1 (10 + chm (g.1 o).1 j) ≤ 0 := by
      by_cases z : (g.1 o).1 (10 + chm (g.1 o).1 j) ≤ 0
      · exact z
      · exact absurd (by rw [hlk, if_neg z]) hun
    rw [if_pos hop] at htw
    have ez : z_tryWeigh (en (g.1 o).1 j 0) (nI w) (g.1 o) = (r13, svP (g.1 o) (weighF (g.1 o).1 j (nI w)), 1) := by
      unfold z_tryWeigh
      rw [htw, if_pos rfl, fi_at hJN hj, hr13]
    refine ⟨by omega, fun r33 hr33 g35 hg35 hi35 => ?_⟩
    rw [ez] at hr33 hg35
    have c1 : g35.1 q = g.1 o := by rw [hg35, gz_1n _ hoq]; exact hs
    have c2 : g35.1 o = svP (g.1 o) (weighF (g.1 o).1 j (nI w)) := by rw [hg35]; exact gz_1 _ _ _
    have c3 : g35.2 = g.2 + 1 := by rw [hg35]; rfl
    refine ⟨fun z => absurd hr33 z, fun _ => ⟨by omega, fun r50 hr50 g52 hg52 hi52 => ?_⟩⟩
    rw [c1, ez] at hr50 hg52
    have c4 : g52.1 q = svP (g.1 o) (weighF (g.1 o).1 j (nI w)) := by rw [hg52]; exact gz_1 _ _ _
    have c5 : g52.1 o = svP (g.1 o) (weighF (g.1 o).1 j (nI w)) := by rw [hg52, gz_1n _ (fun e => hoq e.symm)]; exact c2
    have c6 : g52.2 = g.2 + 2 := by rw [hg52]; show g35.2 + 1 = _; omega
    have hk52 : g52.2 ≤ 2400 := by omega
    have s1 : (svP (g.1 o) (weighF (g.1 o).1 j (nI w))).1 = weighF (g.1 o).1 j (nI w) := svP_now _ _
    have hJ52 : JP (g52.1 o) := by
      obtain ⟨mc, hR⟩ := hg o
      have := P_tryWeigh hR hJ (en (g.1 o).1 j 0) (nI w)
      rw [ez] at this
      rw [c5]
      exact this
    have hJ1 := hJ52.1
    rw [c5, s1] at hJ1
    have hkn := e.2.2.2.2.2
    have hkt : (r17).toNatClampNeg = knd (g.1 o).1 j := by rw [hr17]; rfl
    have hkd : tKd r17 = 0 := by
      have h1 : r17 = nI (knd (g.1 o).1 j) := by rw [hr17]; exact hE.k.1
      rw [h1]
      unfold tKd
      rw [if_pos ⟨nI_le (a := 0) (by omega) (by omega), nI_le (b := 5) (by omega) (by decide)⟩]
    have hwas : ∀ v : PS, y_tryWasted r17 v = v.1 (32 + 6 * knd (g.1 o).1 j + 3) := fun v => by
      unfold y_tryWasted
      rw [hkd, if_pos rfl, hkt]
      exact congrArg v.1 (by omega)
    have hlos : ∀ v : PS, y_tryLost r17 v = v.1 (32 + 6 * knd (g.1 o).1 j + 4) := fun v => by
      unfold y_tryLost
      rw [hkd, if_pos rfl, hkt]
      exact congrArg v.1 (by omega)
    have hwt := wg_tot (g.1 o).1 (e := j) hkn (nI w)
    have m1 : v_balance (g52.1 o) = r15 - r13 := by
      rw [c5, hr15, hr13]
      unfold v_balance
      rw [s1]
      exact wg_bal _ _ _
    have m2 : v_balanceByTotals (g52.1 o) = r15 - r13 := by
      rw [← m1]
      exact hJ52.1.2.1.1.symm
    have m4 : y_tryLost r17 (g52.1 o) = r24 + lossF (g.1 o).1 j (nI w) := by
      rw [hlos, c5, s1, hwt.2, hr24, hlos]
    have m5 : y_tryWasted r17 (g52.1 o) = r19 + (r9 - nI w - lossF (g.1 o).1 j (nI w)) := by
      rw [hwas, c5, s1, hwt.1, hr19, hwas, er9, e.2.2.1]
    have m3 : r19 + (r9 - nI w - lossF (g.1 o).1 j (nI w)) + (r24 + lossF (g.1 o).1 j (nI w)) = x23 + r9 - nI w := by
      have h1 : r21 = r24 := by rw [hr21, hr24]
      rw [hx23, h1]
      grind
    have hend := V332 (Q9 := Q9) (u := g.1 o) (weighF (g.1 o).1 j (nI w)) (by omega) c5 c4 hi52 hoq hJ52 (en (g.1 o).1 j 0) (fun g' a b c d => h g' a b c (by omega))
    rw [← hr9, ← hr15] at hend
    have h290 : w_L_weighs_J290 o q Q9 (en (g.1 o).1 j 0) r9 (nI w) r15 g52 := by
      have ho := wg_open hI hJN hj hw2
      unfold w_L_weighs_J290
      refine ⟨fun hz => ?_, fun hz => ?_⟩
      · have hw0 : 0 < w := by
          by_cases y : w = 0
          · exact absurd (by rw [y]; rfl) hz
          · omega
        obtain ⟨l1, l2, l3, l4⟩ := wg_left hI hJ1.1 hj hw2 hw0
        have ht : tEnt (weighF (g.1 o).1 j (nI w)) (en (g.1 o).1 j 0) = 0 := by unfold tEnt; rw [l1, if_pos l2]
        have a1 : y_isProved (en (g.1 o).1 j 0) (g52.1 o) = 1 := by
          rw [c5]
          unfold y_isProved
          rw [s1, ht, l1, l3, if_pos rfl, if_neg (by decide)]
        have a2 : y_tryAllowed (en (g.1 o).1 j 0) (g52.1 o) = 0 := by
          rw [c5]
          unfold y_tryAllowed
          rw [s1, ht, l1, l4, if_pos rfl]
        simp only [a1, a2, hk52, z10, z01, implies_true, ne_eq, eq_self, and_self, not_true_eq_false, not_false_eq_true, false_implies, true_implies, true_and, and_true, forall_eq, if_true, if_false, reduceIte]
        exact hend
      · have a1 : v_isOpenEntry (en (g.1 o).1 j 0) (g52.1 o) = 0 := by
          rw [c5]
          unfold v_isOpenEntry
          rw [s1, if_neg (fun y => ho.mp y hz)]
        simp only [a1, hk52, z10, z01, implies_true, ne_eq, eq_self, and_self, not_true_eq_false, not_false_eq_true, false_implies, true_implies, true_and, and_true, forall_eq, if_true, if_false, reduceIte]
        exact hend
    have hno : ¬ r26 < r9 - nI w → lossF (g.1 o).1 j (nI w) = 0 := fun z => by
      have ha := allow_rng hE hI.day
      have ha2 : (allowF (g.1 o).1 j).toNatClampNeg ≤ wN (g.1 o).1 j := ha.2
      rw [loss_n hI hj hw2]
      rw [hr26, ha.1, er9, pk_sub hw2] at z
      have z2 : wN (g.1 o).1 j - w ≤ (allowF (g.1 o).1 j).toNatClampNeg := by
        by_cases y : wN (g.1 o).1 j - w ≤ (allowF (g.1 o).1 j).toNatClampNeg
        · exact y
        · exact absurd ((nI_ltI (by omega) (by omega)).mpr (by omega)) z
      rw [show wN (g.1 o).1 j - w - (allowF (g.1 o).1 j).toNatClampNeg = 0 by omega]
      rfl
    refine ⟨fun z => absurd hr50 z, fun _ => ?_⟩
    simp only [m1, m2, m4, m5, m3, hk52, z10, z01, implies_true, ne_eq, eq_self, and_self, not_true_eq_false, not_false_eq_true, false_implies, true_implies, true_and, and_true, forall_eq, if_true, if_false, reduceIte]
    refine ⟨fun _ => h290, fun z => ?_⟩
    have hl0 := hno z
    have hr0 : r13 = 0 := by rw [hr13, hl0]; exact charge_0 hI hj
    rw [hl0]
    exact ⟨fun y => absurd (Int32.add_zero r24) y, fun _ => ⟨fun y => absurd hr0 y, fun _ => h290⟩⟩
  · have hcl : ¬ (g.1 o).1 (10 + chm (g.1 o).1 j) ≤ 0 := fun z => by
      rw [hlk, if_pos z] at hlo
      exact absurd hlo (by decide)
    rw [if_neg hcl] at htw
    have ez : z_tryWeigh (en (g.1 o).1 j 0) (nI w) (g.1 o) = (-9999003, g.1 o, 0) := R_z (k := 3) htw (by decide)
    refine ⟨by omega, fun r hr g1 hg1 hi1 => ?_⟩
    rw [ez] at hr hg1
    have e3 : g1 = g := by rw [hg1]; exact gz_id g o
    subst e3
    refine ⟨fun c => absurd hr c, fun _ => ⟨by omega, fun r2 hr2 g2 hg2 hi2 => ?_⟩⟩
    rw [hs, ez] at hr2 hg2
    have e4 : g2 = g1 := by rw [hg2, ← hs]; exact gz_id g1 q
    subst e4
    exact ⟨fun c => absurd hr2 c, fun _ => h g2 hi2 hs hJ (by omega)⟩
end LWEIGH
