section LLEAVE
variable {a s : Nat} {f g0 : Fn} {u : PS} {o q : Bool} {g : Gh} {p2 y3 : Int32} {Q9 : Int32 → Gh → Prop}
theorem same_weight {u v : PS} (h : u.1 = v.1) (p : Int32) : y_tryWeight p u = y_tryWeight p v := by unfold y_tryWeight; rw [h]
theorem same_stock {u v : PS} (h : u.1 = v.1) (p : Int32) : y_tryStock p u = y_tryStock p v := by unfold y_tryStock; rw [h]
theorem same_account {u v : PS} (h : u.1 = v.1) : v_account u = v_account v := by unfold v_account; rw [h]
theorem same_balance {u v : PS} (h : u.1 = v.1) : v_balance u = v_balance v := by unfold v_balance; rw [h]
/-- withdrawn, drawn, and undone -/
theorem V368 (x y : Fn) (hk : g.2 + 4 ≤ 2400) (hg : GI g) (ho : g.1 o = svP (svP u x) y) (hq : g.1 q = svP (svP u x) y) (hoq : ¬ q = o) (hJ : JP (g.1 o)) (k kd : Int32) (h : ∀ g', GI g' → g'.1 q = g'.1 o → JP (g'.1 o) → g'.2 = g.2 + 4 → Q9 1 g') : w_L_leaves_J368 o q Q9 k (v_account u) kd (y_tryWeight k u) (y_tryStock kd u) 1 g := by
  have h2 := un_2 u x y
  have h6 : (svP (svP u x) y).2.1 ≤ 6 := by rw [← ho]; exact hg.six o
  rw [ho] at hJ
  unfold w_L_leaves_J368
  refine ⟨fun z => absurd z z10, fun _ => L_undo2 hk ho hq hoq h2.2 h6 (fun g' hi b c d => ?_)⟩
  have e1 : (g'.1 o).1 = u.1 := by rw [b]; exact h2.1
  have hk' : g'.2 ≤ 2400 := by omega
  have hJ' : JP (g'.1 o) := by
    rw [b]
    have h0 := h2.2
    exact (hJ.un (by omega)).un (show 0 < (svP (svP u x) y).2.1 - 1 by omega)
  simp only [same_account e1, same_weight e1, same_stock e1, hk', z10, z01, implies_true, ne_eq, eq_self, and_self, not_true_eq_false, not_false_eq_true, false_implies, true_implies, true_and, and_true, forall_eq, if_true, if_false, reduceIte]
  exact h g' hi (by rw [b, c]) hJ' d
theorem a_why (hI : Inv a s u.1) (hJ : JN u.1) {j w : Nat} (hj : j < mo u.1) (h1 : 1 ≤ w) (h2 : w ≤ wN u.1 j) : y_tryWhyOut (en u.1 j 0) (nI w) u = whyW u.1 j (nI w) ∧ tOut u.1 (en u.1 j 0) (nI w) = if whyW u.1 j (nI w) = 0 then 0 else 3 := by
  have e := (hI.ent j hj).ent
  have hc : 1 ≤ nI w ∧ nI w ≤ 999 := ⟨nI_le (a := 1) h1 (by omega), nI_le (b := 999) (by omega) (by decide)⟩
  have ht : tEntW u.1 (en u.1 j 0) (nI w) = 0 := by
    unfold tEntW
    rw [fi_at hJ hj, if_pos hj, if_pos hc]
  constructor
  · unfold y_tryWhyOut
    rw [ht, fi_at hJ hj, if_pos rfl]
  · unfold tOut
    rw [fi_at hJ hj, if_pos hj, if_pos hc]
theorem mr1_pos (f : Fn) : 1 ≤ mr1 f := by
  unfold mr1
  split <;> omega
theorem rec_0 {x : Int32} {n : Nat} (hx : x = nI n) (h1 : 1 ≤ n) (h2 : n < 2147483648) : 0 ≤ (0 : Int32) ∧ (0 : Int32) ≤ x - 1 := by
  rw [hx, show (1 : Int32) = nI 1 from rfl, pk_sub h1]
  exact ⟨by decide, nI_le (a := 0) (by omega) (by omega)⟩
theorem lt_m {n m : Nat} (h : ¬ n < m) (h2 : n ≤ m) : n = m := by omega
/-- the drawing back of a part that has just left, and its undo -/
theorem V264 (hk : g.2 + 6 ≤ 2400) (hg : GI g) {j w d : Nat} (hj1 : 1 ≤ w) (hj2 : w ≤ 999) (hd : d ≤ 440000) {x : Fn} (ho : g.1 o = svP u x) (hq : g.1 q = svP u x) (hoq : ¬ q = o) (hJ : JP (g.1 o)) (x3 : x 3 = v_account u - nI d) (x4 : x 4 = 0) (x68 : ∃ n, 1 ≤ n ∧ n ≤ 12 ∧ x 68 = nI n) (r1 : rc x 0 1 = nI w) (r2 : rc x 0 2 = nI d) (r3 : rc x 0 3 = x 0) (k kd : Int32) (h : ∀ g', GI g' → g'.1 q = g'.1 o → JP (g'.1 o) → g'.2 = g.2 + 6 → Q9 1 g') : w_L_leaves_J264 o q Q9 k (nI w) (nI d) (v_account u) kd (y_tryWeight k u) (y_tryStock kd u) 1 g := by
  obtain ⟨n, n1, n2, n3⟩ := x68
  have hz := rec_0 n3 n1 (by omega)
  have hc : 1 ≤ nI w ∧ nI w ≤ 999 := ⟨nI_le (a := 1) hj1 (by omega), nI_le (b := 999) (by omega) (by decide)⟩
  obtain ⟨d1, d2, d3, d4, d5⟩ := dw_facts (f := x) hj1 hj2 hd r1 r2
  have z0 : (0 : Int32).toNatClampNeg = 0 := rfl
  have e1 : (svP u x).1 = x := svP_now u x
  have b1 : y_tryDrawFor 0 (nI w) (svP u x) = nI d * 9 / 10 := by
    have ht : tFor x 0 (nI w) = 0 := by
      unfold tFor
      rw [if_pos hz, z0, r1, if_pos ⟨hc.1, Int32.le_refl _⟩]
    unfold y_tryDrawFor
    rw [e1, ht, if_pos rfl]
    exact d1
  have b2 : z_tryDraw 0 (nI w) (svP u x) = (nI d * 9 / 10, svP (svP u x) (drawF x 0 (nI w)), 1) := by
    have ht : tDraw x 0 (nI w) = 0 := by
      have hy : whyD x 0 (nI w) = 0 := by
        unfold whyD
        rw [x4, if_pos (by decide), r3, r1, Int32.sub_self, if_pos (by decide), if_pos (Int32.le_refl _)]
      unfold tDraw
      rw [if_pos hz, if_pos hc, z0, hy, if_pos rfl]
    unfold z_tryDraw
    rw [e1, ht, if_pos rfl, z0, d1]
  have b0 : backF x 0 (nI w) = nI d * 9 / 10 := d1
  unfold w_L_leaves_J264
  refine ⟨by omega, fun r hr => ?_⟩
  rw [ho, b1] at hr
  subst hr
  refine ⟨fun z => absurd z z10, fun _ => ⟨fun z => absurd rfl z, fun _ => ⟨by omega, fun r5 hr5 g5 hg5 hi5 => ?_⟩⟩⟩
  rw [ho, b2] at hr5 hg5
  subst hr5
  have c1 : g5.1 q = svP u x := by rw [hg5, gz_1n _ hoq]; exact hq
  have c2 : g5.1 o = svP (svP u x) (drawF x 0 (nI w)) := by rw [hg5]; exact gz_1 _ _ _
  have c3 : g5.2 = g.2 + 1 := by rw [hg5]; rfl
  refine ⟨fun z => absurd rfl z, fun _ => ⟨by omega, fun r6 hr6 g6 hg6 hi6 => ?_⟩⟩
  rw [c1, b2] at hr6 hg6
  subst hr6
  have c4 : g6.1 q = svP (svP u x) (drawF x 0 (nI w)) := by rw [hg6]; exact gz_1 _ _ _
  have c5 : g6.1 o = svP (svP u x) (drawF x 0 (nI w)) := by rw [hg6, gz_1n _ (fun e => hoq e.symm)]; exact c2
  have c6 : g6.2 = g.2 + 2 := by rw [hg6]; show g5.2 + 1 = _; omega
  have hk6 : g6.2 ≤ 2400 := by omega
  have e2 : (svP (svP u x) (drawF x 0 (nI w))).1 = drawF x 0 (nI w) := svP_now _ _
  have m1 : v_account (g6.1 o) = v_account u - nI d + nI d * 9 / 10 := by
    rw [c5]
    unfold v_account
    rw [e2, d2, x3]
    rfl
  have hz2 := rec_0 (d3.trans n3) n1 (by omega)
  have ht2 : tRec (drawF x 0 (nI w)) 0 = 0 := by unfold tRec; rw [if_pos hz2]
  have m2 : y_tryPaper 0 (g6.1 o) = 0 := by
    rw [c5]
    unfold y_tryPaper
    rw [e2, ht2, if_pos rfl]
    exact d4
  have m3 : y_tryPaperDuty 0 (g6.1 o) = 0 := by
    rw [c5]
    unfold y_tryPaperDuty
    rw [e2, ht2, if_pos rfl]
    exact d5
  have hJ6 : JP (g6.1 o) := by
    obtain ⟨mc, hR⟩ := hg o
    have := P_tryDraw hR hJ 0 (nI w)
    rw [ho, b2] at this
    rw [c5]
    exact this
  have hend := V368 (Q9 := Q9) (u := u) x (drawF x 0 (nI w)) (by omega) hi6 c5 c4 hoq hJ6 k kd (fun g' a b c d => h g' a b c (by omega))
  simp only [m1, m2, m3, hk6, z10, z01, implies_true, ne_eq, eq_self, and_self, not_true_eq_false, not_false_eq_true, false_implies, true_implies, true_and, and_true, forall_eq, if_true, if_false, reduceIte]
  exact hend
theorem L_leaves (hg : GI g) (hk : g.2 + 8 ≤ 2400) (hs : g.1 q = g.1 o) (hoq : ¬ q = o) (hJ : JP (g.1 o)) (hx : 0 ≤ p2) (h : ∀ g', GI g' → g'.1 q = g'.1 o → JP (g'.1 o) → g'.2 ≤ g.2 + 8 → Q9 1 g') : w_L_leaves o q p2 g Q9 := by
  obtain ⟨n, hn, hp⟩ := nn_of hx
  have hk1 : g.2 ≤ 2400 := by omega
  have hI := hg.inv o
  have hJN := hJ.1.1
  have h16 := hI.mo16
  have e0 : v_entries (g.1 o) = nI (mo (g.1 o).1) := hI.opn.1
  unfold w_L_leaves
  refine ⟨hk1, fun r1 hr1 => ⟨fun hne => ⟨hk1, fun r4 hr4 => ?_⟩, fun _ => h g hg hs hJ (by omega)⟩⟩
  subst hr4
  rw [hr1] at hne
  have hm : 0 < mo (g.1 o).1 := by
    by_cases z : mo (g.1 o).1 = 0
    · exact absurd (by rw [e0, z]; rfl) hne
    · omega
  have e1 : p2 - p2 / v_entries (g.1 o) * v_entries (g.1 o) = nI (n % mo (g.1 o).1) := by rw [hp, e0]; exact rm_n hn hm (by omega)
  have hj := Nat.mod_lt n hm
  rw [e1, a_at hI hj]
  generalize n % mo (g.1 o).1 = j at *
  have e := (hI.ent j hj).ent
  refine ⟨hne, hk1, fun k hkk => ⟨hk1, fun r9 hr9 => ?_⟩⟩
  subst hkk
  rw [a_weight hJN hj] at hr9
  have n0 : ¬ r9 = 0 := by
    rw [hr9, e.2.2.1]
    intro z
    have := (nI_eq (b := 0) (by omega) (by decide)).mp z
    omega
  refine ⟨n0, fun x hx12 => ?_⟩
  have hmod := Nat.mod_lt (n / 16) e.2.2.2.1
  have hn16 := Nat.div_le_self n 16
  have e2 : x = nI (1 + n / 16 % wN (g.1 o).1 j) := by
    rw [hx12, hr9, e.2.2.1, hp, show (16 : Int32) = nI 16 from rfl, pk_div hn (by decide) (by decide), rm_n (by omega) e.2.2.2.1 (by omega)]
    exact nI_add 1 _
  clear hx12
  subst e2
  generalize hw : 1 + n / 16 % wN (g.1 o).1 j = w at *
  have hw1 : 1 ≤ w := by omega
  have hw2 : w ≤ wN (g.1 o).1 j := by omega
  clear hw hmod hn16
  obtain ⟨y1, y2⟩ := a_why hI hJN hj hw1 hw2
  refine ⟨hk1, fun dd hdd => ⟨hk1, fun r15 hr15 => ⟨fun hle => ?_, fun hgt => ?_⟩⟩⟩
  · rw [hr15, y1, whyW_nn] at hle
    rw [hle, if_pos rfl] at y2
    obtain ⟨d, hd⟩ : ∃ d, d = dN2 (g.1 o).1 (knd (g.1 o).1 j) (vN (g.1 o).1 j * w / wN (g.1 o).1 j) w (en (g.1 o).1 j 5) := ⟨_, rfl⟩
    have hdn := dutyP_n hI hj hw2
    rw [← hd] at hdn
    rw [a_part hI hJN hj hw1 hw2, hdn.1] at hdd
    subst hdd
    have ez : z_tryWithdraw (en (g.1 o).1 j 0) (nI w) (g.1 o) = (nI d, svP (g.1 o) (withdrawF (g.1 o).1 j (nI w)), 1) := by
      unfold z_tryWithdraw
      rw [y2, if_pos rfl, fi_at hJN hj, hdn.1]
    have h40 : (g.1 o).1 4 = 0 := z4 hI.debt (by decide) (leave4 (whyW0 hle).1)
    obtain ⟨f3, f4, f0, f68, q0, q1, q2, q3, qs⟩ := wd_facts hI hj hw1 hw2
    rw [hdn.1] at f3 q2
    refine ⟨hk1, fun r18 hr18 => ⟨hk1, fun r20 hr20 => ⟨hk1, fun r22 hr22 => ⟨hk1, fun r24 hr24 => ⟨by omega, fun r26 hr26 g28 hg28 hi28 => ?_⟩⟩⟩⟩⟩
    rw [ez] at hr26 hg28
    subst hr26
    have c1 : g28.1 q = g.1 o := by rw [hg28, gz_1n _ hoq]; exact hs
    have c2 : g28.1 o = svP (g.1 o) (withdrawF (g.1 o).1 j (nI w)) := by rw [hg28]; exact gz_1 _ _ _
    have c3 : g28.2 = g.2 + 1 := by rw [hg28]; rfl
    refine ⟨fun z => absurd rfl z, fun _ => ⟨by omega, fun r70 hr70 g72 hg72 hi72 => ?_⟩⟩
    rw [c1, ez] at hr70 hg72
    subst hr70
    have c4 : g72.1 q = svP (g.1 o) (withdrawF (g.1 o).1 j (nI w)) := by rw [hg72]; exact gz_1 _ _ _
    have c5 : g72.1 o = svP (g.1 o) (withdrawF (g.1 o).1 j (nI w)) := by rw [hg72, gz_1n _ (fun e => hoq e.symm)]; exact c2
    have c6 : g72.2 = g.2 + 2 := by rw [hg72]; show g28.2 + 1 = _; omega
    have hk72 : g72.2 ≤ 2400 := by omega
    have s1 : (svP (g.1 o) (withdrawF (g.1 o).1 j (nI w))).1 = withdrawF (g.1 o).1 j (nI w) := svP_now _ _
    have hJ72 : JP (g72.1 o) := by
      obtain ⟨mc, hR⟩ := hg o
      have := P_tryWithdraw hR hJ (en (g.1 o).1 j 0) (nI w)
      rw [ez] at this
      rw [c5]
      exact this
    have hmr := hI.mr12
    have m12 : mr1 (g.1 o).1 ≤ 12 := by unfold mr1; split <;> omega
    have hI72 := hi72.inv o
    rw [c5, s1] at hI72
    have hz := rec_0 f68 (mr1_pos _) (by omega)
    have ht : tRec (withdrawF (g.1 o).1 j (nI w)) 0 = 0 := by unfold tRec; rw [if_pos hz]
    have ekd : r20 = en (g.1 o).1 j 1 := by rw [hr20, a_kind hJN hj]
    have hkd : tKd r20 = 0 := by
      rw [ekd]
      unfold tKd
      rw [((hI.ent j hj)).k.1, if_pos ⟨nI_le (a := 0) (by omega) (by have := e.2.2.2.2.2; unfold knd at this; omega), nI_le (b := 5) (by have := e.2.2.2.2.2; unfold knd at this; omega) (by decide)⟩]
    have m1 : v_account (g72.1 o) = r18 - nI d := by
      rw [c5, hr18]
      unfold v_account
      rw [s1, f3]
    have m2 : y_tryStock r20 (g72.1 o) = r24 - nI w := by
      rw [c5, hr24]
      unfold y_tryStock
      rw [s1, hkd, if_pos rfl, if_pos rfl, ekd, (stock_sq hI72 _).1, (stock_sq hI _).1, pk_sub (by omega)]
      exact congrArg nI (by omega)
    have m3 : y_tryPaper 0 (g72.1 o) = nI w := by
      rw [c5]
      unfold y_tryPaper
      rw [s1, ht, if_pos rfl]
      exact q1
    have m4 : y_tryPaperDuty 0 (g72.1 o) = nI d := by
      rw [c5]
      unfold y_tryPaperDuty
      rw [s1, ht, if_pos rfl]
      exact q2
    have m5 : y_tryPaperAge 0 (g72.1 o) = 0 := by
      rw [c5]
      unfold y_tryPaperAge
      rw [s1, ht, if_pos rfl, f0, show (0 : Int32).toNatClampNeg = 0 from rfl, q3, Int32.sub_self]
    have m6 : v_isOpenEntry (en (g.1 o).1 j 0) (g72.1 o) = if w < wN (g.1 o).1 j then 1 else 0 := by
      rw [c5]
      unfold v_isOpenEntry
      rw [s1]
      have := wd_open hI hJN hj hw2
      by_cases z : w < wN (g.1 o).1 j
      · rw [if_pos z, if_pos (this.mpr z)]
      · rw [if_neg z, if_neg (fun y => z (this.mp y))]
    have hend := V264 (Q9 := Q9) (u := g.1 o) (j := j) (by omega) hi72 hw1 (by omega) hdn.2 c5 c4 hoq hJ72 f3 (f4.trans h40) ⟨_, mr1_pos _, m12, f68⟩ q1 q2 (q3.trans f0.symm) (en (g.1 o).1 j 0) r20 (fun g' a b c d => h g' a b c (by omega))
    have er22 : r22 = nI (wN (g.1 o).1 j) := by rw [hr22, a_weight hJN hj, e.2.2.1]
    subst hr18 hr24
    rw [← hr22] at hend
    simp only [m1, m2, m3, m4, m5, m6, hk72, z10, z01, implies_true, ne_eq, eq_self, and_self, not_true_eq_false, not_false_eq_true, false_implies, true_implies, true_and, and_true, forall_eq, if_true, if_false, reduceIte]
    by_cases z : w < wN (g.1 o).1 j
    · rw [if_pos z]
      refine ⟨fun y => ?_, fun _ => ⟨fun c => absurd rfl c, fun _ => hend⟩⟩
      rw [er22] at y
      have := (nI_leI (by omega) (by omega)).mp y
      omega
    · rw [if_neg z]
      refine ⟨fun _ => ⟨fun c => absurd rfl c, fun _ => hend⟩, fun y => ?_⟩
      rw [er22] at y
      exact absurd (nI_le (by omega) (by omega)) y
  · have hwy : ¬ whyW (g.1 o).1 j (nI w) = 0 := fun z => hgt (by rw [hr15, y1, z]; decide)
    rw [if_neg hwy] at y2
    have ez : z_tryWithdraw (en (g.1 o).1 j 0) (nI w) (g.1 o) = (-9999003, g.1 o, 0) := R_z (k := 3) y2 (by decide)
    refine ⟨by omega, fun r hr g1 hg1 hi1 => ?_⟩
    rw [ez] at hr hg1
    have e3 : g1 = g := by rw [hg1]; exact gz_id g o
    subst e3
    refine ⟨fun c => absurd hr c, fun _ => ⟨by omega, fun r2 hr2 g2 hg2 hi2 => ?_⟩⟩
    rw [hs, ez] at hr2 hg2
    have e4 : g2 = g1 := by rw [hg2, ← hs]; exact gz_id g1 q
    subst e4
    exact ⟨fun c => absurd hr2 c, fun _ => h g2 hi2 hs hJ (by omega)⟩
end LLEAVE
