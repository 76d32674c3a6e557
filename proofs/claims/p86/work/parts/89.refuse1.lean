section LREF1
variable {u : PS} {y1 y2 y3 y4 y5 x6 : Int32}
theorem rf1 (h : RF u y1 y2 y3 y4 y5 x6) : z_enter y2 5 5 x6 u = (-9999002, u, 0) := by
  obtain ⟨a1, a2, a3, a4, a5, a6⟩ := h
  exact R_z (k := 2) (by unfold tEnter; rw [if_neg (fun z => a2 z.1)]) (by decide)
theorem rf2 (h : RF u y1 y2 y3 y4 y5 x6) : z_enter 1 y4 5 x6 u = (-9999002, u, 0) := by
  obtain ⟨a1, a2, a3, a4, a5, a6⟩ := h
  exact R_z (k := 2) (by unfold tEnter; rw [if_neg (fun z => a4 z.2.1)]) (by decide)
theorem rf3a (h : RF u y1 y2 y3 y4 y5 x6) : z_enter 1 5 0 x6 u = (-9999002, u, 0) := by
  obtain ⟨a1, a2, a3, a4, a5, a6⟩ := h
  exact R_z (k := 2) (by unfold tEnter; rw [if_neg (fun z => absurd z.2.2.1 (by decide))]) (by decide)
theorem rf3b (h : RF u y1 y2 y3 y4 y5 x6) : z_enter 1 5 10000 x6 u = (-9999002, u, 0) := by
  obtain ⟨a1, a2, a3, a4, a5, a6⟩ := h
  exact R_z (k := 2) (by unfold tEnter; rw [if_neg (fun z => absurd z.2.2.1 (by decide))]) (by decide)
theorem rf4 (h : RF u y1 y2 y3 y4 y5 x6) : z_enter 1 5 5 y3 u = (-9999002, u, 0) := by
  obtain ⟨a1, a2, a3, a4, a5, a6⟩ := h
  exact R_z (k := 2) (by unfold tEnter; rw [if_neg (fun z => a3 z.2.2.2)]) (by decide)
theorem rf5 (h : RF u y1 y2 y3 y4 y5 x6) : z_tryWithdraw y1 y4 u = (-9999001, u, 0) := by
  obtain ⟨a1, a2, a3, a4, a5, a6⟩ := h
  exact R_z (k := 1) (by unfold tOut; rw [if_neg a1]) (by decide)
theorem rf6 (h : RF u y1 y2 y3 y4 y5 x6) : z_trySend y1 1 u = (-9999001, u, 0) := by
  obtain ⟨a1, a2, a3, a4, a5, a6⟩ := h
  exact R_z (k := 1) (by unfold tSend; rw [if_neg a1]) (by decide)
theorem rf7 (h : RF u y1 y2 y3 y4 y5 x6) : z_tryDraw y5 y4 u = (-9999001, u, 0) := by
  obtain ⟨a1, a2, a3, a4, a5, a6⟩ := h
  exact R_z (k := 1) (by unfold tDraw; rw [if_neg a5]) (by decide)
theorem rf8 (h : RF u y1 y2 y3 y4 y5 x6) : z_tryMove y1 x6 u = (-9999001, u, 0) := by
  obtain ⟨a1, a2, a3, a4, a5, a6⟩ := h
  exact R_z (k := 1) (by unfold tMove; rw [if_neg a1]) (by decide)
theorem rf9 (h : RF u y1 y2 y3 y4 y5 x6) : z_trySplit y1 0 u = (-9999001, u, 0) := by
  obtain ⟨a1, a2, a3, a4, a5, a6⟩ := h
  exact R_z (k := 1) (by unfold tSplit; rw [if_neg a1]) (by decide)
theorem rf10 (h : RF u y1 y2 y3 y4 y5 x6) : z_tryMerge y1 y1 u = (-9999001, u, 0) := by
  obtain ⟨a1, a2, a3, a4, a5, a6⟩ := h
  exact R_z (k := 1) (by unfold tMerge; rw [if_neg (fun z => a1 z.1)]) (by decide)
theorem rf11 (h : RF u y1 y2 y3 y4 y5 x6) : z_tryWeigh y1 (-1) u = (-9999001, u, 0) := by
  obtain ⟨a1, a2, a3, a4, a5, a6⟩ := h
  exact R_z (k := 1) (by unfold tWeigh; rw [if_neg a1]) (by decide)
theorem rf12 (h : RF u y1 y2 y3 y4 y5 x6) : z_tryLock y3 u = (-9999001, u, 0) := by
  obtain ⟨a1, a2, a3, a4, a5, a6⟩ := h
  exact R_z (k := 1) (by unfold tLock; rw [if_neg a3]) (by decide)
theorem rf13 (h : RF u y1 y2 y3 y4 y5 x6) : z_tryOpen y3 u = (-9999001, u, 0) := by
  obtain ⟨a1, a2, a3, a4, a5, a6⟩ := h
  exact R_z (k := 1) (by unfold tOpen; rw [if_neg a3]) (by decide)
theorem rf14 (h : RF u y1 y2 y3 y4 y5 x6) : z_tryBreak y3 u = (-9999001, u, 0) := by
  obtain ⟨a1, a2, a3, a4, a5, a6⟩ := h
  exact R_z (k := 1) (by unfold tBreak; rw [if_neg a3]) (by decide)
theorem rf15a (h : RF u y1 y2 y3 y4 y5 x6) : z_tryPay 0 u = (-9999002, u, 0) := by
  obtain ⟨a1, a2, a3, a4, a5, a6⟩ := h
  exact R_z (k := 2) (by unfold tPay; rw [if_neg (by decide)]) (by decide)
theorem rf15b (h : RF u y1 y2 y3 y4 y5 x6) : z_tryPay 10000 u = (-9999002, u, 0) := by
  obtain ⟨a1, a2, a3, a4, a5, a6⟩ := h
  exact R_z (k := 2) (by unfold tPay; rw [if_neg (by decide)]) (by decide)
theorem rf16a (h : RF u y1 y2 y3 y4 y5 x6) : z_trySetBond (-1) u = (-9999002, u, 0) := by
  obtain ⟨a1, a2, a3, a4, a5, a6⟩ := h
  exact R_z (k := 2) (by unfold tBond; rw [if_neg (by decide)]) (by decide)
theorem rf16b (h : RF u y1 y2 y3 y4 y5 x6) : z_trySetBond 50001 u = (-9999002, u, 0) := by
  obtain ⟨a1, a2, a3, a4, a5, a6⟩ := h
  exact R_z (k := 2) (by unfold tBond; rw [if_neg (by decide)]) (by decide)
theorem rf17a (h : RF u y1 y2 y3 y4 y5 x6) : z_tryPass 0 u = (-9999002, u, 0) := by
  obtain ⟨a1, a2, a3, a4, a5, a6⟩ := h
  exact R_z (k := 2) (by unfold tPass; rw [if_neg (by decide)]) (by decide)
theorem rf17b (h : RF u y1 y2 y3 y4 y5 x6) : z_tryPass 101 u = (-9999002, u, 0) := by
  obtain ⟨a1, a2, a3, a4, a5, a6⟩ := h
  exact R_z (k := 2) (by unfold tPass; rw [if_neg (by decide)]) (by decide)
theorem rf18 (h : RF u y1 y2 y3 y4 y5 x6) : z_trySetValue y2 5 u = (-9999002, u, 0) := by
  obtain ⟨a1, a2, a3, a4, a5, a6⟩ := h
  exact R_z (k := 2) (by unfold tValue; rw [if_neg (fun z => a2 z.1)]) (by decide)
theorem rf19a (h : RF u y1 y2 y3 y4 y5 x6) : z_trySetValue 1 (-1) u = (-9999002, u, 0) := by
  obtain ⟨a1, a2, a3, a4, a5, a6⟩ := h
  exact R_z (k := 2) (by unfold tValue; rw [if_neg (by decide)]) (by decide)
theorem rf19b (h : RF u y1 y2 y3 y4 y5 x6) : z_trySetValue 1 61 u = (-9999002, u, 0) := by
  obtain ⟨a1, a2, a3, a4, a5, a6⟩ := h
  exact R_z (k := 2) (by unfold tValue; rw [if_neg (by decide)]) (by decide)
theorem rf20a (h : RF u y1 y2 y3 y4 y5 x6) : z_trySetWeight 1 (-1) u = (-9999002, u, 0) := by
  obtain ⟨a1, a2, a3, a4, a5, a6⟩ := h
  exact R_z (k := 2) (by unfold tWeight; rw [if_neg (by decide)]) (by decide)
theorem rf20b (h : RF u y1 y2 y3 y4 y5 x6) : z_trySetWeight 1 81 u = (-9999002, u, 0) := by
  obtain ⟨a1, a2, a3, a4, a5, a6⟩ := h
  exact R_z (k := 2) (by unfold tWeight; rw [if_neg (by decide)]) (by decide)
theorem rq2 (h : RF u y1 y2 y3 y4 y5 x6) : y_tryDuty y1 u = -9999001 := by
  obtain ⟨a1, a2, a3, a4, a5, a6⟩ := h
  exact R_y (k := 1) (by unfold tEnt; rw [if_neg a1]) (by decide)
theorem rq3 (h : RF u y1 y2 y3 y4 y5 x6) : y_isProved y1 u = -9999001 := by
  obtain ⟨a1, a2, a3, a4, a5, a6⟩ := h
  exact R_y (k := 1) (by unfold tEnt; rw [if_neg a1]) (by decide)
theorem rq4 (h : RF u y1 y2 y3 y4 y5 x6) : y_tryPart y1 0 u = -9999001 := by
  obtain ⟨a1, a2, a3, a4, a5, a6⟩ := h
  exact R_y (k := 1) (by unfold tPart; rw [if_neg a1]) (by decide)
theorem rq5 (h : RF u y1 y2 y3 y4 y5 x6) : y_isLocked y3 u = -9999001 := by
  obtain ⟨a1, a2, a3, a4, a5, a6⟩ := h
  exact R_y (k := 1) (by unfold tCh; rw [if_neg a3]) (by decide)
theorem rq6 (h : RF u y1 y2 y3 y4 y5 x6) : y_trySeal y3 u = -9999001 := by
  obtain ⟨a1, a2, a3, a4, a5, a6⟩ := h
  exact R_y (k := 1) (by unfold tCh; rw [if_neg a3]) (by decide)
theorem rq7 (h : RF u y1 y2 y3 y4 y5 x6) : y_tryRoom y3 u = -9999001 := by
  obtain ⟨a1, a2, a3, a4, a5, a6⟩ := h
  exact R_y (k := 1) (by unfold tCh; rw [if_neg a3]) (by decide)
theorem rq8 (h : RF u y1 y2 y3 y4 y5 x6) : y_tryPaper y5 u = -9999001 := by
  obtain ⟨a1, a2, a3, a4, a5, a6⟩ := h
  exact R_y (k := 1) (by unfold tRec; rw [if_neg a5]) (by decide)
theorem rq9 (h : RF u y1 y2 y3 y4 y5 x6) : y_tryPaperAge y5 u = -9999001 := by
  obtain ⟨a1, a2, a3, a4, a5, a6⟩ := h
  exact R_y (k := 1) (by unfold tRec; rw [if_neg a5]) (by decide)
theorem rq10 (h : RF u y1 y2 y3 y4 y5 x6) : y_tryByValue y2 u = -9999002 := by
  obtain ⟨a1, a2, a3, a4, a5, a6⟩ := h
  exact R_y (k := 2) (by unfold tKd; rw [if_neg a2]) (by decide)
theorem rq11 (h : RF u y1 y2 y3 y4 y5 x6) : y_tryStock y2 u = -9999002 := by
  obtain ⟨a1, a2, a3, a4, a5, a6⟩ := h
  exact R_y (k := 2) (by unfold tKd; rw [if_neg a2]) (by decide)
theorem rq12 (h : RF u y1 y2 y3 y4 y5 x6) : y_tryWhyOut y1 y4 u = -9999001 := by
  obtain ⟨a1, a2, a3, a4, a5, a6⟩ := h
  exact R_y (k := 1) (by unfold tEntW; rw [if_neg a1]) (by decide)
theorem rq13 (h : RF u y1 y2 y3 y4 y5 x6) : y_tryWhyMove y1 y3 u = -9999001 := by
  obtain ⟨a1, a2, a3, a4, a5, a6⟩ := h
  exact R_y (k := 1) (by unfold tMv; rw [if_neg a1]) (by decide)
theorem rq14 (h : RF u y1 y2 y3 y4 y5 x6) : y_tryWhyDraw y5 y4 u = -9999001 := by
  obtain ⟨a1, a2, a3, a4, a5, a6⟩ := h
  exact R_y (k := 1) (by unfold tRecW; rw [if_neg a5]) (by decide)
theorem rq15 (h : RF u y1 y2 y3 y4 y5 x6) : y_tryCharge y1 0 u = -9999001 := by
  obtain ⟨a1, a2, a3, a4, a5, a6⟩ := h
  exact R_y (k := 1) (by unfold tChg; rw [if_neg a1]) (by decide)
theorem rq16 (h : RF u y1 y2 y3 y4 y5 x6) : y_tryLater y1 999 u = -9999001 := by
  obtain ⟨a1, a2, a3, a4, a5, a6⟩ := h
  exact R_y (k := 1) (by unfold tLat; rw [if_neg a1]) (by decide)
theorem rq17 (h : RF u y1 y2 y3 y4 y5 x6) : y_tryCheapest y2 u = -9999002 := by
  obtain ⟨a1, a2, a3, a4, a5, a6⟩ := h
  exact R_y (k := 2) (by unfold tKd; rw [if_neg a2]) (by decide)
theorem rq18 (h : RF u y1 y2 y3 y4 y5 x6) : y_tryFrom 1 0 u = -9999002 := by
  obtain ⟨a1, a2, a3, a4, a5, a6⟩ := h
  exact R_y (k := 2) (by unfold tFrom; rw [if_pos (by decide), if_neg (by decide)]) (by decide)
theorem rq19 (h : RF u y1 y2 y3 y4 y5 x6) : y_whyNot y2 5 5 x6 u = -9999002 := by
  obtain ⟨a1, a2, a3, a4, a5, a6⟩ := h
  exact R_y (k := 2) (by unfold tNew; rw [if_neg (fun z => a2 z.1)]) (by decide)
end LREF1
section LREF2
variable {o : Bool} {g : Gh} {Q9 : Int32 → Gh → Prop} {p1 y_1 y_2 y_3 y_4 y_5 x_6 : Int32}
theorem R1322 (hg : GI g) (hk : g.2 + 1 ≤ 2400) {r : Int32} (hF : fiE (g.1 o).1 r < mo (g.1 o).1) (hx : 0 ≤ x_6 ∧ x_6 ≤ 4) (h : Q9 1 g) : w_L_refuses_J1322 o Q9 x_6 r g := by
  have hk1 : g.2 ≤ 2400 := Nat.le_of_succ_le hk
  have e1 : y_tryWhyMove r x_6 (g.1 o) = whyM (g.1 o).1 (fiE (g.1 o).1 r) x_6 := by unfold y_tryWhyMove tMv; rw [if_pos hF, if_pos hx, if_pos rfl]
  unfold w_L_refuses_J1322
  simp only [e1, hk, hk1, hg, gz_id, implies_true, ne_eq, eq_self, and_self, not_true_eq_false, not_false_eq_true, false_implies, true_implies, true_and, and_true, forall_eq, if_true, if_false, reduceIte]
  refine ⟨fun _ => h, fun hn => ?_⟩
  have e2 : z_tryMove r x_6 (g.1 o) = (-9999003, g.1 o, 0) := R_z (k := 3) (by unfold tMove; rw [if_pos hF, if_pos hx, if_neg hn]) (by decide)
  simp only [e2, hk, hk1, hg, gz_id, implies_true, ne_eq, eq_self, and_self, not_true_eq_false, not_false_eq_true, false_implies, true_implies, true_and, and_true, forall_eq, if_true, if_false, reduceIte]
  exact h
theorem R1293 (hg : GI g) (hk : g.2 + 1 ≤ 2400) {r w : Int32} (hF : fiE (g.1 o).1 r < mo (g.1 o).1) (hx : 0 ≤ x_6 ∧ x_6 ≤ 4) (hw : 1 ≤ w ∧ w ≤ 999) (h : Q9 1 g) : w_L_refuses_J1293 o Q9 x_6 r w g := by
  have hk1 : g.2 ≤ 2400 := Nat.le_of_succ_le hk
  have hN := R1322 hg hk hF hx h
  have e1 : y_tryWhySend r w (g.1 o) = whyX (g.1 o).1 (fiE (g.1 o).1 r) w := by unfold y_tryWhySend tEntW; rw [if_pos hF, if_pos hw, if_pos rfl]
  unfold w_L_refuses_J1293
  simp only [e1, hk, hk1, hg, gz_id, implies_true, ne_eq, eq_self, and_self, not_true_eq_false, not_false_eq_true, false_implies, true_implies, true_and, and_true, forall_eq, if_true, if_false, reduceIte]
  refine ⟨fun _ => hN, fun hn => ?_⟩
  have e2 : z_trySend r w (g.1 o) = (-9999003, g.1 o, 0) := R_z (k := 3) (by unfold tSend; rw [if_pos hF, if_pos hw, if_neg hn]) (by decide)
  simp only [e2, hk, hk1, hg, gz_id, implies_true, ne_eq, eq_self, and_self, not_true_eq_false, not_false_eq_true, false_implies, true_implies, true_and, and_true, forall_eq, if_true, if_false, reduceIte]
  exact hN
theorem R1264 (hg : GI g) (hk : g.2 + 1 ≤ 2400) {r w : Int32} (hF : fiE (g.1 o).1 r < mo (g.1 o).1) (hx : 0 ≤ x_6 ∧ x_6 ≤ 4) (hw : 1 ≤ w ∧ w ≤ 999) (h : Q9 1 g) : w_L_refuses_J1264 o Q9 x_6 r w g := by
  have hk1 : g.2 ≤ 2400 := Nat.le_of_succ_le hk
  have hN := R1293 hg hk hF hx hw h
  have e1 : y_tryWhyOut r w (g.1 o) = whyW (g.1 o).1 (fiE (g.1 o).1 r) w := by unfold y_tryWhyOut tEntW; rw [if_pos hF, if_pos hw, if_pos rfl]
  unfold w_L_refuses_J1264
  simp only [e1, hk, hk1, hg, gz_id, implies_true, ne_eq, eq_self, and_self, not_true_eq_false, not_false_eq_true, false_implies, true_implies, true_and, and_true, forall_eq, if_true, if_false, reduceIte]
  refine ⟨fun _ => hN, fun hn => ?_⟩
  have e2 : z_tryWithdraw r w (g.1 o) = (-9999003, g.1 o, 0) := R_z (k := 3) (by unfold tOut; rw [if_pos hF, if_pos hw, if_neg hn]) (by decide)
  simp only [e2, hk, hk1, hg, gz_id, implies_true, ne_eq, eq_self, and_self, not_true_eq_false, not_false_eq_true, false_implies, true_implies, true_and, and_true, forall_eq, if_true, if_false, reduceIte]
  exact hN
theorem R1027 (hg : GI g) (hk : g.2 + 1 ≤ 2400) (hJ : JP (g.1 o)) {n : Nat} (hn : n < 2147483648) (hp : p1 = nI n) (hy3 : ¬ (0 ≤ y_3 ∧ y_3 ≤ 4)) (hy4 : ¬ (1 ≤ y_4 ∧ y_4 ≤ 999)) (hx : 0 ≤ x_6 ∧ x_6 ≤ 4) (h : Q9 1 g) : w_L_refuses_J1027 o p1 Q9 y_3 y_4 x_6 1 g := by
  have hk1 : g.2 ≤ 2400 := Nat.le_of_succ_le hk
  have hI := hg.inv o
  have hv : v_entries (g.1 o) = nI (mo (g.1 o).1) := hI.opn.1
  have h16 := hI.mo16
  unfold w_L_refuses_J1027
  simp only [hv, z10, isB1, hk, hk1, hg, gz_id, implies_true, ne_eq, eq_self, and_self, not_true_eq_false, not_false_eq_true, false_implies, true_implies, true_and, and_true, forall_eq, if_true, if_false, reduceIte]
  refine ⟨fun _ => h, fun hne => ⟨hne, ?_⟩⟩
  have hm0 : 0 < mo (g.1 o).1 := by
    by_cases z : mo (g.1 o).1 = 0
    · exact absurd (by rw [z]; rfl) hne
    · omega
  subst hp
  have hd : nI n / 8 = nI (n / 8) := pk_div (d := 8) (by omega) (by decide) (by decide)
  have hi : nI n / 8 - nI n / 8 / nI (mo (g.1 o).1) * nI (mo (g.1 o).1) = nI (n / 8 % mo (g.1 o).1) := by
    rw [hd]
    exact rm_n (by omega) hm0 (by omega)
  have hlt := Nat.mod_lt (n / 8) hm0
  have hw9 : nI n - nI n / 600 * 600 = nI (n % 600) := rm_n hn (m := 600) (by decide) (by decide)
  have hw : (1 : Int32) + nI (n % 600) = nI (1 + n % 600) := nI_add 1 _
  have hwr : 1 ≤ (nI (1 + n % 600) : Int32) ∧ nI (1 + n % 600) ≤ 999 := ⟨nI_le (a := 1) (by omega) (by have := Nat.mod_lt n (show 0 < 600 by decide); omega), nI_le (b := 999) (by have := Nat.mod_lt n (show 0 < 600 by decide); omega) (by decide)⟩
  rw [hi, hw9, hw]
  generalize n / 8 % mo (g.1 o).1 = e at *
  have ea : y_tryAt (nI e) (g.1 o) = en (g.1 o).1 e 0 := by
    unfold y_tryAt tAt
    rw [if_pos ((rng_ix hI.opn (by decide)).mpr ⟨e, hlt, rfl⟩), if_pos rfl, rs_tn (by omega)]
  have hfe := fi_at hJ.1.1 hlt
  have hF : fiE (g.1 o).1 (en (g.1 o).1 e 0) < mo (g.1 o).1 := by rw [hfe]; exact hlt
  generalize en (g.1 o).1 e 0 = r at *
  generalize nI (1 + n % 600) = w at *
  subst hfe
  have hE := hI.ent _ hF
  have hcr : 0 ≤ en (g.1 o).1 (fiE (g.1 o).1 r) 4 ∧ en (g.1 o).1 (fiE (g.1 o).1 r) 4 ≤ 4 := by
    have h4 := hE.2.2.2.2.1
    rw [h4.1]
    exact ⟨nI_le (a := 0) (by omega) (by have := h4.2; omega), nI_le (b := 4) (by have := h4.2; omega) (by decide)⟩
  have hW := hE.2.1
  have f1 : z_tryWithdraw r y_4 (g.1 o) = (-9999002, g.1 o, 0) := R_z (k := 2) (by unfold tOut; rw [if_pos hF, if_neg hy4]) (by decide)
  have f2 : z_trySend r y_4 (g.1 o) = (-9999002, g.1 o, 0) := R_z (k := 2) (by unfold tSend; rw [if_pos hF, if_neg hy4]) (by decide)
  have f3 : z_tryMove r y_3 (g.1 o) = (-9999001, g.1 o, 0) := R_z (k := 1) (by unfold tMove; rw [if_pos hF, if_neg hy3]) (by decide)
  have f4 : y_tryWeight r (g.1 o) = en (g.1 o).1 (fiE (g.1 o).1 r) 2 := by unfold y_tryWeight tEnt; rw [if_pos hF, if_pos rfl]
  have f5 : z_trySplit r (en (g.1 o).1 (fiE (g.1 o).1 r) 2) (g.1 o) = (-9999002, g.1 o, 0) := R_z (k := 2) (by unfold tSplit; rw [if_pos hF, if_neg (fun z => Int32.lt_irrefl ((spl_iff hW).mp z).2)]) (by decide)
  have f6 : z_tryMerge r r (g.1 o) = (-9999002, g.1 o, 0) := R_z (k := 2) (by unfold tMerge; rw [if_pos ⟨hF, hF⟩, if_pos rfl]) (by decide)
  have f7 : z_tryWeigh r (en (g.1 o).1 (fiE (g.1 o).1 r) 2 + 1) (g.1 o) = (-9999002, g.1 o, 0) := R_z (k := 2) (by
    unfold tWeigh
    rw [if_pos hF, if_neg (fun z => ?_)]
    have h2 := z.2
    have h9 := hW.2
    rw [hW.1, nI_1, nI_leI (by omega) (by omega)] at h2
    omega) (by decide)
  have f8 : y_tryPart r 0 (g.1 o) = -9999002 := R_y (k := 2) (by unfold tPart; rw [if_pos hF, if_neg (fun z => absurd z.1 (by decide))]) (by decide)
  have f9 : y_tryLater r 366 (g.1 o) = -9999002 := R_y (k := 2) (by unfold tLat; rw [if_pos hF, if_neg (by decide)]) (by decide)
  have f10 : y_tryChamber r (g.1 o) = en (g.1 o).1 (fiE (g.1 o).1 r) 4 := by unfold y_tryChamber tEnt; rw [if_pos hF, if_pos rfl]
  have f11 : z_tryMove r (en (g.1 o).1 (fiE (g.1 o).1 r) 4) (g.1 o) = (-9999003, g.1 o, 0) := R_z (k := 3) (by
    unfold tMove whyM
    rw [if_pos hF, if_pos hcr, if_pos rfl, if_neg (by decide)]) (by decide)
  have hN := R1264 hg hk hF hx hwr h
  simp only [ea, f1, f2, f3, f4, f5, f6, f7, f8, f9, f10, f11, hk, hk1, hg, gz_id, implies_true, ne_eq, eq_self, and_self, not_true_eq_false, not_false_eq_true, false_implies, true_implies, true_and, and_true, forall_eq, if_true, if_false, reduceIte]
  refine ⟨fun _ => hN, fun hl => ?_⟩
  have f12 : z_tryWeigh r 0 (g.1 o) = (-9999003, g.1 o, 0) := R_z (k := 3) (by
    unfold tWeigh
    rw [if_pos hF, if_pos ⟨by decide, by rw [hW.1]; exact nI_le (a := 0) (Nat.zero_le _) (by have := hW.2; omega)⟩, if_neg (fun z => hl ?_)]
    unfold y_isLocked tCh
    have z' : (g.1 o).1 (10 + (en (g.1 o).1 (fiE (g.1 o).1 r) 4).toNatClampNeg) ≤ 0 := z
    rw [if_pos hcr, if_pos rfl, if_pos z', if_pos rfl]) (by decide)
  simp only [f12, hk, hk1, hg, gz_id, implies_true, ne_eq, eq_self, and_self, not_true_eq_false, not_false_eq_true, false_implies, true_implies, true_and, and_true, forall_eq, if_true, if_false, reduceIte]
  exact hN
theorem R982 (hg : GI g) (hk : g.2 + 1 ≤ 2400) (hJ : JP (g.1 o)) {n : Nat} (hn : n < 2147483648) (hp : p1 = nI n) (hy3 : ¬ (0 ≤ y_3 ∧ y_3 ≤ 4)) (hy4 : ¬ (1 ≤ y_4 ∧ y_4 ≤ 999)) (hx : 0 ≤ x_6 ∧ x_6 ≤ 4) (h : Q9 1 g) : w_L_refuses_J982 o p1 Q9 y_3 y_4 x_6 g := by
  have hk1 : g.2 ≤ 2400 := Nat.le_of_succ_le hk
  have hN : w_L_refuses_J1022 o p1 Q9 y_3 y_4 x_6 g := R1027 hg hk hJ hn hp hy3 hy4 hx h
  have hI := hg.inv o
  have h12 : ∀ y, tBond (g.1 o).1 y = 3 → w_L_refuses_J1012 o p1 Q9 y_3 y_4 x_6 g y := fun y hy => by
    have e2 : z_trySetBond y (g.1 o) = (-9999003, g.1 o, 0) := R_z (k := 3) hy (by decide)
    unfold w_L_refuses_J1012
    simp only [e2, hk, hk1, hg, gz_id, implies_true, ne_eq, eq_self, and_self, not_true_eq_false, not_false_eq_true, false_implies, true_implies, true_and, and_true, forall_eq, if_true, if_false, reduceIte]
    exact hN
  have hs : rng (stakeF (g.1 o).1) 10000000 := stake_rng hI
  have hs2 := hs.2
  unfold w_L_refuses_J982
  simp only [hk, hk1, hg, gz_id, implies_true, ne_eq, eq_self, and_self, not_true_eq_false, not_false_eq_true, false_implies, true_implies, true_and, and_true, forall_eq, if_true, if_false, reduceIte]
  refine ⟨fun _ => hN, fun h0 => ⟨fun hle => h12 _ ?_, fun hgt => h12 _ ?_⟩⟩
  · have h0' : ¬ stakeF (g.1 o).1 = 0 := h0
    have hle' : stakeF (g.1 o).1 ≤ 50000 := hle
    unfold tBond
    show (if 0 ≤ stakeF (g.1 o).1 - 1 ∧ stakeF (g.1 o).1 - 1 ≤ 50000 then (if stakeF (g.1 o).1 ≤ stakeF (g.1 o).1 - 1 then 0 else 3) else 2) = 3
    rw [hs.1] at h0' hle' ⊢
    generalize (stakeF (g.1 o).1).toNatClampNeg = m at *
    have hm : 1 ≤ m := by
      by_cases z : m = 0
      · exact absurd (by rw [z]; rfl) h0'
      · omega
    have hm5 := (nI_leI (b := 50000) (by omega) (by decide)).mp hle'
    rw [show (1 : Int32) = nI 1 from rfl, pk_sub hm, if_pos ⟨nI_le (a := 0) (by omega) (by omega), nI_le (b := 50000) (by omega) (by decide)⟩, if_neg (fun z => by have := (nI_leI (by omega) (by omega)).mp z; omega)]
  · have h0' : ¬ stakeF (g.1 o).1 = 0 := h0
    unfold tBond
    rw [if_pos ⟨by decide, by decide⟩, if_neg (fun z => ?_)]
    exact h0' (z4 hs (by decide) z)
theorem R956 (hg : GI g) (hk : g.2 + 1 ≤ 2400) (hJ : JP (g.1 o)) {n : Nat} (hn : n < 2147483648) (hp : p1 = nI n) (hy3 : ¬ (0 ≤ y_3 ∧ y_3 ≤ 4)) (hy4 : ¬ (1 ≤ y_4 ∧ y_4 ≤ 999)) (hx : 0 ≤ x_6 ∧ x_6 ≤ 4) (h : Q9 1 g) : w_L_refuses_J956 o p1 Q9 y_3 y_4 x_6 g := by
  have hk1 : g.2 ≤ 2400 := Nat.le_of_succ_le hk
  have hN := R982 hg hk hJ hn hp hy3 hy4 hx h
  have hgd : ((0 : Int32) ≤ 1 ∧ (1 : Int32) ≤ 5) ∧ ((1 : Int32) ≤ 5 ∧ (5 : Int32) ≤ 999) ∧ ((1 : Int32) ≤ 5 ∧ (5 : Int32) ≤ 9999) ∧ (0 ≤ x_6 ∧ x_6 ≤ 4) := ⟨by decide, by decide, by decide, hx⟩
  have e1 : y_whyNot 1 5 5 x_6 (g.1 o) = whyE (g.1 o).1 (1 : Int32).toNatClampNeg 5 5 x_6 := by unfold y_whyNot tNew; rw [if_pos hgd, if_pos rfl]
  unfold w_L_refuses_J956
  simp only [e1, hk, hk1, hg, gz_id, implies_true, ne_eq, eq_self, and_self, not_true_eq_false, not_false_eq_true, false_implies, true_implies, true_and, and_true, forall_eq, if_true, if_false, reduceIte]
  refine ⟨fun _ => hN, fun hne => ?_⟩
  have e2 : z_enter 1 5 5 x_6 (g.1 o) = (-9999003, g.1 o, 0) := R_z (k := 3) (by unfold tEnter; rw [if_pos hgd, if_neg hne]) (by decide)
  simp only [e2, hk, hk1, hg, gz_id, implies_true, ne_eq, eq_self, and_self, not_true_eq_false, not_false_eq_true, false_implies, true_implies, true_and, and_true, forall_eq, if_true, if_false, reduceIte]
  exact hN
theorem R932 (hg : GI g) (hk : g.2 + 1 ≤ 2400) (hJ : JP (g.1 o)) {n : Nat} (hn : n < 2147483648) (hp : p1 = nI n) (hy3 : ¬ (0 ≤ y_3 ∧ y_3 ≤ 4)) (hy4 : ¬ (1 ≤ y_4 ∧ y_4 ≤ 999)) (hx : 0 ≤ x_6 ∧ x_6 ≤ 4) (h : Q9 1 g) : w_L_refuses_J932 o p1 Q9 y_3 y_4 x_6 g := by
  have hk1 : g.2 ≤ 2400 := Nat.le_of_succ_le hk
  have hN := R956 hg hk hJ hn hp hy3 hy4 hx h
  unfold w_L_refuses_J932
  simp only [hk, hk1, hg, gz_id, implies_true, ne_eq, eq_self, and_self, not_true_eq_false, not_false_eq_true, false_implies, true_implies, true_and, and_true, forall_eq, if_true, if_false, reduceIte]
  refine ⟨fun _ => hN, fun hne => ?_⟩
  have e2 : z_tryBreak x_6 (g.1 o) = (-9999003, g.1 o, 0) := R_z (k := 3) (by
    unfold tBreak
    rw [if_pos hx, if_neg (fun z => hne ?_)]
    unfold y_isBroken tCh
    rw [if_pos hx, if_pos rfl, if_pos z.2]) (by decide)
  simp only [e2, hk, hk1, hg, gz_id, implies_true, ne_eq, eq_self, and_self, not_true_eq_false, not_false_eq_true, false_implies, true_implies, true_and, and_true, forall_eq, if_true, if_false, reduceIte]
  exact hN
theorem R855 (hg : GI g) (hk : g.2 + 1 ≤ 2400) (hJ : JP (g.1 o)) {n : Nat} (hn : n < 2147483648) (hp : p1 = nI n) (hy3 : ¬ (0 ≤ y_3 ∧ y_3 ≤ 4)) (hy4 : ¬ (1 ≤ y_4 ∧ y_4 ≤ 999)) (hx : 0 ≤ x_6 ∧ x_6 ≤ 4) (h : Q9 1 g) : w_L_refuses_J855 o p1 Q9 y_3 y_4 x_6 g 1 := by
  have hk1 : g.2 ≤ 2400 := Nat.le_of_succ_le hk
  have hN := R932 hg hk hJ hn hp hy3 hy4 hx h
  unfold w_L_refuses_J855 w_L_refuses_J872
  by_cases hs : (g.1 o).1 (10 + x_6.toNatClampNeg) ≤ 0
  · have e1 : y_isLocked x_6 (g.1 o) = 0 := by unfold y_isLocked tCh; rw [if_pos hx, if_pos rfl, if_pos hs, if_pos rfl]
    have e2 : z_tryOpen x_6 (g.1 o) = (-9999003, g.1 o, 0) := R_z (k := 3) (by unfold tOpen; rw [if_pos hx, if_pos hs]) (by decide)
    have e3 : z_tryBreak x_6 (g.1 o) = (-9999003, g.1 o, 0) := R_z (k := 3) (by unfold tBreak; rw [if_pos hx, if_neg (fun z => z.1 hs)]) (by decide)
    simp only [e1, e2, e3, z01, z10, hk, hk1, hg, gz_id, implies_true, ne_eq, eq_self, and_self, not_true_eq_false, not_false_eq_true, false_implies, true_implies, true_and, and_true, forall_eq, if_true, if_false, reduceIte]
    exact hN
  · have e1 : y_isLocked x_6 (g.1 o) = 1 := by unfold y_isLocked tCh; rw [if_pos hx, if_pos rfl, if_neg hs, if_neg (by decide)]
    have e2 : z_tryLock x_6 (g.1 o) = (-9999003, g.1 o, 0) := R_z (k := 3) (by unfold tLock; rw [if_pos hx, if_neg hs]) (by decide)
    simp only [e1, e2, z10, hk, hk1, hg, gz_id, implies_true, ne_eq, eq_self, and_self, not_true_eq_false, not_false_eq_true, false_implies, true_implies, true_and, and_true, forall_eq, if_true, if_false, reduceIte]
    exact hN
theorem R585 (hg : GI g) (hk : g.2 + 1 ≤ 2400) (hJ : JP (g.1 o)) {n : Nat} (hn : n < 2147483648) (hp : p1 = nI n) (hr : RF (g.1 o) y_1 y_2 y_3 y_4 y_5 x_6) (h : Q9 1 g) {y : Int32} (hy : ¬ (0 ≤ y ∧ y ≤ (g.1 o).1 117 - 1)) : w_L_refuses_J585 o p1 Q9 y_1 y_2 y_3 y_4 y_5 x_6 g y := by
  have hk1 : g.2 ≤ 2400 := Nat.le_of_succ_le hk
  have hN := R855 hg hk hJ hn hp hr.2.2.1 hr.2.2.2.1 hr.2.2.2.2.2 h
  have e0 : y_tryAt y (g.1 o) = -9999001 := R_y (k := 1) (by unfold tAt; rw [if_neg hy]) (by decide)
  unfold w_L_refuses_J585
  simp only [e0, rq2 hr, rq3 hr, rq4 hr, rq5 hr, rq6 hr, rq7 hr, rq8 hr, rq9 hr, rq10 hr, rq11 hr, rq12 hr, rq13 hr, rq14 hr, rq15 hr, rq16 hr, rq17 hr, rq18 hr, rq19 hr, hk, hk1, hg, gz_id, implies_true, ne_eq, eq_self, and_self, not_true_eq_false, not_false_eq_true, false_implies, true_implies, true_and, and_true, forall_eq, if_true, if_false, reduceIte]
  exact hN
theorem R561 (hg : GI g) (hk : g.2 + 1 ≤ 2400) (hJ : JP (g.1 o)) {n : Nat} (hn : n < 2147483648) (hp : p1 = nI n) (hr : RF (g.1 o) y_1 y_2 y_3 y_4 y_5 x_6) (h : Q9 1 g) : w_L_refuses_J561 o p1 Q9 y_1 y_2 y_3 y_4 y_5 x_6 1 g := by
  have hk1 : g.2 ≤ 2400 := Nat.le_of_succ_le hk
  have hI := hg.inv o
  have a1 := R585 hg hk hJ hn hp hr h (y := v_entries (g.1 o)) (fun z => by
    obtain ⟨r, hr1, hr2⟩ := (rng_ix hI.opn (by decide)).mp z
    have h3 : v_entries (g.1 o) = nI ((g.1 o).1 117).toNatClampNeg := hI.opn.1
    have h16 := hI.opn.2
    rw [h3] at hr2
    have := (nI_eq (by omega) (by omega)).mp hr2
    omega)
  have a2 := R585 hg hk hJ hn hp hr h (y := -1) (fun z => absurd z.1 (by decide))
  unfold w_L_refuses_J561
  simp only [z10, hk, hk1, hg, gz_id, implies_true, ne_eq, eq_self, and_self, not_true_eq_false, not_false_eq_true, false_implies, true_implies, true_and, and_true, forall_eq, if_true, if_false, reduceIte]
  exact ⟨fun _ => a1, fun _ => a2⟩
theorem R508 (hg : GI g) (hk : g.2 + 1 ≤ 2400) (hJ : JP (g.1 o)) {n : Nat} (hn : n < 2147483648) (hp : p1 = nI n) (hr : RF (g.1 o) y_1 y_2 y_3 y_4 y_5 x_6) (h : Q9 1 g) {y : Int32} (hy : ¬ (33 ≤ y ∧ y ≤ 126)) : w_L_refuses_J508 o p1 Q9 y_1 y_2 y_3 y_4 y_5 x_6 g y := by
  have hk1 : g.2 ≤ 2400 := Nat.le_of_succ_le hk
  have hN := R561 hg hk hJ hn hp hr h
  have h9 := Nat.mod_lt n (show 0 < 9 by decide)
  have hm : p1 - p1 / 9 * 9 = nI (n % 9) := by rw [hp]; exact rm_n hn (m := 9) (by decide) (by decide)
  have e1 : z_tryKeep (2 + nI (n % 9)) (g.1 o) = (-9999001, g.1 o, 0) := R_z (k := 1) (by
    unfold tSlot
    rw [if_neg (fun z => ?_)]
    have h2 := z.2
    rw [show (2 : Int32) + nI (n % 9) = nI (2 + n % 9) from nI_add 2 _, show (1 : Int32) = nI 1 from rfl, nI_leI (by omega) (by decide)] at h2
    omega) (by decide)
  have e2 : z_tryBack ((-1) - nI (n % 9)) (g.1 o) = (-9999001, g.1 o, 0) := R_z (k := 1) (by
    unfold tBack
    rw [if_neg (fun z => (nI_lt0 (by omega)).1 z.1)]) (by decide)
  unfold w_L_refuses_J508
  simp only [hm, hy, e1, e2, hk, hk1, hg, gz_id, implies_true, ne_eq, eq_self, and_self, not_true_eq_false, not_false_eq_true, false_implies, true_implies, true_and, and_true, forall_eq, if_true, if_false, reduceIte]
  exact hN
theorem R468 (hg : GI g) (hk : g.2 + 1 ≤ 2400) (hJ : JP (g.1 o)) {n : Nat} (hn : n < 2147483648) (hp : p1 = nI n) (hr : RF (g.1 o) y_1 y_2 y_3 y_4 y_5 x_6) (h : Q9 1 g) {y : Int32} (hy : y = 0 ∨ y = 101) : w_L_refuses_J468 o p1 Q9 y_1 y_2 y_3 y_4 y_5 x_6 g y := by
  have hk1 : g.2 ≤ 2400 := Nat.le_of_succ_le hk
  have a1 := R508 hg hk hJ hn hp hr h (y := 127) (by decide)
  have a2 := R508 hg hk hJ hn hp hr h (y := 32) (by decide)
  unfold w_L_refuses_J468
  rcases hy with rfl | rfl <;> simp only [rf17a hr, rf17b hr, hk, hk1, hg, gz_id, implies_true, ne_eq, eq_self, and_self, not_true_eq_false, not_false_eq_true, false_implies, true_implies, true_and, and_true, forall_eq, if_true, if_false, reduceIte] <;> exact ⟨fun _ => a1, fun _ => a2⟩
theorem R444 (hg : GI g) (hk : g.2 + 1 ≤ 2400) (hJ : JP (g.1 o)) {n : Nat} (hn : n < 2147483648) (hp : p1 = nI n) (hr : RF (g.1 o) y_1 y_2 y_3 y_4 y_5 x_6) (h : Q9 1 g) {y : Int32} (hy : y = -1 ∨ y = 81) : w_L_refuses_J444 o p1 Q9 y_1 y_2 y_3 y_4 y_5 x_6 g y := by
  have hk1 : g.2 ≤ 2400 := Nat.le_of_succ_le hk
  have a1 := R468 hg hk hJ hn hp hr h (y := 101) (Or.inr rfl)
  have a2 := R468 hg hk hJ hn hp hr h (y := 0) (Or.inl rfl)
  unfold w_L_refuses_J444
  rcases hy with rfl | rfl <;> simp only [rf20a hr, rf20b hr, hk, hk1, hg, gz_id, implies_true, ne_eq, eq_self, and_self, not_true_eq_false, not_false_eq_true, false_implies, true_implies, true_and, and_true, forall_eq, if_true, if_false, reduceIte] <;> exact ⟨fun _ => a1, fun _ => a2⟩
theorem R419 (hg : GI g) (hk : g.2 + 1 ≤ 2400) (hJ : JP (g.1 o)) {n : Nat} (hn : n < 2147483648) (hp : p1 = nI n) (hr : RF (g.1 o) y_1 y_2 y_3 y_4 y_5 x_6) (h : Q9 1 g) {y : Int32} (hy : y = -1 ∨ y = 61) : w_L_refuses_J419 o p1 Q9 y_1 y_2 y_3 y_4 y_5 x_6 g y := by
  have hk1 : g.2 ≤ 2400 := Nat.le_of_succ_le hk
  have a1 := R444 hg hk hJ hn hp hr h (y := 81) (Or.inr rfl)
  have a2 := R444 hg hk hJ hn hp hr h (y := -1) (Or.inl rfl)
  unfold w_L_refuses_J419
  rcases hy with rfl | rfl <;> simp only [rf19a hr, rf19b hr, hk, hk1, hg, gz_id, implies_true, ne_eq, eq_self, and_self, not_true_eq_false, not_false_eq_true, false_implies, true_implies, true_and, and_true, forall_eq, if_true, if_false, reduceIte] <;> exact ⟨fun _ => a1, fun _ => a2⟩
theorem R379 (hg : GI g) (hk : g.2 + 1 ≤ 2400) (hJ : JP (g.1 o)) {n : Nat} (hn : n < 2147483648) (hp : p1 = nI n) (hr : RF (g.1 o) y_1 y_2 y_3 y_4 y_5 x_6) (h : Q9 1 g) {y : Int32} (hy : y = -1 ∨ y = 50001) : w_L_refuses_J379 o p1 Q9 y_1 y_2 y_3 y_4 y_5 x_6 g y := by
  have hk1 : g.2 ≤ 2400 := Nat.le_of_succ_le hk
  have a1 := R419 hg hk hJ hn hp hr h (y := 61) (Or.inr rfl)
  have a2 := R419 hg hk hJ hn hp hr h (y := -1) (Or.inl rfl)
  unfold w_L_refuses_J379
  rcases hy with rfl | rfl <;> simp only [rf16a hr, rf16b hr, rf18 hr, hk, hk1, hg, gz_id, implies_true, ne_eq, eq_self, and_self, not_true_eq_false, not_false_eq_true, false_implies, true_implies, true_and, and_true, forall_eq, if_true, if_false, reduceIte] <;> exact ⟨fun _ => a1, fun _ => a2⟩
theorem R353 (hg : GI g) (hk : g.2 + 1 ≤ 2400) (hJ : JP (g.1 o)) {n : Nat} (hn : n < 2147483648) (hp : p1 = nI n) (hr : RF (g.1 o) y_1 y_2 y_3 y_4 y_5 x_6) (h : Q9 1 g) {y : Int32} (hy : y = 0 ∨ y = 10000) : w_L_refuses_J353 o p1 Q9 y_1 y_2 y_3 y_4 y_5 x_6 g y := by
  have hk1 : g.2 ≤ 2400 := Nat.le_of_succ_le hk
  have a1 := R379 hg hk hJ hn hp hr h (y := 50001) (Or.inr rfl)
  have a2 := R379 hg hk hJ hn hp hr h (y := -1) (Or.inl rfl)
  unfold w_L_refuses_J353
  rcases hy with rfl | rfl <;> simp only [rf15a hr, rf15b hr, hk, hk1, hg, gz_id, implies_true, ne_eq, eq_self, and_self, not_true_eq_false, not_false_eq_true, false_implies, true_implies, true_and, and_true, forall_eq, if_true, if_false, reduceIte] <;> exact ⟨fun _ => a1, fun _ => a2⟩
theorem R172 (hg : GI g) (hk : g.2 + 1 ≤ 2400) (hJ : JP (g.1 o)) {n : Nat} (hn : n < 2147483648) (hp : p1 = nI n) (hr : RF (g.1 o) y_1 y_2 y_3 y_4 y_5 x_6) (h : Q9 1 g) {y : Int32} (hy : y = 0 ∨ y = 10000) : w_L_refuses_J172 o p1 Q9 y_1 y_2 y_3 y_4 y_5 x_6 g y := by
  have hk1 : g.2 ≤ 2400 := Nat.le_of_succ_le hk
  have a1 := R353 hg hk hJ hn hp hr h (y := 10000) (Or.inr rfl)
  have a2 := R353 hg hk hJ hn hp hr h (y := 0) (Or.inl rfl)
  unfold w_L_refuses_J172
  rcases hy with rfl | rfl <;> simp only [rf3a hr, rf3b hr, rf4 hr, rf5 hr, rf6 hr, rf7 hr, rf8 hr, rf9 hr, rf10 hr, rf11 hr, rf12 hr, rf13 hr, rf14 hr, hk, hk1, hg, gz_id, implies_true, ne_eq, eq_self, and_self, not_true_eq_false, not_false_eq_true, false_implies, true_implies, true_and, and_true, forall_eq, if_true, if_false, reduceIte] <;> exact ⟨fun _ => a1, fun _ => a2⟩
theorem R120 (hg : GI g) (hk : g.2 + 1 ≤ 2400) (hJ : JP (g.1 o)) {n : Nat} (hn : n < 2147483648) (hp : p1 = nI n) (h1 : ¬ fiE (g.1 o).1 y_1 < mo (g.1 o).1) (h2 : ¬ (0 ≤ y_2 ∧ y_2 ≤ 5)) (h3 : ¬ (0 ≤ y_3 ∧ y_3 ≤ 4)) (h4 : ¬ (1 ≤ y_4 ∧ y_4 ≤ 999)) (h5 : ¬ (0 ≤ y_5 ∧ y_5 ≤ (g.1 o).1 68 - 1)) (h : Q9 1 g) : w_L_refuses_J120 o p1 g Q9 y_1 y_2 y_3 y_4 y_5 := by
  have hk1 : g.2 ≤ 2400 := Nat.le_of_succ_le hk
  have h9 := Nat.mod_lt n (show 0 < 5 by decide)
  have hm : p1 - p1 / 5 * 5 = nI (n % 5) := by rw [hp]; exact rm_n hn (m := 5) (by decide) (by decide)
  have hr : RF (g.1 o) y_1 y_2 y_3 y_4 y_5 (nI (n % 5)) := ⟨h1, h2, h3, h4, h5, nI_le (a := 0) (by omega) (by omega), nI_le (b := 4) (by omega) (by decide)⟩
  have a1 := R172 hg hk hJ hn hp hr h (y := 10000) (Or.inr rfl)
  have a2 := R172 hg hk hJ hn hp hr h (y := 0) (Or.inl rfl)
  unfold w_L_refuses_J120
  intro x_6 e6
  rw [hm] at e6
  subst e6
  simp only [rf1 hr, rf2 hr, hk, hk1, hg, gz_id, implies_true, ne_eq, eq_self, and_self, not_true_eq_false, not_false_eq_true, false_implies, true_implies, true_and, and_true, forall_eq, if_true, if_false, reduceIte]
  exact ⟨fun _ => a1, fun _ => a2⟩
theorem L_refuses (hg : GI g) (hk : g.2 + 1 ≤ 2400) (hJ : JP (g.1 o)) (hx : 0 ≤ p1) (h : Q9 1 g) : w_L_refuses o p1 g Q9 := by
  have hk1 : g.2 ≤ 2400 := Nat.le_of_succ_le hk
  obtain ⟨n, hn, hp⟩ := nn_of hx
  have hI := hg.inv o
  have m99 := Nat.mod_lt n (show 0 < 99 by decide)
  have m9 := Nat.mod_lt n (show 0 < 9 by decide)
  have e99 : p1 - p1 / 99 * 99 = nI (n % 99) := by rw [hp]; exact rm_n hn (m := 99) (by decide) (by decide)
  have e9 : p1 - p1 / 9 * 9 = nI (n % 9) := by rw [hp]; exact rm_n hn (m := 9) (by decide) (by decide)
  have big : ∀ b c, c < b → b < 2000 → ¬ (nI b + nI (n % 99) ≤ nI c) := fun b c hc hb z => by
    rw [nI_add, nI_leI (by omega) (by omega)] at z
    omega
  have n1 : ¬ fiE (g.1 o).1 ((-1) - nI (n % 99)) < mo (g.1 o).1 := no_find hJ.1.1 (fun m hm => (nI_lt0 (by omega)).2 m (by have := hI.m60; omega))
  have n2 : ¬ fiE (g.1 o).1 (v_entriesMade (g.1 o) + nI (n % 9)) < mo (g.1 o).1 := no_find hJ.1.1 (fun m hm z => by
    have h60 := hI.m60
    have hv : v_entriesMade (g.1 o) = nI ((g.1 o).1 1).toNatClampNeg := hI.made.1
    rw [hv, nI_add] at z
    have := (nI_eq (by omega) (by omega)).mp z
    omega)
  have p1' : ¬ (0 ≤ (-1 : Int32) - nI (n % 9) ∧ (-1 : Int32) - nI (n % 9) ≤ (g.1 o).1 68 - 1) := fun z => (nI_lt0 (by omega)).1 z.1
  have p2 : ¬ (0 ≤ v_receipts (g.1 o) + nI (n % 9) ∧ v_receipts (g.1 o) + nI (n % 9) ≤ (g.1 o).1 68 - 1) := fun z => by
    obtain ⟨r, hr1, hr2⟩ := (rng_ix hI.recs (by decide)).mp z
    have hv : v_receipts (g.1 o) = nI ((g.1 o).1 68).toNatClampNeg := hI.recs.1
    have h12 := hI.recs.2
    rw [hv, nI_add] at hr2
    have := (nI_eq (by omega) (by omega)).mp hr2
    omega
  have k1 : ¬ (0 ≤ (-1 : Int32) - nI (n % 99) ∧ (-1 : Int32) - nI (n % 99) ≤ 5) := fun z => (nI_lt0 (by omega)).1 z.1
  have k2 : ¬ (0 ≤ (6 : Int32) + nI (n % 99) ∧ (6 : Int32) + nI (n % 99) ≤ 5) := fun z => big 6 5 (by decide) (by decide) z.2
  have c1 : ¬ (0 ≤ (-1 : Int32) - nI (n % 99) ∧ (-1 : Int32) - nI (n % 99) ≤ 4) := fun z => (nI_lt0 (by omega)).1 z.1
  have c2 : ¬ (0 ≤ (5 : Int32) + nI (n % 99) ∧ (5 : Int32) + nI (n % 99) ≤ 4) := fun z => big 5 4 (by decide) (by decide) z.2
  have o1 : ¬ (1 ≤ (0 : Int32) - nI (n % 99) ∧ (0 : Int32) - nI (n % 99) ≤ 999) := fun z => nI_le0 (by omega) z.1
  have o2 : ¬ (1 ≤ (1000 : Int32) + nI (n % 99) ∧ (1000 : Int32) + nI (n % 99) ≤ 999) := fun z => big 1000 999 (by decide) (by decide) z.2
  have s94 : ∀ y1 y2 y3 y4, ¬ fiE (g.1 o).1 y1 < mo (g.1 o).1 → ¬ (0 ≤ y2 ∧ y2 ≤ 5) → ¬ (0 ≤ y3 ∧ y3 ≤ 4) → ¬ (1 ≤ y4 ∧ y4 ≤ 999) → w_L_refuses_J94 o p1 g Q9 y1 y2 y3 y4 := fun y1 y2 y3 y4 h1 h2 h3 h4 => by
    unfold w_L_refuses_J94
    rw [e9]
    exact ⟨fun _ => ⟨hk1, fun r hr => by rw [hr]; exact R120 hg hk hJ hn hp h1 h2 h3 h4 p2 h⟩, fun _ => R120 hg hk hJ hn hp h1 h2 h3 h4 p1' h⟩
  have s69 : ∀ y1 y2 y3, ¬ fiE (g.1 o).1 y1 < mo (g.1 o).1 → ¬ (0 ≤ y2 ∧ y2 ≤ 5) → ¬ (0 ≤ y3 ∧ y3 ≤ 4) → w_L_refuses_J69 o p1 g Q9 y1 y2 y3 := fun y1 y2 y3 h1 h2 h3 => by
    unfold w_L_refuses_J69
    rw [e99]
    exact ⟨fun _ => s94 _ _ _ _ h1 h2 h3 o2, fun _ => s94 _ _ _ _ h1 h2 h3 o1⟩
  have s47 : ∀ y1 y2, ¬ fiE (g.1 o).1 y1 < mo (g.1 o).1 → ¬ (0 ≤ y2 ∧ y2 ≤ 5) → w_L_refuses_J47 o p1 g Q9 y1 y2 := fun y1 y2 h1 h2 => by
    unfold w_L_refuses_J47
    rw [e99]
    exact ⟨fun _ => s69 _ _ _ h1 h2 c2, fun _ => s69 _ _ _ h1 h2 c1⟩
  have s24 : ∀ y1, ¬ fiE (g.1 o).1 y1 < mo (g.1 o).1 → w_L_refuses_J24 o p1 g Q9 y1 := fun y1 h1 => by
    unfold w_L_refuses_J24
    rw [e99]
    exact ⟨fun _ => s47 _ _ h1 k2, fun _ => s47 _ _ h1 k1⟩
  unfold w_L_refuses
  rw [e99, e9]
  exact ⟨fun _ => ⟨hk1, fun r hr => by rw [hr]; exact s24 _ n2⟩, fun _ => s24 _ n1⟩
end LREF2
