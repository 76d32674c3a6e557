theorem dX10_drawnBack_0 : decode cX10_drawnBack 0 = .ok (.aload_n 0, 1) := by decide +kernel
theorem dX10_drawnBack_1 : decode cX10_drawnBack 1 = .ok (.iload_n 1, 1) := by decide +kernel
theorem dX10_drawnBack_2 : decode cX10_drawnBack 2 = .ok (.iconst 5, 1) := by decide +kernel
theorem dX10_drawnBack_3 : decode cX10_drawnBack 3 = .ok (.invokevirtual 242, 3) := by decide +kernel
theorem dX10_drawnBack_6 : decode cX10_drawnBack 6 = .ok (.ireturn, 1) := by decide +kernel
def w_X10_drawnBack (p0 : Int32) (mm : Mm) (Q9 : Int32 → Mm → Prop) : Prop :=
  w_X10_totalOf p0 5 mm (fun (r_1 : Int32) (m_2 : Mm) => Q9 r_1 m_2)
def rm_X10_drawnBack : Room := { frames := 3, cells := 0, slots := 0, locals := 67 }
theorem hy_X10_drawnBack : yX10_drawnBack.cls = RX10 ∧ yX10_drawnBack.cls ≠ "java/lang/invoke/MethodHandle" ∧ yX10_drawnBack.cls ≠ "java/lang/invoke/VarHandle" ∧ (parseMethodDescriptor yX10_drawnBack.desc).map (fun d => d.parameters.length) = some 1 := by decide +kernel
set_option maxRecDepth 100000 in
set_option maxHeartbeats 4000000 in
theorem c_X10_drawnBack {l : Launch} {D : va_G} {cA : Nat → ClassId} {ad : Nat → Nat → Nat} {A : Nat → Prop} (ax : Ax ad GM A) (p0 : Int32) (mm : Mm) (Q9 : Int32 → Mm → Prop) (h : w_X10_drawnBack p0 mm Q9) : Met l yX10_drawnBack (.code yX10_drawnBack cX10_drawnBack 2 (some .int) :: TG) rm_X10_drawnBack (PcM TT D cA ad false GM (ZM) [.ref (ad 30 1), .int p0] mm) (AnsI TT D cA ad false GM A Q9) 0 0 A := by
  have zo := ZM_ok A
  unfold w_X10_drawnBack at h
  refine enterI pl_X10 ⟨rfl, rfl⟩ rfl (Nat.le_of_ble_eq_true rfl) ?_
  intro p e s m args below meth c QQ X hK hZ hnm hE
  refine q_aload_n (j := 0) X dX10_drawnBack_0 rfl rfl ?_
  refine q_iload_n (j := 1) X dX10_drawnBack_1 rfl rfl ?_
  refine q_iconst (v := 5) X dX10_drawnBack_2 (by decide) ?_
  refine q_calli (q_runV X hK hZ zo (gm (t := 30) (by decide) (ok1 (t := 30) (Nat.le_of_ble_eq_true rfl))) rfl rfl [.int p0, .int 5] [] rfl rfl (Nat.le_of_ble_eq_true rfl) dX10_drawnBack_3 ⟨Nat.le_of_ble_eq_true rfl, Nat.le_of_ble_eq_true rfl⟩ (c_X10_totalOf ax p0 5 mm _ h) rfl rfl (gV kw_9_34 kw_9_36 ks_135 kw_1_11 kw_9_37) hy_X10_totalOf ⟨Nat.le_of_ble_eq_true rfl, Nat.le_of_ble_eq_true rfl⟩) (fun r_1 m_2 h => ?_)
  exact hE _ _ _ _ dX10_drawnBack_6 h
theorem dX10_stock_0 : decode cX10_stock 0 = .ok (.iconst 0, 1) := by decide +kernel
theorem dX10_stock_1 : decode cX10_stock 1 = .ok (.istore_n 2, 1) := by decide +kernel
theorem dX10_stock_2 : decode cX10_stock 2 = .ok (.iconst 0, 1) := by decide +kernel
theorem dX10_stock_3 : decode cX10_stock 3 = .ok (.istore_n 3, 1) := by decide +kernel
theorem dX10_stock_4 : decode cX10_stock 4 = .ok (.iload_n 3, 1) := by decide +kernel
theorem dX10_stock_5 : decode cX10_stock 5 = .ok (.aload_n 0, 1) := by decide +kernel
theorem dX10_stock_6 : decode cX10_stock 6 = .ok (.getfield 13, 3) := by decide +kernel
theorem dX10_stock_9 : decode cX10_stock 9 = .ok (.bipush 117, 2) := by decide +kernel
theorem dX10_stock_11 : decode cX10_stock 11 = .ok (.iaload, 1) := by decide +kernel
theorem dX10_stock_12 : decode cX10_stock 12 = .ok (.if_icmp .ge 32, 3) := by decide +kernel
theorem dX10_stock_15 : decode cX10_stock 15 = .ok (.iload_n 2, 1) := by decide +kernel
theorem dX10_stock_16 : decode cX10_stock 16 = .ok (.aload_n 0, 1) := by decide +kernel
theorem dX10_stock_17 : decode cX10_stock 17 = .ok (.iload_n 3, 1) := by decide +kernel
theorem dX10_stock_18 : decode cX10_stock 18 = .ok (.iconst 1, 1) := by decide +kernel
theorem dX10_stock_19 : decode cX10_stock 19 = .ok (.invokevirtual 41, 3) := by decide +kernel
theorem dX10_stock_22 : decode cX10_stock 22 = .ok (.iload_n 1, 1) := by decide +kernel
theorem dX10_stock_23 : decode cX10_stock 23 = .ok (.if_icmp .ne 12, 3) := by decide +kernel
theorem dX10_stock_26 : decode cX10_stock 26 = .ok (.aload_n 0, 1) := by decide +kernel
theorem dX10_stock_27 : decode cX10_stock 27 = .ok (.iload_n 3, 1) := by decide +kernel
theorem dX10_stock_28 : decode cX10_stock 28 = .ok (.iconst 2, 1) := by decide +kernel
theorem dX10_stock_29 : decode cX10_stock 29 = .ok (.invokevirtual 41, 3) := by decide +kernel
theorem dX10_stock_32 : decode cX10_stock 32 = .ok (.goto 4, 3) := by decide +kernel
theorem dX10_stock_35 : decode cX10_stock 35 = .ok (.iconst 0, 1) := by decide +kernel
theorem dX10_stock_36 : decode cX10_stock 36 = .ok (.iadd, 1) := by decide +kernel
theorem dX10_stock_37 : decode cX10_stock 37 = .ok (.istore_n 2, 1) := by decide +kernel
theorem dX10_stock_38 : decode cX10_stock 38 = .ok (.iinc 3 1, 3) := by decide +kernel
theorem dX10_stock_41 : decode cX10_stock 41 = .ok (.goto (-37), 3) := by decide +kernel
theorem dX10_stock_44 : decode cX10_stock 44 = .ok (.iload_n 2, 1) := by decide +kernel
theorem dX10_stock_45 : decode cX10_stock 45 = .ok (.ireturn, 1) := by decide +kernel
def w_X10_stock_B4 (p0 : Int32) (mm : Mm) (Q9 : Int32 → Prop) (K_3 : Int32 → Int32 → Prop) (y_1 : Int32) (y_2 : Int32) : Prop :=
  (((mm.1 32 1 117) ≤ y_2 → Q9 y_1) ∧
  (¬ (mm.1 32 1 117) ≤ y_2 → w_X10_of y_2 1 mm (fun (r_6 : Int32) => ((¬ r_6 = p0 → ∀ x_9 : Int32, x_9 = (y_1 + 0) → (∀ x_10 : Int32, x_10 = y_2 + 1 → (K_3 x_9 x_10))) ∧
  (r_6 = p0 → w_X10_of y_2 2 mm (fun (r_11 : Int32) => ∀ x_13 : Int32, x_13 = (y_1 + r_11) → (∀ x_14 : Int32, x_14 = y_2 + 1 → (K_3 x_13 x_14))))))))
def w_X10_stock (p0 : Int32) (mm : Mm) (Q9 : Int32 → Prop) : Prop :=
  ∃ n, itr (α := Int32 × Int32) (fun K a => w_X10_stock_B4 p0 mm Q9 (fun z0 z1 => K (z0, z1)) a.1 a.2) n (0, 0)
def rm_X10_stock : Room := { frames := 1, cells := 0, slots := 0, locals := 22 }
theorem hy_X10_stock : yX10_stock.cls = RX10 ∧ yX10_stock.cls ≠ "java/lang/invoke/MethodHandle" ∧ yX10_stock.cls ≠ "java/lang/invoke/VarHandle" ∧ (parseMethodDescriptor yX10_stock.desc).map (fun d => d.parameters.length) = some 1 := by decide +kernel
set_option maxRecDepth 100000 in
set_option maxHeartbeats 4000000 in
theorem c_X10_stock {l : Launch} {D : va_G} {cA : Nat → ClassId} {ad : Nat → Nat → Nat} {A : Nat → Prop} (ax : Ax ad GM A) (p0 : Int32) (mm : Mm) (Q9 : Int32 → Prop) (h : w_X10_stock p0 mm Q9) : Met l yX10_stock (.code yX10_stock cX10_stock 4 (some .int) :: TG) rm_X10_stock (PcM TT D cA ad false GM (ZM) [.ref (ad 30 1), .int p0] mm) (AnsI TT D cA ad false GM A (fun r mm' => Q9 r ∧ mm = mm')) 0 0 A := by
  have zo := ZM_ok A
  unfold w_X10_stock at h
  refine enterI pl_X10 ⟨rfl, rfl⟩ rfl (Nat.le_of_ble_eq_true rfl) ?_
  intro p e s m args below meth c QQ X hK hZ hnm hE
  refine q_iconst (v := 0) X dX10_stock_0 (by decide) ?_
  refine q_istore_n (lv' := [(2, .int 0), (0, .ref (ad 30 1)), (1, .int p0)]) X dX10_stock_1 rfl (by decide) rfl ?_
  refine q_iconst (v := 0) X dX10_stock_2 (by decide) ?_
  refine q_istore_n (lv' := [(3, .int 0), (2, .int 0), (0, .ref (ad 30 1)), (1, .int p0)]) X dX10_stock_3 rfl (by decide) rfl ?_
  refine q_sub [2, 3, 1, 0] rfl ?_
  have L4 : ∀ (n : Nat) (y_1 : Int32) (y_2 : Int32), itr (α := Int32 × Int32) (fun K a => w_X10_stock_B4 p0 mm Q9 (fun z0 z1 => K (z0, z1)) a.1 a.2) n (y_1, y_2) → V p l e rm_X10_stock s m args below meth c QQ 4 A 0 0 (Rep TT D cA ad false GM mm) 4 [(0, .ref (ad 30 1)), (1, .int p0), (2, .int y_1), (3, .int y_2)] [] := by
    intro n
    induction n with
    | zero => intro y_1 y_2 h; exact h.elim
    | succ n ih_4 =>
      intro y_1 y_2 h
      have h : w_X10_stock_B4 p0 mm Q9 (fun z0 z1 => itr (α := Int32 × Int32) (fun K a => w_X10_stock_B4 p0 mm Q9 (fun z0 z1 => K (z0, z1)) a.1 a.2) n (z0, z1)) y_1 y_2 := h
      unfold w_X10_stock_B4 at h
      refine q_iload_n (j := 3) X dX10_stock_4 rfl rfl ?_
      refine q_aload_n (j := 0) X dX10_stock_5 rfl rfl ?_
      refine q_get (k := 3) (v := .ref (ad 32 1)) X hK rfl rfl (Nat.le_of_ble_eq_true rfl) inTX10 (gm (t := 30) (by decide) (ok1 (t := 30) (Nat.le_of_ble_eq_true rfl))) kw_7_10 rfl (rv_nn (a := ad 32) (r := 1) (ok1 (t := 32) (Nat.le_of_ble_eq_true rfl)).1) dX10_stock_6 ?_
      refine q_bipush (v := 117) X dX10_stock_9 (by decide) ?_
      refine q_iald (t := 32) (i := 1) (jn := 117) (v := .int (mm.1 32 1 117)) X hK rfl rfl (gm (t := 32) (by decide) (ok1 (t := 32) (Nat.le_of_ble_eq_true rfl))) rfl (vpl (by decide +kernel)) (by decide +kernel) rfl dX10_stock_11 ?_
      refine q_icmp_ge (tgt := 44) X dX10_stock_12 (by decide) (fun c_5 => ?_) (fun c_5 => ?_)
      · have h := h.1 c_5
        refine q_iload_n (j := 2) X dX10_stock_44 rfl rfl ?_
        exact hE _ _ _ _ dX10_stock_45 ⟨h, rfl⟩
      · have h := h.2 c_5
        refine q_iload_n (j := 2) X dX10_stock_15 rfl rfl ?_
        refine q_aload_n (j := 0) X dX10_stock_16 rfl rfl ?_
        refine q_iload_n (j := 3) X dX10_stock_17 rfl rfl ?_
        refine q_iconst (v := 1) X dX10_stock_18 (by decide) ?_
        refine q_calli (q_runV X hK hZ zo (gm (t := 30) (by decide) (ok1 (t := 30) (Nat.le_of_ble_eq_true rfl))) rfl rfl [.int y_2, .int 1] [.int y_1] rfl rfl (Nat.le_of_ble_eq_true rfl) dX10_stock_19 ⟨Nat.le_of_ble_eq_true rfl, Nat.le_of_ble_eq_true rfl⟩ (c_X10_of ax y_2 1 mm _ h) rfl rfl (gV kw_7_95 kw_7_97 ks_88 kw_1_11 kw_7_98) hy_X10_of ⟨Nat.le_of_ble_eq_true rfl, Nat.le_of_ble_eq_true rfl⟩) (fun r_6 m_7 h => ?_)
        obtain ⟨h, hm⟩ := h
        subst hm
        refine q_iload_n (j := 1) X dX10_stock_22 rfl rfl ?_
        refine q_icmp_ne (tgt := 35) X dX10_stock_23 (by decide) (fun c_8 => ?_) (fun c_8 => ?_)
        · have h := h.1 c_8
          refine q_iconst (v := 0) X dX10_stock_35 (by decide) ?_
          refine q_iadd X dX10_stock_36 ?_
          refine q_topi (fun x_9 ex_9 => ?_)
          have h := h x_9 ex_9
          refine q_istore_n (lv' := [(2, .int x_9), (0, .ref (ad 30 1)), (1, .int p0), (3, .int y_2)]) X dX10_stock_37 rfl (by decide) rfl ?_
          obtain ⟨x_10, ex_10⟩ : ∃ z : Int32, z = y_2 + 1 := ⟨_, rfl⟩
          have h := h x_10 ex_10
          refine q_iinc (j := 3) (v := x_10) (lv' := [(3, .int x_10), (2, .int x_9), (0, .ref (ad 30 1)), (1, .int p0)]) X dX10_stock_38 rfl (by rw [ex_10]; rfl) (by decide) rfl ?_
          refine q_goto (tgt := 4) X dX10_stock_41 (by decide) ?_
          refine q_sub [2, 3, 1, 0] rfl ?_
          exact ih_4 x_9 x_10 h
        · have h := h.2 c_8
          refine q_aload_n (j := 0) X dX10_stock_26 rfl rfl ?_
          refine q_iload_n (j := 3) X dX10_stock_27 rfl rfl ?_
          refine q_iconst (v := 2) X dX10_stock_28 (by decide) ?_
          refine q_calli (q_runV X hK hZ zo (gm (t := 30) (by decide) (ok1 (t := 30) (Nat.le_of_ble_eq_true rfl))) rfl rfl [.int y_2, .int 2] [.int y_1] rfl rfl (Nat.le_of_ble_eq_true rfl) dX10_stock_29 ⟨Nat.le_of_ble_eq_true rfl, Nat.le_of_ble_eq_true rfl⟩ (c_X10_of ax y_2 2 mm _ h) rfl rfl (gV kw_7_95 kw_7_97 ks_88 kw_1_11 kw_7_98) hy_X10_of ⟨Nat.le_of_ble_eq_true rfl, Nat.le_of_ble_eq_true rfl⟩) (fun r_11 m_12 h => ?_)
          obtain ⟨h, hm⟩ := h
          subst hm
          refine q_goto (tgt := 36) X dX10_stock_32 (by decide) ?_
          refine q_iadd X dX10_stock_36 ?_
          refine q_topi (fun x_13 ex_13 => ?_)
          have h := h x_13 ex_13
          refine q_istore_n (lv' := [(2, .int x_13), (0, .ref (ad 30 1)), (1, .int p0), (3, .int y_2)]) X dX10_stock_37 rfl (by decide) rfl ?_
          obtain ⟨x_14, ex_14⟩ : ∃ z : Int32, z = y_2 + 1 := ⟨_, rfl⟩
          have h := h x_14 ex_14
          refine q_iinc (j := 3) (v := x_14) (lv' := [(3, .int x_14), (2, .int x_13), (0, .ref (ad 30 1)), (1, .int p0)]) X dX10_stock_38 rfl (by rw [ex_14]; rfl) (by decide) rfl ?_
          refine q_goto (tgt := 4) X dX10_stock_41 (by decide) ?_
          refine q_sub [2, 3, 1, 0] rfl ?_
          exact ih_4 x_13 x_14 h
  obtain ⟨n_15, h⟩ := h
  exact L4 n_15 0 0 h
theorem dX10_stockByEntries_0 : decode cX10_stockByEntries 0 = .ok (.aload_n 0, 1) := by decide +kernel
theorem dX10_stockByEntries_1 : decode cX10_stockByEntries 1 = .ok (.iload_n 1, 1) := by decide +kernel
theorem dX10_stockByEntries_2 : decode cX10_stockByEntries 2 = .ok (.invokestatic 129, 3) := by decide +kernel
theorem dX10_stockByEntries_5 : decode cX10_stockByEntries 5 = .ok (.ifCond .eq 7, 3) := by decide +kernel
theorem dX10_stockByEntries_8 : decode cX10_stockByEntries 8 = .ok (.iconst 0, 1) := by decide +kernel
theorem dX10_stockByEntries_9 : decode cX10_stockByEntries 9 = .ok (.goto 4, 3) := by decide +kernel
theorem dX10_stockByEntries_12 : decode cX10_stockByEntries 12 = .ok (.iconst 1, 1) := by decide +kernel
theorem dX10_stockByEntries_13 : decode cX10_stockByEntries 13 = .ok (.invokevirtual 147, 3) := by decide +kernel
theorem dX10_stockByEntries_16 : decode cX10_stockByEntries 16 = .ok (.ifCond .eq 7, 3) := by decide +kernel
theorem dX10_stockByEntries_19 : decode cX10_stockByEntries 19 = .ok (.iconst 0, 1) := by decide +kernel
theorem dX10_stockByEntries_20 : decode cX10_stockByEntries 20 = .ok (.goto 8, 3) := by decide +kernel
theorem dX10_stockByEntries_23 : decode cX10_stockByEntries 23 = .ok (.aload_n 0, 1) := by decide +kernel
theorem dX10_stockByEntries_24 : decode cX10_stockByEntries 24 = .ok (.iload_n 1, 1) := by decide +kernel
theorem dX10_stockByEntries_25 : decode cX10_stockByEntries 25 = .ok (.invokevirtual 245, 3) := by decide +kernel
theorem dX10_stockByEntries_28 : decode cX10_stockByEntries 28 = .ok (.ireturn, 1) := by decide +kernel
def w_X10_stockByEntries (p0 : Int32) (mm : Mm) (Q9 : Int32 → Mm → Prop) : Prop :=
  w_X10_isKind p0 mm (fun (r_1 : Int32) => ((r_1 = 0 → w_X10_refused 1 mm (fun (r_4 : Int32) (m_5 : Mm) => ((r_4 = 0 → w_X10_stock p0 m_5 (fun (r_7 : Int32) => Q9 r_7 m_5)) ∧
  (¬ r_4 = 0 → Q9 0 m_5)))) ∧
  (¬ r_1 = 0 → w_X10_refused 0 mm (fun (r_9 : Int32) (m_10 : Mm) => ((r_9 = 0 → w_X10_stock p0 m_10 (fun (r_12 : Int32) => Q9 r_12 m_10)) ∧
  (¬ r_9 = 0 → Q9 0 m_10))))))
def rm_X10_stockByEntries : Room := { frames := 2, cells := 0, slots := 0, locals := 45 }
theorem hy_X10_stockByEntries : yX10_stockByEntries.cls = RX10 ∧ yX10_stockByEntries.cls ≠ "java/lang/invoke/MethodHandle" ∧ yX10_stockByEntries.cls ≠ "java/lang/invoke/VarHandle" ∧ (parseMethodDescriptor yX10_stockByEntries.desc).map (fun d => d.parameters.length) = some 1 := by decide +kernel
set_option maxRecDepth 100000 in
set_option maxHeartbeats 4000000 in
theorem c_X10_stockByEntries {l : Launch} {D : va_G} {cA : Nat → ClassId} {ad : Nat → Nat → Nat} {A : Nat → Prop} (ax : Ax ad GM A) (p0 : Int32) (mm : Mm) (Q9 : Int32 → Mm → Prop) (h : w_X10_stockByEntries p0 mm Q9) : Met l yX10_stockByEntries (.code yX10_stockByEntries cX10_stockByEntries 2 (some .int) :: TG) rm_X10_stockByEntries (PcM TT D cA ad false GM (ZM) [.ref (ad 30 1), .int p0] mm) (AnsI TT D cA ad false GM A Q9) 0 0 A := by
  have zo := ZM_ok A
  unfold w_X10_stockByEntries at h
  refine enterI pl_X10 ⟨rfl, rfl⟩ rfl (Nat.le_of_ble_eq_true rfl) ?_
  intro p e s m args below meth c QQ X hK hZ hnm hE
  refine q_aload_n (j := 0) X dX10_stockByEntries_0 rfl rfl ?_
  refine q_iload_n (j := 1) X dX10_stockByEntries_1 rfl rfl ?_
  refine q_calli (q_runS X hK hZ zo [.int p0] [.ref (ad 30 1)] rfl rfl (Nat.le_of_ble_eq_true rfl) dX10_stockByEntries_2 ⟨Nat.le_of_ble_eq_true rfl, Nat.le_of_ble_eq_true rfl⟩ (c_X10_isKind ax p0 mm _ h) rfl rfl (gS kw_7_67 kw_7_68 kw_1_11 kw_7_69) hy_X10_isKind.2 ⟨Nat.le_of_ble_eq_true rfl, Nat.le_of_ble_eq_true rfl⟩) (fun r_1 m_2 h => ?_)
  obtain ⟨h, hm⟩ := h
  subst hm
  refine q_if_eq (tgt := 12) X dX10_stockByEntries_5 (by decide) (fun c_3 => ?_) (fun c_3 => ?_)
  · have h := h.1 c_3
    refine q_iconst (v := 1) X dX10_stockByEntries_12 (by decide) ?_
    refine q_calli (q_runV X hK hZ zo (gm (t := 30) (by decide) (ok1 (t := 30) (Nat.le_of_ble_eq_true rfl))) rfl rfl [.int 1] [] rfl rfl (Nat.le_of_ble_eq_true rfl) dX10_stockByEntries_13 ⟨Nat.le_of_ble_eq_true rfl, Nat.le_of_ble_eq_true rfl⟩ (c_X10_refused ax 1 mm _ h) rfl rfl (gV kw_7_126 kw_7_128 ks_95 kw_1_11 kw_7_129) hy_X10_refused ⟨Nat.le_of_ble_eq_true rfl, Nat.le_of_ble_eq_true rfl⟩) (fun r_4 m_5 h => ?_)
    refine q_if_eq (tgt := 23) X dX10_stockByEntries_16 (by decide) (fun c_6 => ?_) (fun c_6 => ?_)
    · have h := h.1 c_6
      refine q_aload_n (j := 0) X dX10_stockByEntries_23 rfl rfl ?_
      refine q_iload_n (j := 1) X dX10_stockByEntries_24 rfl rfl ?_
      refine q_calli (q_runV X hK hZ zo (gm (t := 30) (by decide) (ok1 (t := 30) (Nat.le_of_ble_eq_true rfl))) rfl rfl [.int p0] [] rfl rfl (Nat.le_of_ble_eq_true rfl) dX10_stockByEntries_25 ⟨Nat.le_of_ble_eq_true rfl, Nat.le_of_ble_eq_true rfl⟩ (c_X10_stock ax p0 m_5 _ h) rfl rfl (gV kw_9_62 kw_9_64 ks_136 kw_1_11 kw_9_65) hy_X10_stock ⟨Nat.le_of_ble_eq_true rfl, Nat.le_of_ble_eq_true rfl⟩) (fun r_7 m_8 h => ?_)
      obtain ⟨h, hm⟩ := h
      subst hm
      exact hE _ _ _ _ dX10_stockByEntries_28 h
    · have h := h.2 c_6
      refine q_iconst (v := 0) X dX10_stockByEntries_19 (by decide) ?_
      refine q_goto (tgt := 28) X dX10_stockByEntries_20 (by decide) ?_
      exact hE _ _ _ _ dX10_stockByEntries_28 h
  · have h := h.2 c_3
    refine q_iconst (v := 0) X dX10_stockByEntries_8 (by decide) ?_
    refine q_goto (tgt := 13) X dX10_stockByEntries_9 (by decide) ?_
    refine q_calli (q_runV X hK hZ zo (gm (t := 30) (by decide) (ok1 (t := 30) (Nat.le_of_ble_eq_true rfl))) rfl rfl [.int 0] [] rfl rfl (Nat.le_of_ble_eq_true rfl) dX10_stockByEntries_13 ⟨Nat.le_of_ble_eq_true rfl, Nat.le_of_ble_eq_true rfl⟩ (c_X10_refused ax 0 mm _ h) rfl rfl (gV kw_7_126 kw_7_128 ks_95 kw_1_11 kw_7_129) hy_X10_refused ⟨Nat.le_of_ble_eq_true rfl, Nat.le_of_ble_eq_true rfl⟩) (fun r_9 m_10 h => ?_)
    refine q_if_eq (tgt := 23) X dX10_stockByEntries_16 (by decide) (fun c_11 => ?_) (fun c_11 => ?_)
    · have h := h.1 c_11
      refine q_aload_n (j := 0) X dX10_stockByEntries_23 rfl rfl ?_
      refine q_iload_n (j := 1) X dX10_stockByEntries_24 rfl rfl ?_
      refine q_calli (q_runV X hK hZ zo (gm (t := 30) (by decide) (ok1 (t := 30) (Nat.le_of_ble_eq_true rfl))) rfl rfl [.int p0] [] rfl rfl (Nat.le_of_ble_eq_true rfl) dX10_stockByEntries_25 ⟨Nat.le_of_ble_eq_true rfl, Nat.le_of_ble_eq_true rfl⟩ (c_X10_stock ax p0 m_10 _ h) rfl rfl (gV kw_9_62 kw_9_64 ks_136 kw_1_11 kw_9_65) hy_X10_stock ⟨Nat.le_of_ble_eq_true rfl, Nat.le_of_ble_eq_true rfl⟩) (fun r_12 m_13 h => ?_)
      obtain ⟨h, hm⟩ := h
      subst hm
      exact hE _ _ _ _ dX10_stockByEntries_28 h
    · have h := h.2 c_11
      refine q_iconst (v := 0) X dX10_stockByEntries_19 (by decide) ?_
      refine q_goto (tgt := 28) X dX10_stockByEntries_20 (by decide) ?_
      exact hE _ _ _ _ dX10_stockByEntries_28 h
theorem dX10_stockByTotals_0 : decode cX10_stockByTotals 0 = .ok (.aload_n 0, 1) := by decide +kernel
theorem dX10_stockByTotals_1 : decode cX10_stockByTotals 1 = .ok (.iload_n 1, 1) := by decide +kernel
theorem dX10_stockByTotals_2 : decode cX10_stockByTotals 2 = .ok (.invokestatic 129, 3) := by decide +kernel
theorem dX10_stockByTotals_5 : decode cX10_stockByTotals 5 = .ok (.ifCond .eq 7, 3) := by decide +kernel
theorem dX10_stockByTotals_8 : decode cX10_stockByTotals 8 = .ok (.iconst 0, 1) := by decide +kernel
theorem dX10_stockByTotals_9 : decode cX10_stockByTotals 9 = .ok (.goto 4, 3) := by decide +kernel
theorem dX10_stockByTotals_12 : decode cX10_stockByTotals 12 = .ok (.iconst 1, 1) := by decide +kernel
theorem dX10_stockByTotals_13 : decode cX10_stockByTotals 13 = .ok (.invokevirtual 147, 3) := by decide +kernel
theorem dX10_stockByTotals_16 : decode cX10_stockByTotals 16 = .ok (.ifCond .eq 5, 3) := by decide +kernel
theorem dX10_stockByTotals_19 : decode cX10_stockByTotals 19 = .ok (.iconst 0, 1) := by decide +kernel
theorem dX10_stockByTotals_20 : decode cX10_stockByTotals 20 = .ok (.ireturn, 1) := by decide +kernel
theorem dX10_stockByTotals_21 : decode cX10_stockByTotals 21 = .ok (.bipush 32, 2) := by decide +kernel
theorem dX10_stockByTotals_23 : decode cX10_stockByTotals 23 = .ok (.bipush 6, 2) := by decide +kernel
theorem dX10_stockByTotals_25 : decode cX10_stockByTotals 25 = .ok (.iload_n 1, 1) := by decide +kernel
theorem dX10_stockByTotals_26 : decode cX10_stockByTotals 26 = .ok (.imul, 1) := by decide +kernel
theorem dX10_stockByTotals_27 : decode cX10_stockByTotals 27 = .ok (.iadd, 1) := by decide +kernel
theorem dX10_stockByTotals_28 : decode cX10_stockByTotals 28 = .ok (.istore_n 2, 1) := by decide +kernel
theorem dX10_stockByTotals_29 : decode cX10_stockByTotals 29 = .ok (.aload_n 0, 1) := by decide +kernel
theorem dX10_stockByTotals_30 : decode cX10_stockByTotals 30 = .ok (.getfield 13, 3) := by decide +kernel
theorem dX10_stockByTotals_33 : decode cX10_stockByTotals 33 = .ok (.iload_n 2, 1) := by decide +kernel
theorem dX10_stockByTotals_34 : decode cX10_stockByTotals 34 = .ok (.iconst 0, 1) := by decide +kernel
theorem dX10_stockByTotals_35 : decode cX10_stockByTotals 35 = .ok (.iadd, 1) := by decide +kernel
theorem dX10_stockByTotals_36 : decode cX10_stockByTotals 36 = .ok (.iaload, 1) := by decide +kernel
theorem dX10_stockByTotals_37 : decode cX10_stockByTotals 37 = .ok (.aload_n 0, 1) := by decide +kernel
theorem dX10_stockByTotals_38 : decode cX10_stockByTotals 38 = .ok (.getfield 13, 3) := by decide +kernel
theorem dX10_stockByTotals_41 : decode cX10_stockByTotals 41 = .ok (.iload_n 2, 1) := by decide +kernel
theorem dX10_stockByTotals_42 : decode cX10_stockByTotals 42 = .ok (.iconst 1, 1) := by decide +kernel
theorem dX10_stockByTotals_43 : decode cX10_stockByTotals 43 = .ok (.iadd, 1) := by decide +kernel
theorem dX10_stockByTotals_44 : decode cX10_stockByTotals 44 = .ok (.iaload, 1) := by decide +kernel
theorem dX10_stockByTotals_45 : decode cX10_stockByTotals 45 = .ok (.isub, 1) := by decide +kernel
theorem dX10_stockByTotals_46 : decode cX10_stockByTotals 46 = .ok (.aload_n 0, 1) := by decide +kernel
theorem dX10_stockByTotals_47 : decode cX10_stockByTotals 47 = .ok (.getfield 13, 3) := by decide +kernel
theorem dX10_stockByTotals_50 : decode cX10_stockByTotals 50 = .ok (.iload_n 2, 1) := by decide +kernel
theorem dX10_stockByTotals_51 : decode cX10_stockByTotals 51 = .ok (.iconst 2, 1) := by decide +kernel
theorem dX10_stockByTotals_52 : decode cX10_stockByTotals 52 = .ok (.iadd, 1) := by decide +kernel
theorem dX10_stockByTotals_53 : decode cX10_stockByTotals 53 = .ok (.iaload, 1) := by decide +kernel
theorem dX10_stockByTotals_54 : decode cX10_stockByTotals 54 = .ok (.isub, 1) := by decide +kernel
theorem dX10_stockByTotals_55 : decode cX10_stockByTotals 55 = .ok (.aload_n 0, 1) := by decide +kernel
theorem dX10_stockByTotals_56 : decode cX10_stockByTotals 56 = .ok (.getfield 13, 3) := by decide +kernel
theorem dX10_stockByTotals_59 : decode cX10_stockByTotals 59 = .ok (.iload_n 2, 1) := by decide +kernel
theorem dX10_stockByTotals_60 : decode cX10_stockByTotals 60 = .ok (.iconst 3, 1) := by decide +kernel
theorem dX10_stockByTotals_61 : decode cX10_stockByTotals 61 = .ok (.iadd, 1) := by decide +kernel
theorem dX10_stockByTotals_62 : decode cX10_stockByTotals 62 = .ok (.iaload, 1) := by decide +kernel
theorem dX10_stockByTotals_63 : decode cX10_stockByTotals 63 = .ok (.isub, 1) := by decide +kernel
theorem dX10_stockByTotals_64 : decode cX10_stockByTotals 64 = .ok (.aload_n 0, 1) := by decide +kernel
theorem dX10_stockByTotals_65 : decode cX10_stockByTotals 65 = .ok (.getfield 13, 3) := by decide +kernel
theorem dX10_stockByTotals_68 : decode cX10_stockByTotals 68 = .ok (.iload_n 2, 1) := by decide +kernel
theorem dX10_stockByTotals_69 : decode cX10_stockByTotals 69 = .ok (.iconst 4, 1) := by decide +kernel
theorem dX10_stockByTotals_70 : decode cX10_stockByTotals 70 = .ok (.iadd, 1) := by decide +kernel
theorem dX10_stockByTotals_71 : decode cX10_stockByTotals 71 = .ok (.iaload, 1) := by decide +kernel
theorem dX10_stockByTotals_72 : decode cX10_stockByTotals 72 = .ok (.isub, 1) := by decide +kernel
theorem dX10_stockByTotals_73 : decode cX10_stockByTotals 73 = .ok (.ireturn, 1) := by decide +kernel
def w_X10_stockByTotals_J13 (p0 : Int32) (mm : Mm) (Q9 : Int32 → Mm → Prop) (y_3 : Int32) : Prop :=
  w_X10_refused y_3 mm (fun (r_4 : Int32) (m_5 : Mm) => ((r_4 = 0 → ∀ x_7 : Int32, x_7 = (32 + (6 * p0)) → (vp_in (x_7 + 0) 246 ∧ (vp_in (x_7 + 1) 246 ∧ (vp_in (x_7 + 2) 246 ∧ (vp_in (x_7 + 3) 246 ∧ (vp_in (x_7 + 4) 246 ∧ (Q9 (((((m_5.1 32 1 (x_7 + 0).toNatClampNeg) - (m_5.1 32 1 (x_7 + 1).toNatClampNeg)) - (m_5.1 32 1 (x_7 + 2).toNatClampNeg)) - (m_5.1 32 1 (x_7 + 3).toNatClampNeg)) - (m_5.1 32 1 (x_7 + 4).toNatClampNeg)) m_5))))))) ∧
  (¬ r_4 = 0 → Q9 0 m_5)))
def w_X10_stockByTotals (p0 : Int32) (mm : Mm) (Q9 : Int32 → Mm → Prop) : Prop :=
  w_X10_isKind p0 mm (fun (r_1 : Int32) => ((r_1 = 0 → w_X10_stockByTotals_J13 p0 mm Q9 1) ∧
  (¬ r_1 = 0 → w_X10_stockByTotals_J13 p0 mm Q9 0)))
def rm_X10_stockByTotals : Room := { frames := 2, cells := 0, slots := 0, locals := 45 }
theorem hy_X10_stockByTotals : yX10_stockByTotals.cls = RX10 ∧ yX10_stockByTotals.cls ≠ "java/lang/invoke/MethodHandle" ∧ yX10_stockByTotals.cls ≠ "java/lang/invoke/VarHandle" ∧ (parseMethodDescriptor yX10_stockByTotals.desc).map (fun d => d.parameters.length) = some 1 := by decide +kernel
set_option maxRecDepth 100000 in
set_option maxHeartbeats 4000000 in
theorem c_X10_stockByTotals {l : Launch} {D : va_G} {cA : Nat → ClassId} {ad : Nat → Nat → Nat} {A : Nat → Prop} (ax : Ax ad GM A) (p0 : Int32) (mm : Mm) (Q9 : Int32 → Mm → Prop) (h : w_X10_stockByTotals p0 mm Q9) : Met l yX10_stockByTotals (.code yX10_stockByTotals cX10_stockByTotals 3 (some .int) :: TG) rm_X10_stockByTotals (PcM TT D cA ad false GM (ZM) [.ref (ad 30 1), .int p0] mm) (AnsI TT D cA ad false GM A Q9) 0 0 A := by
  have zo := ZM_ok A
  unfold w_X10_stockByTotals at h
  refine enterI pl_X10 ⟨rfl, rfl⟩ rfl (Nat.le_of_ble_eq_true rfl) ?_
  intro p e s m args below meth c QQ X hK hZ hnm hE
  refine q_aload_n (j := 0) X dX10_stockByTotals_0 rfl rfl ?_
  refine q_iload_n (j := 1) X dX10_stockByTotals_1 rfl rfl ?_
  refine q_calli (q_runS X hK hZ zo [.int p0] [.ref (ad 30 1)] rfl rfl (Nat.le_of_ble_eq_true rfl) dX10_stockByTotals_2 ⟨Nat.le_of_ble_eq_true rfl, Nat.le_of_ble_eq_true rfl⟩ (c_X10_isKind ax p0 mm _ h) rfl rfl (gS kw_7_67 kw_7_68 kw_1_11 kw_7_69) hy_X10_isKind.2 ⟨Nat.le_of_ble_eq_true rfl, Nat.le_of_ble_eq_true rfl⟩) (fun r_1 m_2 h => ?_)
  obtain ⟨h, hm⟩ := h
  subst hm
  have J13 : ∀ (y_3 : Int32), w_X10_stockByTotals_J13 p0 mm Q9 y_3 → V p l e rm_X10_stockByTotals s m args below meth c QQ 3 A 0 0 (Rep TT D cA ad false GM mm) 13 [(0, .ref (ad 30 1)), (1, .int p0)] [.int y_3, .ref (ad 30 1)] := by
    intro y_3 h
    unfold w_X10_stockByTotals_J13 at h
    refine q_calli (q_runV X hK hZ zo (gm (t := 30) (by decide) (ok1 (t := 30) (Nat.le_of_ble_eq_true rfl))) rfl rfl [.int y_3] [] rfl rfl (Nat.le_of_ble_eq_true rfl) dX10_stockByTotals_13 ⟨Nat.le_of_ble_eq_true rfl, Nat.le_of_ble_eq_true rfl⟩ (c_X10_refused ax y_3 mm _ h) rfl rfl (gV kw_7_126 kw_7_128 ks_95 kw_1_11 kw_7_129) hy_X10_refused ⟨Nat.le_of_ble_eq_true rfl, Nat.le_of_ble_eq_true rfl⟩) (fun r_4 m_5 h => ?_)
    refine q_if_eq (tgt := 21) X dX10_stockByTotals_16 (by decide) (fun c_6 => ?_) (fun c_6 => ?_)
    · have h := h.1 c_6
      refine q_bipush (v := 32) X dX10_stockByTotals_21 (by decide) ?_
      refine q_bipush (v := 6) X dX10_stockByTotals_23 (by decide) ?_
      refine q_iload_n (j := 1) X dX10_stockByTotals_25 rfl rfl ?_
      refine q_imul X dX10_stockByTotals_26 ?_
      refine q_iadd X dX10_stockByTotals_27 ?_
      refine q_topi (fun x_7 ex_7 => ?_)
      have h := h x_7 ex_7
      refine q_istore_n (lv' := [(2, .int x_7), (0, .ref (ad 30 1)), (1, .int p0)]) X dX10_stockByTotals_28 rfl (by decide) rfl ?_
      refine q_aload_n (j := 1) X dX10_stockByTotals_29 rfl rfl ?_
      refine q_get (k := 3) (v := .ref (ad 32 1)) X hK rfl rfl (Nat.le_of_ble_eq_true rfl) inTX10 (gm (t := 30) (by decide) (ok1 (t := 30) (Nat.le_of_ble_eq_true rfl))) kw_7_10 rfl (rv_nn (a := ad 32) (r := 1) (ok1 (t := 32) (Nat.le_of_ble_eq_true rfl)).1) dX10_stockByTotals_30 ?_
      refine q_iload_n (j := 0) X dX10_stockByTotals_33 rfl rfl ?_
      refine q_iconst (v := 0) X dX10_stockByTotals_34 (by decide) ?_
      refine q_iadd X dX10_stockByTotals_35 ?_
      obtain ⟨b_8, h⟩ := h
      refine q_iald (t := 32) (i := 1) (jn := (x_7 + 0).toNatClampNeg) (v := .int (m_5.1 32 1 (x_7 + 0).toNatClampNeg)) X hK rfl rfl (gm (t := 32) (by decide) (ok1 (t := 32) (Nat.le_of_ble_eq_true rfl))) rfl b_8 rfl rfl dX10_stockByTotals_36 ?_
      refine q_aload_n (j := 1) X dX10_stockByTotals_37 rfl rfl ?_
      refine q_get (k := 3) (v := .ref (ad 32 1)) X hK rfl rfl (Nat.le_of_ble_eq_true rfl) inTX10 (gm (t := 30) (by decide) (ok1 (t := 30) (Nat.le_of_ble_eq_true rfl))) kw_7_10 rfl (rv_nn (a := ad 32) (r := 1) (ok1 (t := 32) (Nat.le_of_ble_eq_true rfl)).1) dX10_stockByTotals_38 ?_
      refine q_iload_n (j := 0) X dX10_stockByTotals_41 rfl rfl ?_
      refine q_iconst (v := 1) X dX10_stockByTotals_42 (by decide) ?_
      refine q_iadd X dX10_stockByTotals_43 ?_
      obtain ⟨b_9, h⟩ := h
      refine q_iald (t := 32) (i := 1) (jn := (x_7 + 1).toNatClampNeg) (v := .int (m_5.1 32 1 (x_7 + 1).toNatClampNeg)) X hK rfl rfl (gm (t := 32) (by decide) (ok1 (t := 32) (Nat.le_of_ble_eq_true rfl))) rfl b_9 rfl rfl dX10_stockByTotals_44 ?_
      refine q_isub X dX10_stockByTotals_45 ?_
      refine q_aload_n (j := 1) X dX10_stockByTotals_46 rfl rfl ?_
      refine q_get (k := 3) (v := .ref (ad 32 1)) X hK rfl rfl (Nat.le_of_ble_eq_true rfl) inTX10 (gm (t := 30) (by decide) (ok1 (t := 30) (Nat.le_of_ble_eq_true rfl))) kw_7_10 rfl (rv_nn (a := ad 32) (r := 1) (ok1 (t := 32) (Nat.le_of_ble_eq_true rfl)).1) dX10_stockByTotals_47 ?_
      refine q_iload_n (j := 0) X dX10_stockByTotals_50 rfl rfl ?_
      refine q_iconst (v := 2) X dX10_stockByTotals_51 (by decide) ?_
      refine q_iadd X dX10_stockByTotals_52 ?_
      obtain ⟨b_10, h⟩ := h
      refine q_iald (t := 32) (i := 1) (jn := (x_7 + 2).toNatClampNeg) (v := .int (m_5.1 32 1 (x_7 + 2).toNatClampNeg)) X hK rfl rfl (gm (t := 32) (by decide) (ok1 (t := 32) (Nat.le_of_ble_eq_true rfl))) rfl b_10 rfl rfl dX10_stockByTotals_53 ?_
      refine q_isub X dX10_stockByTotals_54 ?_
      refine q_aload_n (j := 1) X dX10_stockByTotals_55 rfl rfl ?_
      refine q_get (k := 3) (v := .ref (ad 32 1)) X hK rfl rfl (Nat.le_of_ble_eq_true rfl) inTX10 (gm (t := 30) (by decide) (ok1 (t := 30) (Nat.le_of_ble_eq_true rfl))) kw_7_10 rfl (rv_nn (a := ad 32) (r := 1) (ok1 (t := 32) (Nat.le_of_ble_eq_true rfl)).1) dX10_stockByTotals_56 ?_
      refine q_iload_n (j := 0) X dX10_stockByTotals_59 rfl rfl ?_
      refine q_iconst (v := 3) X dX10_stockByTotals_60 (by decide) ?_
      refine q_iadd X dX10_stockByTotals_61 ?_
      obtain ⟨b_11, h⟩ := h
      refine q_iald (t := 32) (i := 1) (jn := (x_7 + 3).toNatClampNeg) (v := .int (m_5.1 32 1 (x_7 + 3).toNatClampNeg)) X hK rfl rfl (gm (t := 32) (by decide) (ok1 (t := 32) (Nat.le_of_ble_eq_true rfl))) rfl b_11 rfl rfl dX10_stockByTotals_62 ?_
      refine q_isub X dX10_stockByTotals_63 ?_
      refine q_aload_n (j := 1) X dX10_stockByTotals_64 rfl rfl ?_
      refine q_get (k := 3) (v := .ref (ad 32 1)) X hK rfl rfl (Nat.le_of_ble_eq_true rfl) inTX10 (gm (t := 30) (by decide) (ok1 (t := 30) (Nat.le_of_ble_eq_true rfl))) kw_7_10 rfl (rv_nn (a := ad 32) (r := 1) (ok1 (t := 32) (Nat.le_of_ble_eq_true rfl)).1) dX10_stockByTotals_65 ?_
      refine q_iload_n (j := 0) X dX10_stockByTotals_68 rfl rfl ?_
      refine q_iconst (v := 4) X dX10_stockByTotals_69 (by decide) ?_
      refine q_iadd X dX10_stockByTotals_70 ?_
      obtain ⟨b_12, h⟩ := h
      refine q_iald (t := 32) (i := 1) (jn := (x_7 + 4).toNatClampNeg) (v := .int (m_5.1 32 1 (x_7 + 4).toNatClampNeg)) X hK rfl rfl (gm (t := 32) (by decide) (ok1 (t := 32) (Nat.le_of_ble_eq_true rfl))) rfl b_12 rfl rfl dX10_stockByTotals_71 ?_
      refine q_isub X dX10_stockByTotals_72 ?_
      exact hE _ _ _ _ dX10_stockByTotals_73 h
    · have h := h.2 c_6
      refine q_iconst (v := 0) X dX10_stockByTotals_19 (by decide) ?_
      exact hE _ _ _ _ dX10_stockByTotals_20 h
  refine q_if_eq (tgt := 12) X dX10_stockByTotals_5 (by decide) (fun c_13 => ?_) (fun c_13 => ?_)
  · have h := h.1 c_13
    refine q_iconst (v := 1) X dX10_stockByTotals_12 (by decide) ?_
    refine q_sub [0, 1] rfl ?_
    exact J13 1 h
  · have h := h.2 c_13
    refine q_iconst (v := 0) X dX10_stockByTotals_8 (by decide) ?_
    refine q_goto (tgt := 13) X dX10_stockByTotals_9 (by decide) ?_
    refine q_sub [0, 1] rfl ?_
    exact J13 0 h
theorem dX10_whyNoEntry_0 : decode cX10_whyNoEntry 0 = .ok (.aload_n 0, 1) := by decide +kernel
theorem dX10_whyNoEntry_1 : decode cX10_whyNoEntry 1 = .ok (.iload_n 1, 1) := by decide +kernel
theorem dX10_whyNoEntry_2 : decode cX10_whyNoEntry 2 = .ok (.iload_n 2, 1) := by decide +kernel
theorem dX10_whyNoEntry_3 : decode cX10_whyNoEntry 3 = .ok (.iload_n 3, 1) := by decide +kernel
theorem dX10_whyNoEntry_4 : decode cX10_whyNoEntry 4 = .ok (.iload 4, 2) := by decide +kernel
theorem dX10_whyNoEntry_6 : decode cX10_whyNoEntry 6 = .ok (.invokestatic 140, 3) := by decide +kernel
theorem dX10_whyNoEntry_9 : decode cX10_whyNoEntry 9 = .ok (.ifCond .eq 7, 3) := by decide +kernel
theorem dX10_whyNoEntry_12 : decode cX10_whyNoEntry 12 = .ok (.iconst 0, 1) := by decide +kernel
theorem dX10_whyNoEntry_13 : decode cX10_whyNoEntry 13 = .ok (.goto 4, 3) := by decide +kernel
theorem dX10_whyNoEntry_16 : decode cX10_whyNoEntry 16 = .ok (.iconst 1, 1) := by decide +kernel
theorem dX10_whyNoEntry_17 : decode cX10_whyNoEntry 17 = .ok (.invokevirtual 147, 3) := by decide +kernel
theorem dX10_whyNoEntry_20 : decode cX10_whyNoEntry 20 = .ok (.ifCond .eq 7, 3) := by decide +kernel
theorem dX10_whyNoEntry_23 : decode cX10_whyNoEntry 23 = .ok (.iconst 0, 1) := by decide +kernel
theorem dX10_whyNoEntry_24 : decode cX10_whyNoEntry 24 = .ok (.goto 12, 3) := by decide +kernel
theorem dX10_whyNoEntry_27 : decode cX10_whyNoEntry 27 = .ok (.aload_n 0, 1) := by decide +kernel
theorem dX10_whyNoEntry_28 : decode cX10_whyNoEntry 28 = .ok (.iload_n 1, 1) := by decide +kernel
theorem dX10_whyNoEntry_29 : decode cX10_whyNoEntry 29 = .ok (.iload_n 2, 1) := by decide +kernel
theorem dX10_whyNoEntry_30 : decode cX10_whyNoEntry 30 = .ok (.iload_n 3, 1) := by decide +kernel
theorem dX10_whyNoEntry_31 : decode cX10_whyNoEntry 31 = .ok (.iload 4, 2) := by decide +kernel
theorem dX10_whyNoEntry_33 : decode cX10_whyNoEntry 33 = .ok (.invokevirtual 144, 3) := by decide +kernel
theorem dX10_whyNoEntry_36 : decode cX10_whyNoEntry 36 = .ok (.ireturn, 1) := by decide +kernel
def w_X10_whyNoEntry_J17 (p0 : Int32) (p1 : Int32) (p2 : Int32) (p3 : Int32) (mm : Mm) (Q9 : Int32 → Mm → Prop) (y_3 : Int32) : Prop :=
  w_X10_refused y_3 mm (fun (r_4 : Int32) (m_5 : Mm) => ((r_4 = 0 → w_X10_noEntry p0 p1 p2 p3 m_5 (fun (r_7 : Int32) => Q9 r_7 m_5)) ∧
  (¬ r_4 = 0 → Q9 0 m_5)))
def w_X10_whyNoEntry (p0 : Int32) (p1 : Int32) (p2 : Int32) (p3 : Int32) (mm : Mm) (Q9 : Int32 → Mm → Prop) : Prop :=
  w_X10_isNew p0 p1 p2 p3 mm (fun (r_1 : Int32) => ((r_1 = 0 → w_X10_whyNoEntry_J17 p0 p1 p2 p3 mm Q9 1) ∧
  (¬ r_1 = 0 → w_X10_whyNoEntry_J17 p0 p1 p2 p3 mm Q9 0)))
def rm_X10_whyNoEntry : Room := { frames := 6, cells := 0, slots := 0, locals := 135 }
theorem hy_X10_whyNoEntry : yX10_whyNoEntry.cls = RX10 ∧ yX10_whyNoEntry.cls ≠ "java/lang/invoke/MethodHandle" ∧ yX10_whyNoEntry.cls ≠ "java/lang/invoke/VarHandle" ∧ (parseMethodDescriptor yX10_whyNoEntry.desc).map (fun d => d.parameters.length) = some 4 := by decide +kernel
set_option maxRecDepth 100000 in
set_option maxHeartbeats 4000000 in
theorem c_X10_whyNoEntry {l : Launch} {D : va_G} {cA : Nat → ClassId} {ad : Nat → Nat → Nat} {A : Nat → Prop} (ax : Ax ad GM A) (p0 : Int32) (p1 : Int32) (p2 : Int32) (p3 : Int32) (mm : Mm) (Q9 : Int32 → Mm → Prop) (h : w_X10_whyNoEntry p0 p1 p2 p3 mm Q9) : Met l yX10_whyNoEntry (.code yX10_whyNoEntry cX10_whyNoEntry 5 (some .int) :: TG) rm_X10_whyNoEntry (PcM TT D cA ad false GM (ZM) [.ref (ad 30 1), .int p0, .int p1, .int p2, .int p3] mm) (AnsI TT D cA ad false GM A Q9) 0 0 A := by
  have zo := ZM_ok A
  unfold w_X10_whyNoEntry at h
  refine enterI pl_X10 ⟨rfl, rfl⟩ rfl (Nat.le_of_ble_eq_true rfl) ?_
  intro p e s m args below meth c QQ X hK hZ hnm hE
  refine q_aload_n (j := 0) X dX10_whyNoEntry_0 rfl rfl ?_
  refine q_iload_n (j := 1) X dX10_whyNoEntry_1 rfl rfl ?_
  refine q_iload_n (j := 2) X dX10_whyNoEntry_2 rfl rfl ?_
  refine q_iload_n (j := 3) X dX10_whyNoEntry_3 rfl rfl ?_
  refine q_iload (j := 4) X dX10_whyNoEntry_4 rfl ?_
  refine q_calli (q_runS X hK hZ zo [.int p0, .int p1, .int p2, .int p3] [.ref (ad 30 1)] rfl rfl (Nat.le_of_ble_eq_true rfl) dX10_whyNoEntry_6 ⟨Nat.le_of_ble_eq_true rfl, Nat.le_of_ble_eq_true rfl⟩ (c_X10_isNew ax p0 p1 p2 p3 mm _ h) rfl rfl (gS kw_7_64 kw_7_65 kw_1_11 kw_7_66) hy_X10_isNew.2 ⟨Nat.le_of_ble_eq_true rfl, Nat.le_of_ble_eq_true rfl⟩) (fun r_1 m_2 h => ?_)
  obtain ⟨h, hm⟩ := h
  subst hm
  have J17 : ∀ (y_3 : Int32), w_X10_whyNoEntry_J17 p0 p1 p2 p3 mm Q9 y_3 → V p l e rm_X10_whyNoEntry s m args below meth c QQ 5 A 0 0 (Rep TT D cA ad false GM mm) 17 [(0, .ref (ad 30 1)), (1, .int p0), (2, .int p1), (3, .int p2), (4, .int p3)] [.int y_3, .ref (ad 30 1)] := by
    intro y_3 h
    unfold w_X10_whyNoEntry_J17 at h
    refine q_calli (q_runV X hK hZ zo (gm (t := 30) (by decide) (ok1 (t := 30) (Nat.le_of_ble_eq_true rfl))) rfl rfl [.int y_3] [] rfl rfl (Nat.le_of_ble_eq_true rfl) dX10_whyNoEntry_17 ⟨Nat.le_of_ble_eq_true rfl, Nat.le_of_ble_eq_true rfl⟩ (c_X10_refused ax y_3 mm _ h) rfl rfl (gV kw_7_126 kw_7_128 ks_95 kw_1_11 kw_7_129) hy_X10_refused ⟨Nat.le_of_ble_eq_true rfl, Nat.le_of_ble_eq_true rfl⟩) (fun r_4 m_5 h => ?_)
    refine q_if_eq (tgt := 27) X dX10_whyNoEntry_20 (by decide) (fun c_6 => ?_) (fun c_6 => ?_)
    · have h := h.1 c_6
      refine q_aload_n (j := 0) X dX10_whyNoEntry_27 rfl rfl ?_
      refine q_iload_n (j := 1) X dX10_whyNoEntry_28 rfl rfl ?_
      refine q_iload_n (j := 2) X dX10_whyNoEntry_29 rfl rfl ?_
      refine q_iload_n (j := 3) X dX10_whyNoEntry_30 rfl rfl ?_
      refine q_iload (j := 4) X dX10_whyNoEntry_31 rfl ?_
      refine q_calli (q_runV X hK hZ zo (gm (t := 30) (by decide) (ok1 (t := 30) (Nat.le_of_ble_eq_true rfl))) rfl rfl [.int p0, .int p1, .int p2, .int p3] [] rfl rfl (Nat.le_of_ble_eq_true rfl) dX10_whyNoEntry_33 ⟨Nat.le_of_ble_eq_true rfl, Nat.le_of_ble_eq_true rfl⟩ (c_X10_noEntry ax p0 p1 p2 p3 m_5 _ h) rfl rfl (gV kw_7_83 kw_7_85 ks_85 kw_1_11 kw_7_86) hy_X10_noEntry ⟨Nat.le_of_ble_eq_true rfl, Nat.le_of_ble_eq_true rfl⟩) (fun r_7 m_8 h => ?_)
      obtain ⟨h, hm⟩ := h
      subst hm
      exact hE _ _ _ _ dX10_whyNoEntry_36 h
    · have h := h.2 c_6
      refine q_iconst (v := 0) X dX10_whyNoEntry_23 (by decide) ?_
      refine q_goto (tgt := 36) X dX10_whyNoEntry_24 (by decide) ?_
      exact hE _ _ _ _ dX10_whyNoEntry_36 h
  refine q_if_eq (tgt := 16) X dX10_whyNoEntry_9 (by decide) (fun c_9 => ?_) (fun c_9 => ?_)
  · have h := h.1 c_9
    refine q_iconst (v := 1) X dX10_whyNoEntry_16 (by decide) ?_
    refine q_sub [0, 1, 2, 3, 4] rfl ?_
    exact J17 1 h
  · have h := h.2 c_9
    refine q_iconst (v := 0) X dX10_whyNoEntry_12 (by decide) ?_
    refine q_goto (tgt := 17) X dX10_whyNoEntry_13 (by decide) ?_
    refine q_sub [0, 1, 2, 3, 4] rfl ?_
    exact J17 0 h
theorem dX10_whyNoWithdrawal_0 : decode cX10_whyNoWithdrawal 0 = .ok (.aload_n 0, 1) := by decide +kernel
theorem dX10_whyNoWithdrawal_1 : decode cX10_whyNoWithdrawal 1 = .ok (.iload_n 1, 1) := by decide +kernel
theorem dX10_whyNoWithdrawal_2 : decode cX10_whyNoWithdrawal 2 = .ok (.invokevirtual 156, 3) := by decide +kernel
theorem dX10_whyNoWithdrawal_5 : decode cX10_whyNoWithdrawal 5 = .ok (.istore_n 3, 1) := by decide +kernel
theorem dX10_whyNoWithdrawal_6 : decode cX10_whyNoWithdrawal 6 = .ok (.aload_n 0, 1) := by decide +kernel
theorem dX10_whyNoWithdrawal_7 : decode cX10_whyNoWithdrawal 7 = .ok (.iload_n 3, 1) := by decide +kernel
theorem dX10_whyNoWithdrawal_8 : decode cX10_whyNoWithdrawal 8 = .ok (.iconst (-1), 1) := by decide +kernel
theorem dX10_whyNoWithdrawal_9 : decode cX10_whyNoWithdrawal 9 = .ok (.if_icmp .ne 7, 3) := by decide +kernel
theorem dX10_whyNoWithdrawal_12 : decode cX10_whyNoWithdrawal 12 = .ok (.iconst 1, 1) := by decide +kernel
theorem dX10_whyNoWithdrawal_13 : decode cX10_whyNoWithdrawal 13 = .ok (.goto 15, 3) := by decide +kernel
theorem dX10_whyNoWithdrawal_16 : decode cX10_whyNoWithdrawal 16 = .ok (.iload_n 2, 1) := by decide +kernel
theorem dX10_whyNoWithdrawal_17 : decode cX10_whyNoWithdrawal 17 = .ok (.invokestatic 132, 3) := by decide +kernel
theorem dX10_whyNoWithdrawal_20 : decode cX10_whyNoWithdrawal 20 = .ok (.ifCond .eq 7, 3) := by decide +kernel
theorem dX10_whyNoWithdrawal_23 : decode cX10_whyNoWithdrawal 23 = .ok (.iconst 0, 1) := by decide +kernel
theorem dX10_whyNoWithdrawal_24 : decode cX10_whyNoWithdrawal 24 = .ok (.goto 4, 3) := by decide +kernel
theorem dX10_whyNoWithdrawal_27 : decode cX10_whyNoWithdrawal 27 = .ok (.iconst 2, 1) := by decide +kernel
theorem dX10_whyNoWithdrawal_28 : decode cX10_whyNoWithdrawal 28 = .ok (.invokevirtual 147, 3) := by decide +kernel
theorem dX10_whyNoWithdrawal_31 : decode cX10_whyNoWithdrawal 31 = .ok (.ifCond .eq 7, 3) := by decide +kernel
theorem dX10_whyNoWithdrawal_34 : decode cX10_whyNoWithdrawal 34 = .ok (.iconst 0, 1) := by decide +kernel
theorem dX10_whyNoWithdrawal_35 : decode cX10_whyNoWithdrawal 35 = .ok (.goto 9, 3) := by decide +kernel
theorem dX10_whyNoWithdrawal_38 : decode cX10_whyNoWithdrawal 38 = .ok (.aload_n 0, 1) := by decide +kernel
theorem dX10_whyNoWithdrawal_39 : decode cX10_whyNoWithdrawal 39 = .ok (.iload_n 3, 1) := by decide +kernel
theorem dX10_whyNoWithdrawal_40 : decode cX10_whyNoWithdrawal 40 = .ok (.iload_n 2, 1) := by decide +kernel
theorem dX10_whyNoWithdrawal_41 : decode cX10_whyNoWithdrawal 41 = .ok (.invokevirtual 159, 3) := by decide +kernel
theorem dX10_whyNoWithdrawal_44 : decode cX10_whyNoWithdrawal 44 = .ok (.ireturn, 1) := by decide +kernel
def w_X10_whyNoWithdrawal (p0 : Int32) (p1 : Int32) (mm : Mm) (Q9 : Int32 → Mm → Prop) : Prop :=
  w_X10_find p0 mm (fun (r_1 : Int32) => ((¬ r_1 = (-1) → w_X10_isWeight p1 mm (fun (r_4 : Int32) => ((r_4 = 0 → w_X10_refused 2 mm (fun (r_7 : Int32) (m_8 : Mm) => ((r_7 = 0 → w_X10_noWithdrawal r_1 p1 m_8 (fun (r_10 : Int32) => Q9 r_10 m_8)) ∧
  (¬ r_7 = 0 → Q9 0 m_8)))) ∧
  (¬ r_4 = 0 → w_X10_refused 0 mm (fun (r_12 : Int32) (m_13 : Mm) => ((r_12 = 0 → w_X10_noWithdrawal r_1 p1 m_13 (fun (r_15 : Int32) => Q9 r_15 m_13)) ∧
  (¬ r_12 = 0 → Q9 0 m_13))))))) ∧
  (r_1 = (-1) → w_X10_refused 1 mm (fun (r_17 : Int32) (m_18 : Mm) => ((r_17 = 0 → w_X10_noWithdrawal r_1 p1 m_18 (fun (r_20 : Int32) => Q9 r_20 m_18)) ∧
  (¬ r_17 = 0 → Q9 0 m_18))))))
def rm_X10_whyNoWithdrawal : Room := { frames := 4, cells := 0, slots := 0, locals := 91 }
theorem hy_X10_whyNoWithdrawal : yX10_whyNoWithdrawal.cls = RX10 ∧ yX10_whyNoWithdrawal.cls ≠ "java/lang/invoke/MethodHandle" ∧ yX10_whyNoWithdrawal.cls ≠ "java/lang/invoke/VarHandle" ∧ (parseMethodDescriptor yX10_whyNoWithdrawal.desc).map (fun d => d.parameters.length) = some 2 := by decide +kernel
set_option maxRecDepth 100000 in
set_option maxHeartbeats 4000000 in
theorem c_X10_whyNoWithdrawal {l : Launch} {D : va_G} {cA : Nat → ClassId} {ad : Nat → Nat → Nat} {A : Nat → Prop} (ax : Ax ad GM A) (p0 : Int32) (p1 : Int32) (mm : Mm) (Q9 : Int32 → Mm → Prop) (h : w_X10_whyNoWithdrawal p0 p1 mm Q9) : Met l yX10_whyNoWithdrawal (.code yX10_whyNoWithdrawal cX10_whyNoWithdrawal 4 (some .int) :: TG) rm_X10_whyNoWithdrawal (PcM TT D cA ad false GM (ZM) [.ref (ad 30 1), .int p0, .int p1] mm) (AnsI TT D cA ad false GM A Q9) 0 0 A := by
  have zo := ZM_ok A
  unfold w_X10_whyNoWithdrawal at h
  refine enterI pl_X10 ⟨rfl, rfl⟩ rfl (Nat.le_of_ble_eq_true rfl) ?_
  intro p e s m args below meth c QQ X hK hZ hnm hE
  refine q_aload_n (j := 0) X dX10_whyNoWithdrawal_0 rfl rfl ?_
  refine q_iload_n (j := 1) X dX10_whyNoWithdrawal_1 rfl rfl ?_
  refine q_calli (q_runV X hK hZ zo (gm (t := 30) (by decide) (ok1 (t := 30) (Nat.le_of_ble_eq_true rfl))) rfl rfl [.int p0] [] rfl rfl (Nat.le_of_ble_eq_true rfl) dX10_whyNoWithdrawal_2 ⟨Nat.le_of_ble_eq_true rfl, Nat.le_of_ble_eq_true rfl⟩ (c_X10_find ax p0 mm _ h) rfl rfl (gV kw_7_157 kw_7_159 ks_101 kw_1_11 kw_7_160) hy_X10_find ⟨Nat.le_of_ble_eq_true rfl, Nat.le_of_ble_eq_true rfl⟩) (fun r_1 m_2 h => ?_)
  obtain ⟨h, hm⟩ := h
  subst hm
  refine q_istore_n (lv' := [(3, .int r_1), (0, .ref (ad 30 1)), (1, .int p0), (2, .int p1)]) X dX10_whyNoWithdrawal_5 rfl (by decide) rfl ?_
  refine q_aload_n (j := 1) X dX10_whyNoWithdrawal_6 rfl rfl ?_
  refine q_iload_n (j := 0) X dX10_whyNoWithdrawal_7 rfl rfl ?_
  refine q_iconst (v := (-1)) X dX10_whyNoWithdrawal_8 (by decide) ?_
  refine q_icmp_ne (tgt := 16) X dX10_whyNoWithdrawal_9 (by decide) (fun c_3 => ?_) (fun c_3 => ?_)
  · have h := h.1 c_3
    refine q_iload_n (j := 3) X dX10_whyNoWithdrawal_16 rfl rfl ?_
    refine q_calli (q_runS X hK hZ zo [.int p1] [.ref (ad 30 1)] rfl rfl (Nat.le_of_ble_eq_true rfl) dX10_whyNoWithdrawal_17 ⟨Nat.le_of_ble_eq_true rfl, Nat.le_of_ble_eq_true rfl⟩ (c_X10_isWeight ax p1 mm _ h) rfl rfl (gS kw_7_74 kw_7_75 kw_1_11 kw_7_76) hy_X10_isWeight.2 ⟨Nat.le_of_ble_eq_true rfl, Nat.le_of_ble_eq_true rfl⟩) (fun r_4 m_5 h => ?_)
    obtain ⟨h, hm⟩ := h
    subst hm
    refine q_if_eq (tgt := 27) X dX10_whyNoWithdrawal_20 (by decide) (fun c_6 => ?_) (fun c_6 => ?_)
    · have h := h.1 c_6
      refine q_iconst (v := 2) X dX10_whyNoWithdrawal_27 (by decide) ?_
      refine q_calli (q_runV X hK hZ zo (gm (t := 30) (by decide) (ok1 (t := 30) (Nat.le_of_ble_eq_true rfl))) rfl rfl [.int 2] [] rfl rfl (Nat.le_of_ble_eq_true rfl) dX10_whyNoWithdrawal_28 ⟨Nat.le_of_ble_eq_true rfl, Nat.le_of_ble_eq_true rfl⟩ (c_X10_refused ax 2 mm _ h) rfl rfl (gV kw_7_126 kw_7_128 ks_95 kw_1_11 kw_7_129) hy_X10_refused ⟨Nat.le_of_ble_eq_true rfl, Nat.le_of_ble_eq_true rfl⟩) (fun r_7 m_8 h => ?_)
      refine q_if_eq (tgt := 38) X dX10_whyNoWithdrawal_31 (by decide) (fun c_9 => ?_) (fun c_9 => ?_)
      · have h := h.1 c_9
        refine q_aload_n (j := 1) X dX10_whyNoWithdrawal_38 rfl rfl ?_
        refine q_iload_n (j := 0) X dX10_whyNoWithdrawal_39 rfl rfl ?_
        refine q_iload_n (j := 3) X dX10_whyNoWithdrawal_40 rfl rfl ?_
        refine q_calli (q_runV X hK hZ zo (gm (t := 30) (by decide) (ok1 (t := 30) (Nat.le_of_ble_eq_true rfl))) rfl rfl [.int r_1, .int p1] [] rfl rfl (Nat.le_of_ble_eq_true rfl) dX10_whyNoWithdrawal_41 ⟨Nat.le_of_ble_eq_true rfl, Nat.le_of_ble_eq_true rfl⟩ (c_X10_noWithdrawal ax r_1 p1 m_8 _ h) rfl rfl (gV kw_7_161 kw_7_163 ks_102 kw_1_11 kw_7_164) hy_X10_noWithdrawal ⟨Nat.le_of_ble_eq_true rfl, Nat.le_of_ble_eq_true rfl⟩) (fun r_10 m_11 h => ?_)
        obtain ⟨h, hm⟩ := h
        subst hm
        exact hE _ _ _ _ dX10_whyNoWithdrawal_44 h
      · have h := h.2 c_9
        refine q_iconst (v := 0) X dX10_whyNoWithdrawal_34 (by decide) ?_
        refine q_goto (tgt := 44) X dX10_whyNoWithdrawal_35 (by decide) ?_
        exact hE _ _ _ _ dX10_whyNoWithdrawal_44 h
    · have h := h.2 c_6
      refine q_iconst (v := 0) X dX10_whyNoWithdrawal_23 (by decide) ?_
      refine q_goto (tgt := 28) X dX10_whyNoWithdrawal_24 (by decide) ?_
      refine q_calli (q_runV X hK hZ zo (gm (t := 30) (by decide) (ok1 (t := 30) (Nat.le_of_ble_eq_true rfl))) rfl rfl [.int 0] [] rfl rfl (Nat.le_of_ble_eq_true rfl) dX10_whyNoWithdrawal_28 ⟨Nat.le_of_ble_eq_true rfl, Nat.le_of_ble_eq_true rfl⟩ (c_X10_refused ax 0 mm _ h) rfl rfl (gV kw_7_126 kw_7_128 ks_95 kw_1_11 kw_7_129) hy_X10_refused ⟨Nat.le_of_ble_eq_true rfl, Nat.le_of_ble_eq_true rfl⟩) (fun r_12 m_13 h => ?_)
      refine q_if_eq (tgt := 38) X dX10_whyNoWithdrawal_31 (by decide) (fun c_14 => ?_) (fun c_14 => ?_)
      · have h := h.1 c_14
        refine q_aload_n (j := 1) X dX10_whyNoWithdrawal_38 rfl rfl ?_
        refine q_iload_n (j := 0) X dX10_whyNoWithdrawal_39 rfl rfl ?_
        refine q_iload_n (j := 3) X dX10_whyNoWithdrawal_40 rfl rfl ?_
        refine q_calli (q_runV X hK hZ zo (gm (t := 30) (by decide) (ok1 (t := 30) (Nat.le_of_ble_eq_true rfl))) rfl rfl [.int r_1, .int p1] [] rfl rfl (Nat.le_of_ble_eq_true rfl) dX10_whyNoWithdrawal_41 ⟨Nat.le_of_ble_eq_true rfl, Nat.le_of_ble_eq_true rfl⟩ (c_X10_noWithdrawal ax r_1 p1 m_13 _ h) rfl rfl (gV kw_7_161 kw_7_163 ks_102 kw_1_11 kw_7_164) hy_X10_noWithdrawal ⟨Nat.le_of_ble_eq_true rfl, Nat.le_of_ble_eq_true rfl⟩) (fun r_15 m_16 h => ?_)
        obtain ⟨h, hm⟩ := h
        subst hm
        exact hE _ _ _ _ dX10_whyNoWithdrawal_44 h
      · have h := h.2 c_14
        refine q_iconst (v := 0) X dX10_whyNoWithdrawal_34 (by decide) ?_
        refine q_goto (tgt := 44) X dX10_whyNoWithdrawal_35 (by decide) ?_
        exact hE _ _ _ _ dX10_whyNoWithdrawal_44 h
  · have h := h.2 c_3
    refine q_iconst (v := 1) X dX10_whyNoWithdrawal_12 (by decide) ?_
    refine q_goto (tgt := 28) X dX10_whyNoWithdrawal_13 (by decide) ?_
    refine q_calli (q_runV X hK hZ zo (gm (t := 30) (by decide) (ok1 (t := 30) (Nat.le_of_ble_eq_true rfl))) rfl rfl [.int 1] [] rfl rfl (Nat.le_of_ble_eq_true rfl) dX10_whyNoWithdrawal_28 ⟨Nat.le_of_ble_eq_true rfl, Nat.le_of_ble_eq_true rfl⟩ (c_X10_refused ax 1 mm _ h) rfl rfl (gV kw_7_126 kw_7_128 ks_95 kw_1_11 kw_7_129) hy_X10_refused ⟨Nat.le_of_ble_eq_true rfl, Nat.le_of_ble_eq_true rfl⟩) (fun r_17 m_18 h => ?_)
    refine q_if_eq (tgt := 38) X dX10_whyNoWithdrawal_31 (by decide) (fun c_19 => ?_) (fun c_19 => ?_)
    · have h := h.1 c_19
      refine q_aload_n (j := 1) X dX10_whyNoWithdrawal_38 rfl rfl ?_
      refine q_iload_n (j := 0) X dX10_whyNoWithdrawal_39 rfl rfl ?_
      refine q_iload_n (j := 3) X dX10_whyNoWithdrawal_40 rfl rfl ?_
      refine q_calli (q_runV X hK hZ zo (gm (t := 30) (by decide) (ok1 (t := 30) (Nat.le_of_ble_eq_true rfl))) rfl rfl [.int r_1, .int p1] [] rfl rfl (Nat.le_of_ble_eq_true rfl) dX10_whyNoWithdrawal_41 ⟨Nat.le_of_ble_eq_true rfl, Nat.le_of_ble_eq_true rfl⟩ (c_X10_noWithdrawal ax r_1 p1 m_18 _ h) rfl rfl (gV kw_7_161 kw_7_163 ks_102 kw_1_11 kw_7_164) hy_X10_noWithdrawal ⟨Nat.le_of_ble_eq_true rfl, Nat.le_of_ble_eq_true rfl⟩) (fun r_20 m_21 h => ?_)
      obtain ⟨h, hm⟩ := h
      subst hm
      exact hE _ _ _ _ dX10_whyNoWithdrawal_44 h
    · have h := h.2 c_19
      refine q_iconst (v := 0) X dX10_whyNoWithdrawal_34 (by decide) ?_
      refine q_goto (tgt := 44) X dX10_whyNoWithdrawal_35 (by decide) ?_
      exact hE _ _ _ _ dX10_whyNoWithdrawal_44 h
theorem dX10_whyNoExport_0 : decode cX10_whyNoExport 0 = .ok (.aload_n 0, 1) := by decide +kernel
theorem dX10_whyNoExport_1 : decode cX10_whyNoExport 1 = .ok (.iload_n 1, 1) := by decide +kernel
theorem dX10_whyNoExport_2 : decode cX10_whyNoExport 2 = .ok (.invokevirtual 156, 3) := by decide +kernel
theorem dX10_whyNoExport_5 : decode cX10_whyNoExport 5 = .ok (.istore_n 3, 1) := by decide +kernel
theorem dX10_whyNoExport_6 : decode cX10_whyNoExport 6 = .ok (.aload_n 0, 1) := by decide +kernel
theorem dX10_whyNoExport_7 : decode cX10_whyNoExport 7 = .ok (.iload_n 3, 1) := by decide +kernel
theorem dX10_whyNoExport_8 : decode cX10_whyNoExport 8 = .ok (.iconst (-1), 1) := by decide +kernel
theorem dX10_whyNoExport_9 : decode cX10_whyNoExport 9 = .ok (.if_icmp .ne 7, 3) := by decide +kernel
theorem dX10_whyNoExport_12 : decode cX10_whyNoExport 12 = .ok (.iconst 1, 1) := by decide +kernel
theorem dX10_whyNoExport_13 : decode cX10_whyNoExport 13 = .ok (.goto 15, 3) := by decide +kernel
theorem dX10_whyNoExport_16 : decode cX10_whyNoExport 16 = .ok (.iload_n 2, 1) := by decide +kernel
theorem dX10_whyNoExport_17 : decode cX10_whyNoExport 17 = .ok (.invokestatic 132, 3) := by decide +kernel
theorem dX10_whyNoExport_20 : decode cX10_whyNoExport 20 = .ok (.ifCond .eq 7, 3) := by decide +kernel
theorem dX10_whyNoExport_23 : decode cX10_whyNoExport 23 = .ok (.iconst 0, 1) := by decide +kernel
theorem dX10_whyNoExport_24 : decode cX10_whyNoExport 24 = .ok (.goto 4, 3) := by decide +kernel
theorem dX10_whyNoExport_27 : decode cX10_whyNoExport 27 = .ok (.iconst 2, 1) := by decide +kernel
theorem dX10_whyNoExport_28 : decode cX10_whyNoExport 28 = .ok (.invokevirtual 147, 3) := by decide +kernel
theorem dX10_whyNoExport_31 : decode cX10_whyNoExport 31 = .ok (.ifCond .eq 7, 3) := by decide +kernel
theorem dX10_whyNoExport_34 : decode cX10_whyNoExport 34 = .ok (.iconst 0, 1) := by decide +kernel
theorem dX10_whyNoExport_35 : decode cX10_whyNoExport 35 = .ok (.goto 9, 3) := by decide +kernel
theorem dX10_whyNoExport_38 : decode cX10_whyNoExport 38 = .ok (.aload_n 0, 1) := by decide +kernel
theorem dX10_whyNoExport_39 : decode cX10_whyNoExport 39 = .ok (.iload_n 3, 1) := by decide +kernel
theorem dX10_whyNoExport_40 : decode cX10_whyNoExport 40 = .ok (.iload_n 2, 1) := by decide +kernel
theorem dX10_whyNoExport_41 : decode cX10_whyNoExport 41 = .ok (.invokevirtual 165, 3) := by decide +kernel
theorem dX10_whyNoExport_44 : decode cX10_whyNoExport 44 = .ok (.ireturn, 1) := by decide +kernel
def w_X10_whyNoExport (p0 : Int32) (p1 : Int32) (mm : Mm) (Q9 : Int32 → Mm → Prop) : Prop :=
  w_X10_find p0 mm (fun (r_1 : Int32) => ((¬ r_1 = (-1) → w_X10_isWeight p1 mm (fun (r_4 : Int32) => ((r_4 = 0 → w_X10_refused 2 mm (fun (r_7 : Int32) (m_8 : Mm) => ((r_7 = 0 → w_X10_noExport r_1 p1 m_8 (fun (r_10 : Int32) => Q9 r_10 m_8)) ∧
  (¬ r_7 = 0 → Q9 0 m_8)))) ∧
  (¬ r_4 = 0 → w_X10_refused 0 mm (fun (r_12 : Int32) (m_13 : Mm) => ((r_12 = 0 → w_X10_noExport r_1 p1 m_13 (fun (r_15 : Int32) => Q9 r_15 m_13)) ∧
  (¬ r_12 = 0 → Q9 0 m_13))))))) ∧
  (r_1 = (-1) → w_X10_refused 1 mm (fun (r_17 : Int32) (m_18 : Mm) => ((r_17 = 0 → w_X10_noExport r_1 p1 m_18 (fun (r_20 : Int32) => Q9 r_20 m_18)) ∧
  (¬ r_17 = 0 → Q9 0 m_18))))))
def rm_X10_whyNoExport : Room := { frames := 3, cells := 0, slots := 0, locals := 67 }
theorem hy_X10_whyNoExport : yX10_whyNoExport.cls = RX10 ∧ yX10_whyNoExport.cls ≠ "java/lang/invoke/MethodHandle" ∧ yX10_whyNoExport.cls ≠ "java/lang/invoke/VarHandle" ∧ (parseMethodDescriptor yX10_whyNoExport.desc).map (fun d => d.parameters.length) = some 2 := by decide +kernel
set_option maxRecDepth 100000 in
set_option maxHeartbeats 4000000 in
theorem c_X10_whyNoExport {l : Launch} {D : va_G} {cA : Nat → ClassId} {ad : Nat → Nat → Nat} {A : Nat → Prop} (ax : Ax ad GM A) (p0 : Int32) (p1 : Int32) (mm : Mm) (Q9 : Int32 → Mm → Prop) (h : w_X10_whyNoExport p0 p1 mm Q9) : Met l yX10_whyNoExport (.code yX10_whyNoExport cX10_whyNoExport 4 (some .int) :: TG) rm_X10_whyNoExport (PcM TT D cA ad false GM (ZM) [.ref (ad 30 1), .int p0, .int p1] mm) (AnsI TT D cA ad false GM A Q9) 0 0 A := by
  have zo := ZM_ok A
  unfold w_X10_whyNoExport at h
  refine enterI pl_X10 ⟨rfl, rfl⟩ rfl (Nat.le_of_ble_eq_true rfl) ?_
  intro p e s m args below meth c QQ X hK hZ hnm hE
  refine q_aload_n (j := 0) X dX10_whyNoExport_0 rfl rfl ?_
  refine q_iload_n (j := 1) X dX10_whyNoExport_1 rfl rfl ?_
  refine q_calli (q_runV X hK hZ zo (gm (t := 30) (by decide) (ok1 (t := 30) (Nat.le_of_ble_eq_true rfl))) rfl rfl [.int p0] [] rfl rfl (Nat.le_of_ble_eq_true rfl) dX10_whyNoExport_2 ⟨Nat.le_of_ble_eq_true rfl, Nat.le_of_ble_eq_true rfl⟩ (c_X10_find ax p0 mm _ h) rfl rfl (gV kw_7_157 kw_7_159 ks_101 kw_1_11 kw_7_160) hy_X10_find ⟨Nat.le_of_ble_eq_true rfl, Nat.le_of_ble_eq_true rfl⟩) (fun r_1 m_2 h => ?_)
  obtain ⟨h, hm⟩ := h
  subst hm
  refine q_istore_n (lv' := [(3, .int r_1), (0, .ref (ad 30 1)), (1, .int p0), (2, .int p1)]) X dX10_whyNoExport_5 rfl (by decide) rfl ?_
  refine q_aload_n (j := 1) X dX10_whyNoExport_6 rfl rfl ?_
  refine q_iload_n (j := 0) X dX10_whyNoExport_7 rfl rfl ?_
  refine q_iconst (v := (-1)) X dX10_whyNoExport_8 (by decide) ?_
  refine q_icmp_ne (tgt := 16) X dX10_whyNoExport_9 (by decide) (fun c_3 => ?_) (fun c_3 => ?_)
  · have h := h.1 c_3
    refine q_iload_n (j := 3) X dX10_whyNoExport_16 rfl rfl ?_
    refine q_calli (q_runS X hK hZ zo [.int p1] [.ref (ad 30 1)] rfl rfl (Nat.le_of_ble_eq_true rfl) dX10_whyNoExport_17 ⟨Nat.le_of_ble_eq_true rfl, Nat.le_of_ble_eq_true rfl⟩ (c_X10_isWeight ax p1 mm _ h) rfl rfl (gS kw_7_74 kw_7_75 kw_1_11 kw_7_76) hy_X10_isWeight.2 ⟨Nat.le_of_ble_eq_true rfl, Nat.le_of_ble_eq_true rfl⟩) (fun r_4 m_5 h => ?_)
    obtain ⟨h, hm⟩ := h
    subst hm
    refine q_if_eq (tgt := 27) X dX10_whyNoExport_20 (by decide) (fun c_6 => ?_) (fun c_6 => ?_)
    · have h := h.1 c_6
      refine q_iconst (v := 2) X dX10_whyNoExport_27 (by decide) ?_
      refine q_calli (q_runV X hK hZ zo (gm (t := 30) (by decide) (ok1 (t := 30) (Nat.le_of_ble_eq_true rfl))) rfl rfl [.int 2] [] rfl rfl (Nat.le_of_ble_eq_true rfl) dX10_whyNoExport_28 ⟨Nat.le_of_ble_eq_true rfl, Nat.le_of_ble_eq_true rfl⟩ (c_X10_refused ax 2 mm _ h) rfl rfl (gV kw_7_126 kw_7_128 ks_95 kw_1_11 kw_7_129) hy_X10_refused ⟨Nat.le_of_ble_eq_true rfl, Nat.le_of_ble_eq_true rfl⟩) (fun r_7 m_8 h => ?_)
      refine q_if_eq (tgt := 38) X dX10_whyNoExport_31 (by decide) (fun c_9 => ?_) (fun c_9 => ?_)
      · have h := h.1 c_9
        refine q_aload_n (j := 1) X dX10_whyNoExport_38 rfl rfl ?_
        refine q_iload_n (j := 0) X dX10_whyNoExport_39 rfl rfl ?_
        refine q_iload_n (j := 3) X dX10_whyNoExport_40 rfl rfl ?_
        refine q_calli (q_runV X hK hZ zo (gm (t := 30) (by decide) (ok1 (t := 30) (Nat.le_of_ble_eq_true rfl))) rfl rfl [.int r_1, .int p1] [] rfl rfl (Nat.le_of_ble_eq_true rfl) dX10_whyNoExport_41 ⟨Nat.le_of_ble_eq_true rfl, Nat.le_of_ble_eq_true rfl⟩ (c_X10_noExport ax r_1 p1 m_8 _ h) rfl rfl (gV kw_7_189 kw_7_191 ks_108 kw_1_11 kw_7_192) hy_X10_noExport ⟨Nat.le_of_ble_eq_true rfl, Nat.le_of_ble_eq_true rfl⟩) (fun r_10 m_11 h => ?_)
        obtain ⟨h, hm⟩ := h
        subst hm
        exact hE _ _ _ _ dX10_whyNoExport_44 h
      · have h := h.2 c_9
        refine q_iconst (v := 0) X dX10_whyNoExport_34 (by decide) ?_
        refine q_goto (tgt := 44) X dX10_whyNoExport_35 (by decide) ?_
        exact hE _ _ _ _ dX10_whyNoExport_44 h
    · have h := h.2 c_6
      refine q_iconst (v := 0) X dX10_whyNoExport_23 (by decide) ?_
      refine q_goto (tgt := 28) X dX10_whyNoExport_24 (by decide) ?_
      refine q_calli (q_runV X hK hZ zo (gm (t := 30) (by decide) (ok1 (t := 30) (Nat.le_of_ble_eq_true rfl))) rfl rfl [.int 0] [] rfl rfl (Nat.le_of_ble_eq_true rfl) dX10_whyNoExport_28 ⟨Nat.le_of_ble_eq_true rfl, Nat.le_of_ble_eq_true rfl⟩ (c_X10_refused ax 0 mm _ h) rfl rfl (gV kw_7_126 kw_7_128 ks_95 kw_1_11 kw_7_129) hy_X10_refused ⟨Nat.le_of_ble_eq_true rfl, Nat.le_of_ble_eq_true rfl⟩) (fun r_12 m_13 h => ?_)
      refine q_if_eq (tgt := 38) X dX10_whyNoExport_31 (by decide) (fun c_14 => ?_) (fun c_14 => ?_)
      · have h := h.1 c_14
        refine q_aload_n (j := 1) X dX10_whyNoExport_38 rfl rfl ?_
        refine q_iload_n (j := 0) X dX10_whyNoExport_39 rfl rfl ?_
        refine q_iload_n (j := 3) X dX10_whyNoExport_40 rfl rfl ?_
        refine q_calli (q_runV X hK hZ zo (gm (t := 30) (by decide) (ok1 (t := 30) (Nat.le_of_ble_eq_true rfl))) rfl rfl [.int r_1, .int p1] [] rfl rfl (Nat.le_of_ble_eq_true rfl) dX10_whyNoExport_41 ⟨Nat.le_of_ble_eq_true rfl, Nat.le_of_ble_eq_true rfl⟩ (c_X10_noExport ax r_1 p1 m_13 _ h) rfl rfl (gV kw_7_189 kw_7_191 ks_108 kw_1_11 kw_7_192) hy_X10_noExport ⟨Nat.le_of_ble_eq_true rfl, Nat.le_of_ble_eq_true rfl⟩) (fun r_15 m_16 h => ?_)
        obtain ⟨h, hm⟩ := h
        subst hm
        exact hE _ _ _ _ dX10_whyNoExport_44 h
      · have h := h.2 c_14
        refine q_iconst (v := 0) X dX10_whyNoExport_34 (by decide) ?_
        refine q_goto (tgt := 44) X dX10_whyNoExport_35 (by decide) ?_
        exact hE _ _ _ _ dX10_whyNoExport_44 h
  · have h := h.2 c_3
    refine q_iconst (v := 1) X dX10_whyNoExport_12 (by decide) ?_
    refine q_goto (tgt := 28) X dX10_whyNoExport_13 (by decide) ?_
    refine q_calli (q_runV X hK hZ zo (gm (t := 30) (by decide) (ok1 (t := 30) (Nat.le_of_ble_eq_true rfl))) rfl rfl [.int 1] [] rfl rfl (Nat.le_of_ble_eq_true rfl) dX10_whyNoExport_28 ⟨Nat.le_of_ble_eq_true rfl, Nat.le_of_ble_eq_true rfl⟩ (c_X10_refused ax 1 mm _ h) rfl rfl (gV kw_7_126 kw_7_128 ks_95 kw_1_11 kw_7_129) hy_X10_refused ⟨Nat.le_of_ble_eq_true rfl, Nat.le_of_ble_eq_true rfl⟩) (fun r_17 m_18 h => ?_)
    refine q_if_eq (tgt := 38) X dX10_whyNoExport_31 (by decide) (fun c_19 => ?_) (fun c_19 => ?_)
    · have h := h.1 c_19
      refine q_aload_n (j := 1) X dX10_whyNoExport_38 rfl rfl ?_
      refine q_iload_n (j := 0) X dX10_whyNoExport_39 rfl rfl ?_
      refine q_iload_n (j := 3) X dX10_whyNoExport_40 rfl rfl ?_
      refine q_calli (q_runV X hK hZ zo (gm (t := 30) (by decide) (ok1 (t := 30) (Nat.le_of_ble_eq_true rfl))) rfl rfl [.int r_1, .int p1] [] rfl rfl (Nat.le_of_ble_eq_true rfl) dX10_whyNoExport_41 ⟨Nat.le_of_ble_eq_true rfl, Nat.le_of_ble_eq_true rfl⟩ (c_X10_noExport ax r_1 p1 m_18 _ h) rfl rfl (gV kw_7_189 kw_7_191 ks_108 kw_1_11 kw_7_192) hy_X10_noExport ⟨Nat.le_of_ble_eq_true rfl, Nat.le_of_ble_eq_true rfl⟩) (fun r_20 m_21 h => ?_)
      obtain ⟨h, hm⟩ := h
      subst hm
      exact hE _ _ _ _ dX10_whyNoExport_44 h
    · have h := h.2 c_19
      refine q_iconst (v := 0) X dX10_whyNoExport_34 (by decide) ?_
      refine q_goto (tgt := 44) X dX10_whyNoExport_35 (by decide) ?_
      exact hE _ _ _ _ dX10_whyNoExport_44 h
theorem dX10_whyNoMove_0 : decode cX10_whyNoMove 0 = .ok (.aload_n 0, 1) := by decide +kernel
theorem dX10_whyNoMove_1 : decode cX10_whyNoMove 1 = .ok (.iload_n 1, 1) := by decide +kernel
theorem dX10_whyNoMove_2 : decode cX10_whyNoMove 2 = .ok (.invokevirtual 156, 3) := by decide +kernel
theorem dX10_whyNoMove_5 : decode cX10_whyNoMove 5 = .ok (.istore_n 3, 1) := by decide +kernel
theorem dX10_whyNoMove_6 : decode cX10_whyNoMove 6 = .ok (.aload_n 0, 1) := by decide +kernel
theorem dX10_whyNoMove_7 : decode cX10_whyNoMove 7 = .ok (.iload_n 3, 1) := by decide +kernel
theorem dX10_whyNoMove_8 : decode cX10_whyNoMove 8 = .ok (.iconst (-1), 1) := by decide +kernel
theorem dX10_whyNoMove_9 : decode cX10_whyNoMove 9 = .ok (.if_icmp .eq 10, 3) := by decide +kernel
theorem dX10_whyNoMove_12 : decode cX10_whyNoMove 12 = .ok (.iload_n 2, 1) := by decide +kernel
theorem dX10_whyNoMove_13 : decode cX10_whyNoMove 13 = .ok (.invokestatic 137, 3) := by decide +kernel
theorem dX10_whyNoMove_16 : decode cX10_whyNoMove 16 = .ok (.ifCond .ne 7, 3) := by decide +kernel
theorem dX10_whyNoMove_19 : decode cX10_whyNoMove 19 = .ok (.iconst 1, 1) := by decide +kernel
theorem dX10_whyNoMove_20 : decode cX10_whyNoMove 20 = .ok (.goto 4, 3) := by decide +kernel
theorem dX10_whyNoMove_23 : decode cX10_whyNoMove 23 = .ok (.iconst 0, 1) := by decide +kernel
theorem dX10_whyNoMove_24 : decode cX10_whyNoMove 24 = .ok (.invokevirtual 147, 3) := by decide +kernel
theorem dX10_whyNoMove_27 : decode cX10_whyNoMove 27 = .ok (.ifCond .eq 7, 3) := by decide +kernel
theorem dX10_whyNoMove_30 : decode cX10_whyNoMove 30 = .ok (.iconst 0, 1) := by decide +kernel
theorem dX10_whyNoMove_31 : decode cX10_whyNoMove 31 = .ok (.goto 9, 3) := by decide +kernel
theorem dX10_whyNoMove_34 : decode cX10_whyNoMove 34 = .ok (.aload_n 0, 1) := by decide +kernel
theorem dX10_whyNoMove_35 : decode cX10_whyNoMove 35 = .ok (.iload_n 3, 1) := by decide +kernel
theorem dX10_whyNoMove_36 : decode cX10_whyNoMove 36 = .ok (.iload_n 2, 1) := by decide +kernel
theorem dX10_whyNoMove_37 : decode cX10_whyNoMove 37 = .ok (.invokevirtual 180, 3) := by decide +kernel
theorem dX10_whyNoMove_40 : decode cX10_whyNoMove 40 = .ok (.ireturn, 1) := by decide +kernel
def w_X10_whyNoMove_J19 (p1 : Int32) (mm : Mm) (Q9 : Int32 → Mm → Prop) (r_1 : Int32) : Prop :=
  w_X10_refused 1 mm (fun (r_3 : Int32) (m_4 : Mm) => ((r_3 = 0 → w_X10_noMove r_1 p1 m_4 (fun (r_6 : Int32) => Q9 r_6 m_4)) ∧
  (¬ r_3 = 0 → Q9 0 m_4)))
def w_X10_whyNoMove (p0 : Int32) (p1 : Int32) (mm : Mm) (Q9 : Int32 → Mm → Prop) : Prop :=
  w_X10_find p0 mm (fun (r_1 : Int32) => ((r_1 = (-1) → w_X10_whyNoMove_J19 p1 mm Q9 r_1) ∧
  (¬ r_1 = (-1) → w_X10_isChamber p1 mm (fun (r_9 : Int32) => ((¬ r_9 = 0 → w_X10_refused 0 mm (fun (r_12 : Int32) (m_13 : Mm) => ((r_12 = 0 → w_X10_noMove r_1 p1 m_13 (fun (r_15 : Int32) => Q9 r_15 m_13)) ∧
  (¬ r_12 = 0 → Q9 0 m_13)))) ∧
  (r_9 = 0 → w_X10_whyNoMove_J19 p1 mm Q9 r_1))))))
def rm_X10_whyNoMove : Room := { frames := 3, cells := 0, slots := 0, locals := 67 }
theorem hy_X10_whyNoMove : yX10_whyNoMove.cls = RX10 ∧ yX10_whyNoMove.cls ≠ "java/lang/invoke/MethodHandle" ∧ yX10_whyNoMove.cls ≠ "java/lang/invoke/VarHandle" ∧ (parseMethodDescriptor yX10_whyNoMove.desc).map (fun d => d.parameters.length) = some 2 := by decide +kernel
set_option maxRecDepth 100000 in
set_option maxHeartbeats 4000000 in
theorem c_X10_whyNoMove {l : Launch} {D : va_G} {cA : Nat → ClassId} {ad : Nat → Nat → Nat} {A : Nat → Prop} (ax : Ax ad GM A) (p0 : Int32) (p1 : Int32) (mm : Mm) (Q9 : Int32 → Mm → Prop) (h : w_X10_whyNoMove p0 p1 mm Q9) : Met l yX10_whyNoMove (.code yX10_whyNoMove cX10_whyNoMove 4 (some .int) :: TG) rm_X10_whyNoMove (PcM TT D cA ad false GM (ZM) [.ref (ad 30 1), .int p0, .int p1] mm) (AnsI TT D cA ad false GM A Q9) 0 0 A := by
  have zo := ZM_ok A
  unfold w_X10_whyNoMove at h
  refine enterI pl_X10 ⟨rfl, rfl⟩ rfl (Nat.le_of_ble_eq_true rfl) ?_
  intro p e s m args below meth c QQ X hK hZ hnm hE
  refine q_aload_n (j := 0) X dX10_whyNoMove_0 rfl rfl ?_
  refine q_iload_n (j := 1) X dX10_whyNoMove_1 rfl rfl ?_
  refine q_calli (q_runV X hK hZ zo (gm (t := 30) (by decide) (ok1 (t := 30) (Nat.le_of_ble_eq_true rfl))) rfl rfl [.int p0] [] rfl rfl (Nat.le_of_ble_eq_true rfl) dX10_whyNoMove_2 ⟨Nat.le_of_ble_eq_true rfl, Nat.le_of_ble_eq_true rfl⟩ (c_X10_find ax p0 mm _ h) rfl rfl (gV kw_7_157 kw_7_159 ks_101 kw_1_11 kw_7_160) hy_X10_find ⟨Nat.le_of_ble_eq_true rfl, Nat.le_of_ble_eq_true rfl⟩) (fun r_1 m_2 h => ?_)
  obtain ⟨h, hm⟩ := h
  subst hm
  refine q_istore_n (lv' := [(3, .int r_1), (0, .ref (ad 30 1)), (1, .int p0), (2, .int p1)]) X dX10_whyNoMove_5 rfl (by decide) rfl ?_
  refine q_aload_n (j := 1) X dX10_whyNoMove_6 rfl rfl ?_
  refine q_iload_n (j := 0) X dX10_whyNoMove_7 rfl rfl ?_
  refine q_iconst (v := (-1)) X dX10_whyNoMove_8 (by decide) ?_
  have J19 : w_X10_whyNoMove_J19 p1 mm Q9 r_1  → V p l e rm_X10_whyNoMove s m args below meth c QQ 4 A 0 0 (Rep TT D cA ad false GM mm) 19 [(0, .ref (ad 30 1)), (2, .int p1), (3, .int r_1)] [.ref (ad 30 1)] := by
    intro  h
    unfold w_X10_whyNoMove_J19 at h
    refine q_iconst (v := 1) X dX10_whyNoMove_19 (by decide) ?_
    refine q_goto (tgt := 24) X dX10_whyNoMove_20 (by decide) ?_
    refine q_calli (q_runV X hK hZ zo (gm (t := 30) (by decide) (ok1 (t := 30) (Nat.le_of_ble_eq_true rfl))) rfl rfl [.int 1] [] rfl rfl (Nat.le_of_ble_eq_true rfl) dX10_whyNoMove_24 ⟨Nat.le_of_ble_eq_true rfl, Nat.le_of_ble_eq_true rfl⟩ (c_X10_refused ax 1 mm _ h) rfl rfl (gV kw_7_126 kw_7_128 ks_95 kw_1_11 kw_7_129) hy_X10_refused ⟨Nat.le_of_ble_eq_true rfl, Nat.le_of_ble_eq_true rfl⟩) (fun r_3 m_4 h => ?_)
    refine q_if_eq (tgt := 34) X dX10_whyNoMove_27 (by decide) (fun c_5 => ?_) (fun c_5 => ?_)
    · have h := h.1 c_5
      refine q_aload_n (j := 0) X dX10_whyNoMove_34 rfl rfl ?_
      refine q_iload_n (j := 2) X dX10_whyNoMove_35 rfl rfl ?_
      refine q_iload_n (j := 1) X dX10_whyNoMove_36 rfl rfl ?_
      refine q_calli (q_runV X hK hZ zo (gm (t := 30) (by decide) (ok1 (t := 30) (Nat.le_of_ble_eq_true rfl))) rfl rfl [.int r_1, .int p1] [] rfl rfl (Nat.le_of_ble_eq_true rfl) dX10_whyNoMove_37 ⟨Nat.le_of_ble_eq_true rfl, Nat.le_of_ble_eq_true rfl⟩ (c_X10_noMove ax r_1 p1 m_4 _ h) rfl rfl (gV kw_7_225 kw_7_227 ks_115 kw_1_11 kw_7_228) hy_X10_noMove ⟨Nat.le_of_ble_eq_true rfl, Nat.le_of_ble_eq_true rfl⟩) (fun r_6 m_7 h => ?_)
      obtain ⟨h, hm⟩ := h
      subst hm
      exact hE _ _ _ _ dX10_whyNoMove_40 h
    · have h := h.2 c_5
      refine q_iconst (v := 0) X dX10_whyNoMove_30 (by decide) ?_
      refine q_goto (tgt := 40) X dX10_whyNoMove_31 (by decide) ?_
      exact hE _ _ _ _ dX10_whyNoMove_40 h
  refine q_icmp_eq (tgt := 19) X dX10_whyNoMove_9 (by decide) (fun c_8 => ?_) (fun c_8 => ?_)
  · have h := h.1 c_8
    refine q_sub [1, 3, 0] rfl ?_
    exact J19  h
  · have h := h.2 c_8
    refine q_iload_n (j := 3) X dX10_whyNoMove_12 rfl rfl ?_
    refine q_calli (q_runS X hK hZ zo [.int p1] [.ref (ad 30 1)] rfl rfl (Nat.le_of_ble_eq_true rfl) dX10_whyNoMove_13 ⟨Nat.le_of_ble_eq_true rfl, Nat.le_of_ble_eq_true rfl⟩ (c_X10_isChamber ax p1 mm _ h) rfl rfl (gS kw_7_79 kw_7_80 kw_1_11 kw_7_81) hy_X10_isChamber.2 ⟨Nat.le_of_ble_eq_true rfl, Nat.le_of_ble_eq_true rfl⟩) (fun r_9 m_10 h => ?_)
    obtain ⟨h, hm⟩ := h
    subst hm
    refine q_if_ne (tgt := 23) X dX10_whyNoMove_16 (by decide) (fun c_11 => ?_) (fun c_11 => ?_)
    · have h := h.1 c_11
      refine q_iconst (v := 0) X dX10_whyNoMove_23 (by decide) ?_
      refine q_calli (q_runV X hK hZ zo (gm (t := 30) (by decide) (ok1 (t := 30) (Nat.le_of_ble_eq_true rfl))) rfl rfl [.int 0] [] rfl rfl (Nat.le_of_ble_eq_true rfl) dX10_whyNoMove_24 ⟨Nat.le_of_ble_eq_true rfl, Nat.le_of_ble_eq_true rfl⟩ (c_X10_refused ax 0 mm _ h) rfl rfl (gV kw_7_126 kw_7_128 ks_95 kw_1_11 kw_7_129) hy_X10_refused ⟨Nat.le_of_ble_eq_true rfl, Nat.le_of_ble_eq_true rfl⟩) (fun r_12 m_13 h => ?_)
      refine q_if_eq (tgt := 34) X dX10_whyNoMove_27 (by decide) (fun c_14 => ?_) (fun c_14 => ?_)
      · have h := h.1 c_14
        refine q_aload_n (j := 1) X dX10_whyNoMove_34 rfl rfl ?_
        refine q_iload_n (j := 0) X dX10_whyNoMove_35 rfl rfl ?_
        refine q_iload_n (j := 3) X dX10_whyNoMove_36 rfl rfl ?_
        refine q_calli (q_runV X hK hZ zo (gm (t := 30) (by decide) (ok1 (t := 30) (Nat.le_of_ble_eq_true rfl))) rfl rfl [.int r_1, .int p1] [] rfl rfl (Nat.le_of_ble_eq_true rfl) dX10_whyNoMove_37 ⟨Nat.le_of_ble_eq_true rfl, Nat.le_of_ble_eq_true rfl⟩ (c_X10_noMove ax r_1 p1 m_13 _ h) rfl rfl (gV kw_7_225 kw_7_227 ks_115 kw_1_11 kw_7_228) hy_X10_noMove ⟨Nat.le_of_ble_eq_true rfl, Nat.le_of_ble_eq_true rfl⟩) (fun r_15 m_16 h => ?_)
        obtain ⟨h, hm⟩ := h
        subst hm
        exact hE _ _ _ _ dX10_whyNoMove_40 h
      · have h := h.2 c_14
        refine q_iconst (v := 0) X dX10_whyNoMove_30 (by decide) ?_
        refine q_goto (tgt := 40) X dX10_whyNoMove_31 (by decide) ?_
        exact hE _ _ _ _ dX10_whyNoMove_40 h
    · have h := h.2 c_11
      refine q_sub [1, 3, 0] rfl ?_
      exact J19  h
theorem dX10_whyNoDrawback_0 : decode cX10_whyNoDrawback 0 = .ok (.aload_n 0, 1) := by decide +kernel
theorem dX10_whyNoDrawback_1 : decode cX10_whyNoDrawback 1 = .ok (.aload_n 0, 1) := by decide +kernel
theorem dX10_whyNoDrawback_2 : decode cX10_whyNoDrawback 2 = .ok (.iload_n 1, 1) := by decide +kernel
theorem dX10_whyNoDrawback_3 : decode cX10_whyNoDrawback 3 = .ok (.invokevirtual 171, 3) := by decide +kernel
theorem dX10_whyNoDrawback_6 : decode cX10_whyNoDrawback 6 = .ok (.ifCond .ne 7, 3) := by decide +kernel
theorem dX10_whyNoDrawback_9 : decode cX10_whyNoDrawback 9 = .ok (.iconst 1, 1) := by decide +kernel
theorem dX10_whyNoDrawback_10 : decode cX10_whyNoDrawback 10 = .ok (.goto 15, 3) := by decide +kernel
theorem dX10_whyNoDrawback_13 : decode cX10_whyNoDrawback 13 = .ok (.iload_n 2, 1) := by decide +kernel
theorem dX10_whyNoDrawback_14 : decode cX10_whyNoDrawback 14 = .ok (.invokestatic 132, 3) := by decide +kernel
theorem dX10_whyNoDrawback_17 : decode cX10_whyNoDrawback 17 = .ok (.ifCond .eq 7, 3) := by decide +kernel
theorem dX10_whyNoDrawback_20 : decode cX10_whyNoDrawback 20 = .ok (.iconst 0, 1) := by decide +kernel
theorem dX10_whyNoDrawback_21 : decode cX10_whyNoDrawback 21 = .ok (.goto 4, 3) := by decide +kernel
theorem dX10_whyNoDrawback_24 : decode cX10_whyNoDrawback 24 = .ok (.iconst 2, 1) := by decide +kernel
theorem dX10_whyNoDrawback_25 : decode cX10_whyNoDrawback 25 = .ok (.invokevirtual 147, 3) := by decide +kernel
theorem dX10_whyNoDrawback_28 : decode cX10_whyNoDrawback 28 = .ok (.ifCond .eq 7, 3) := by decide +kernel
theorem dX10_whyNoDrawback_31 : decode cX10_whyNoDrawback 31 = .ok (.iconst 0, 1) := by decide +kernel
theorem dX10_whyNoDrawback_32 : decode cX10_whyNoDrawback 32 = .ok (.goto 9, 3) := by decide +kernel
theorem dX10_whyNoDrawback_35 : decode cX10_whyNoDrawback 35 = .ok (.aload_n 0, 1) := by decide +kernel
theorem dX10_whyNoDrawback_36 : decode cX10_whyNoDrawback 36 = .ok (.iload_n 1, 1) := by decide +kernel
theorem dX10_whyNoDrawback_37 : decode cX10_whyNoDrawback 37 = .ok (.iload_n 2, 1) := by decide +kernel
theorem dX10_whyNoDrawback_38 : decode cX10_whyNoDrawback 38 = .ok (.invokevirtual 174, 3) := by decide +kernel
theorem dX10_whyNoDrawback_41 : decode cX10_whyNoDrawback 41 = .ok (.ireturn, 1) := by decide +kernel
def w_X10_whyNoDrawback (p0 : Int32) (p1 : Int32) (mm : Mm) (Q9 : Int32 → Mm → Prop) : Prop :=
  w_X10_isPaper p0 mm (fun (r_1 : Int32) => ((¬ r_1 = 0 → w_X10_isWeight p1 mm (fun (r_4 : Int32) => ((r_4 = 0 → w_X10_refused 2 mm (fun (r_7 : Int32) (m_8 : Mm) => ((r_7 = 0 → w_X10_noDrawback p0 p1 m_8 (fun (r_10 : Int32) => Q9 r_10 m_8)) ∧
  (¬ r_7 = 0 → Q9 0 m_8)))) ∧
  (¬ r_4 = 0 → w_X10_refused 0 mm (fun (r_12 : Int32) (m_13 : Mm) => ((r_12 = 0 → w_X10_noDrawback p0 p1 m_13 (fun (r_15 : Int32) => Q9 r_15 m_13)) ∧
  (¬ r_12 = 0 → Q9 0 m_13))))))) ∧
  (r_1 = 0 → w_X10_refused 1 mm (fun (r_17 : Int32) (m_18 : Mm) => ((r_17 = 0 → w_X10_noDrawback p0 p1 m_18 (fun (r_20 : Int32) => Q9 r_20 m_18)) ∧
  (¬ r_17 = 0 → Q9 0 m_18))))))
def rm_X10_whyNoDrawback : Room := { frames := 2, cells := 0, slots := 0, locals := 46 }
theorem hy_X10_whyNoDrawback : yX10_whyNoDrawback.cls = RX10 ∧ yX10_whyNoDrawback.cls ≠ "java/lang/invoke/MethodHandle" ∧ yX10_whyNoDrawback.cls ≠ "java/lang/invoke/VarHandle" ∧ (parseMethodDescriptor yX10_whyNoDrawback.desc).map (fun d => d.parameters.length) = some 2 := by decide +kernel
set_option maxRecDepth 100000 in
set_option maxHeartbeats 4000000 in
theorem c_X10_whyNoDrawback {l : Launch} {D : va_G} {cA : Nat → ClassId} {ad : Nat → Nat → Nat} {A : Nat → Prop} (ax : Ax ad GM A) (p0 : Int32) (p1 : Int32) (mm : Mm) (Q9 : Int32 → Mm → Prop) (h : w_X10_whyNoDrawback p0 p1 mm Q9) : Met l yX10_whyNoDrawback (.code yX10_whyNoDrawback cX10_whyNoDrawback 3 (some .int) :: TG) rm_X10_whyNoDrawback (PcM TT D cA ad false GM (ZM) [.ref (ad 30 1), .int p0, .int p1] mm) (AnsI TT D cA ad false GM A Q9) 0 0 A := by
  have zo := ZM_ok A
  unfold w_X10_whyNoDrawback at h
  refine enterI pl_X10 ⟨rfl, rfl⟩ rfl (Nat.le_of_ble_eq_true rfl) ?_
  intro p e s m args below meth c QQ X hK hZ hnm hE
  refine q_aload_n (j := 0) X dX10_whyNoDrawback_0 rfl rfl ?_
  refine q_aload_n (j := 0) X dX10_whyNoDrawback_1 rfl rfl ?_
  refine q_iload_n (j := 1) X dX10_whyNoDrawback_2 rfl rfl ?_
  refine q_calli (q_runV X hK hZ zo (gm (t := 30) (by decide) (ok1 (t := 30) (Nat.le_of_ble_eq_true rfl))) rfl rfl [.int p0] [.ref (ad 30 1)] rfl rfl (Nat.le_of_ble_eq_true rfl) dX10_whyNoDrawback_3 ⟨Nat.le_of_ble_eq_true rfl, Nat.le_of_ble_eq_true rfl⟩ (c_X10_isPaper ax p0 mm _ h) rfl rfl (gV kw_7_201 kw_7_203 ks_110 kw_1_11 kw_7_204) hy_X10_isPaper ⟨Nat.le_of_ble_eq_true rfl, Nat.le_of_ble_eq_true rfl⟩) (fun r_1 m_2 h => ?_)
  obtain ⟨h, hm⟩ := h
  subst hm
  refine q_if_ne (tgt := 13) X dX10_whyNoDrawback_6 (by decide) (fun c_3 => ?_) (fun c_3 => ?_)
  · have h := h.1 c_3
    refine q_iload_n (j := 2) X dX10_whyNoDrawback_13 rfl rfl ?_
    refine q_calli (q_runS X hK hZ zo [.int p1] [.ref (ad 30 1)] rfl rfl (Nat.le_of_ble_eq_true rfl) dX10_whyNoDrawback_14 ⟨Nat.le_of_ble_eq_true rfl, Nat.le_of_ble_eq_true rfl⟩ (c_X10_isWeight ax p1 mm _ h) rfl rfl (gS kw_7_74 kw_7_75 kw_1_11 kw_7_76) hy_X10_isWeight.2 ⟨Nat.le_of_ble_eq_true rfl, Nat.le_of_ble_eq_true rfl⟩) (fun r_4 m_5 h => ?_)
    obtain ⟨h, hm⟩ := h
    subst hm
    refine q_if_eq (tgt := 24) X dX10_whyNoDrawback_17 (by decide) (fun c_6 => ?_) (fun c_6 => ?_)
    · have h := h.1 c_6
      refine q_iconst (v := 2) X dX10_whyNoDrawback_24 (by decide) ?_
      refine q_calli (q_runV X hK hZ zo (gm (t := 30) (by decide) (ok1 (t := 30) (Nat.le_of_ble_eq_true rfl))) rfl rfl [.int 2] [] rfl rfl (Nat.le_of_ble_eq_true rfl) dX10_whyNoDrawback_25 ⟨Nat.le_of_ble_eq_true rfl, Nat.le_of_ble_eq_true rfl⟩ (c_X10_refused ax 2 mm _ h) rfl rfl (gV kw_7_126 kw_7_128 ks_95 kw_1_11 kw_7_129) hy_X10_refused ⟨Nat.le_of_ble_eq_true rfl, Nat.le_of_ble_eq_true rfl⟩) (fun r_7 m_8 h => ?_)
      refine q_if_eq (tgt := 35) X dX10_whyNoDrawback_28 (by decide) (fun c_9 => ?_) (fun c_9 => ?_)
      · have h := h.1 c_9
        refine q_aload_n (j := 0) X dX10_whyNoDrawback_35 rfl rfl ?_
        refine q_iload_n (j := 1) X dX10_whyNoDrawback_36 rfl rfl ?_
        refine q_iload_n (j := 2) X dX10_whyNoDrawback_37 rfl rfl ?_
        refine q_calli (q_runV X hK hZ zo (gm (t := 30) (by decide) (ok1 (t := 30) (Nat.le_of_ble_eq_true rfl))) rfl rfl [.int p0, .int p1] [] rfl rfl (Nat.le_of_ble_eq_true rfl) dX10_whyNoDrawback_38 ⟨Nat.le_of_ble_eq_true rfl, Nat.le_of_ble_eq_true rfl⟩ (c_X10_noDrawback ax p0 p1 m_8 _ h) rfl rfl (gV kw_7_205 kw_7_207 ks_111 kw_1_11 kw_7_208) hy_X10_noDrawback ⟨Nat.le_of_ble_eq_true rfl, Nat.le_of_ble_eq_true rfl⟩) (fun r_10 m_11 h => ?_)
        obtain ⟨h, hm⟩ := h
        subst hm
        exact hE _ _ _ _ dX10_whyNoDrawback_41 h
      · have h := h.2 c_9
        refine q_iconst (v := 0) X dX10_whyNoDrawback_31 (by decide) ?_
        refine q_goto (tgt := 41) X dX10_whyNoDrawback_32 (by decide) ?_
        exact hE _ _ _ _ dX10_whyNoDrawback_41 h
    · have h := h.2 c_6
      refine q_iconst (v := 0) X dX10_whyNoDrawback_20 (by decide) ?_
      refine q_goto (tgt := 25) X dX10_whyNoDrawback_21 (by decide) ?_
      refine q_calli (q_runV X hK hZ zo (gm (t := 30) (by decide) (ok1 (t := 30) (Nat.le_of_ble_eq_true rfl))) rfl rfl [.int 0] [] rfl rfl (Nat.le_of_ble_eq_true rfl) dX10_whyNoDrawback_25 ⟨Nat.le_of_ble_eq_true rfl, Nat.le_of_ble_eq_true rfl⟩ (c_X10_refused ax 0 mm _ h) rfl rfl (gV kw_7_126 kw_7_128 ks_95 kw_1_11 kw_7_129) hy_X10_refused ⟨Nat.le_of_ble_eq_true rfl, Nat.le_of_ble_eq_true rfl⟩) (fun r_12 m_13 h => ?_)
      refine q_if_eq (tgt := 35) X dX10_whyNoDrawback_28 (by decide) (fun c_14 => ?_) (fun c_14 => ?_)
      · have h := h.1 c_14
        refine q_aload_n (j := 0) X dX10_whyNoDrawback_35 rfl rfl ?_
        refine q_iload_n (j := 1) X dX10_whyNoDrawback_36 rfl rfl ?_
        refine q_iload_n (j := 2) X dX10_whyNoDrawback_37 rfl rfl ?_
        refine q_calli (q_runV X hK hZ zo (gm (t := 30) (by decide) (ok1 (t := 30) (Nat.le_of_ble_eq_true rfl))) rfl rfl [.int p0, .int p1] [] rfl rfl (Nat.le_of_ble_eq_true rfl) dX10_whyNoDrawback_38 ⟨Nat.le_of_ble_eq_true rfl, Nat.le_of_ble_eq_true rfl⟩ (c_X10_noDrawback ax p0 p1 m_13 _ h) rfl rfl (gV kw_7_205 kw_7_207 ks_111 kw_1_11 kw_7_208) hy_X10_noDrawback ⟨Nat.le_of_ble_eq_true rfl, Nat.le_of_ble_eq_true rfl⟩) (fun r_15 m_16 h => ?_)
        obtain ⟨h, hm⟩ := h
        subst hm
        exact hE _ _ _ _ dX10_whyNoDrawback_41 h
      · have h := h.2 c_14
        refine q_iconst (v := 0) X dX10_whyNoDrawback_31 (by decide) ?_
        refine q_goto (tgt := 41) X dX10_whyNoDrawback_32 (by decide) ?_
        exact hE _ _ _ _ dX10_whyNoDrawback_41 h
  · have h := h.2 c_3
    refine q_iconst (v := 1) X dX10_whyNoDrawback_9 (by decide) ?_
    refine q_goto (tgt := 25) X dX10_whyNoDrawback_10 (by decide) ?_
    refine q_calli (q_runV X hK hZ zo (gm (t := 30) (by decide) (ok1 (t := 30) (Nat.le_of_ble_eq_true rfl))) rfl rfl [.int 1] [] rfl rfl (Nat.le_of_ble_eq_true rfl) dX10_whyNoDrawback_25 ⟨Nat.le_of_ble_eq_true rfl, Nat.le_of_ble_eq_true rfl⟩ (c_X10_refused ax 1 mm _ h) rfl rfl (gV kw_7_126 kw_7_128 ks_95 kw_1_11 kw_7_129) hy_X10_refused ⟨Nat.le_of_ble_eq_true rfl, Nat.le_of_ble_eq_true rfl⟩) (fun r_17 m_18 h => ?_)
    refine q_if_eq (tgt := 35) X dX10_whyNoDrawback_28 (by decide) (fun c_19 => ?_) (fun c_19 => ?_)
    · have h := h.1 c_19
      refine q_aload_n (j := 0) X dX10_whyNoDrawback_35 rfl rfl ?_
      refine q_iload_n (j := 1) X dX10_whyNoDrawback_36 rfl rfl ?_
      refine q_iload_n (j := 2) X dX10_whyNoDrawback_37 rfl rfl ?_
      refine q_calli (q_runV X hK hZ zo (gm (t := 30) (by decide) (ok1 (t := 30) (Nat.le_of_ble_eq_true rfl))) rfl rfl [.int p0, .int p1] [] rfl rfl (Nat.le_of_ble_eq_true rfl) dX10_whyNoDrawback_38 ⟨Nat.le_of_ble_eq_true rfl, Nat.le_of_ble_eq_true rfl⟩ (c_X10_noDrawback ax p0 p1 m_18 _ h) rfl rfl (gV kw_7_205 kw_7_207 ks_111 kw_1_11 kw_7_208) hy_X10_noDrawback ⟨Nat.le_of_ble_eq_true rfl, Nat.le_of_ble_eq_true rfl⟩) (fun r_20 m_21 h => ?_)
      obtain ⟨h, hm⟩ := h
      subst hm
      exact hE _ _ _ _ dX10_whyNoDrawback_41 h
    · have h := h.2 c_19
      refine q_iconst (v := 0) X dX10_whyNoDrawback_31 (by decide) ?_
      refine q_goto (tgt := 41) X dX10_whyNoDrawback_32 (by decide) ?_
      exact hE _ _ _ _ dX10_whyNoDrawback_41 h
theorem dX10_chargeIfWeighed_0 : decode cX10_chargeIfWeighed 0 = .ok (.aload_n 0, 1) := by decide +kernel
theorem dX10_chargeIfWeighed_1 : decode cX10_chargeIfWeighed 1 = .ok (.iload_n 1, 1) := by decide +kernel
theorem dX10_chargeIfWeighed_2 : decode cX10_chargeIfWeighed 2 = .ok (.invokevirtual 156, 3) := by decide +kernel
theorem dX10_chargeIfWeighed_5 : decode cX10_chargeIfWeighed 5 = .ok (.istore_n 3, 1) := by decide +kernel
theorem dX10_chargeIfWeighed_6 : decode cX10_chargeIfWeighed 6 = .ok (.aload_n 0, 1) := by decide +kernel
theorem dX10_chargeIfWeighed_7 : decode cX10_chargeIfWeighed 7 = .ok (.iload_n 3, 1) := by decide +kernel
theorem dX10_chargeIfWeighed_8 : decode cX10_chargeIfWeighed 8 = .ok (.iconst (-1), 1) := by decide +kernel
theorem dX10_chargeIfWeighed_9 : decode cX10_chargeIfWeighed 9 = .ok (.if_icmp .ne 7, 3) := by decide +kernel
theorem dX10_chargeIfWeighed_12 : decode cX10_chargeIfWeighed 12 = .ok (.iconst 1, 1) := by decide +kernel
theorem dX10_chargeIfWeighed_13 : decode cX10_chargeIfWeighed 13 = .ok (.goto 24, 3) := by decide +kernel
theorem dX10_chargeIfWeighed_16 : decode cX10_chargeIfWeighed 16 = .ok (.iload_n 2, 1) := by decide +kernel
theorem dX10_chargeIfWeighed_17 : decode cX10_chargeIfWeighed 17 = .ok (.i2l, 1) := by decide +kernel
theorem dX10_chargeIfWeighed_18 : decode cX10_chargeIfWeighed 18 = .ok (.lconst 0, 1) := by decide +kernel
theorem dX10_chargeIfWeighed_19 : decode cX10_chargeIfWeighed 19 = .ok (.aload_n 0, 1) := by decide +kernel
theorem dX10_chargeIfWeighed_20 : decode cX10_chargeIfWeighed 20 = .ok (.iload_n 3, 1) := by decide +kernel
theorem dX10_chargeIfWeighed_21 : decode cX10_chargeIfWeighed 21 = .ok (.iconst 2, 1) := by decide +kernel
theorem dX10_chargeIfWeighed_22 : decode cX10_chargeIfWeighed 22 = .ok (.invokevirtual 41, 3) := by decide +kernel
theorem dX10_chargeIfWeighed_25 : decode cX10_chargeIfWeighed 25 = .ok (.i2l, 1) := by decide +kernel
theorem dX10_chargeIfWeighed_26 : decode cX10_chargeIfWeighed 26 = .ok (.invokestatic 35, 3) := by decide +kernel
theorem dX10_chargeIfWeighed_29 : decode cX10_chargeIfWeighed 29 = .ok (.ifCond .eq 7, 3) := by decide +kernel
theorem dX10_chargeIfWeighed_32 : decode cX10_chargeIfWeighed 32 = .ok (.iconst 0, 1) := by decide +kernel
theorem dX10_chargeIfWeighed_33 : decode cX10_chargeIfWeighed 33 = .ok (.goto 4, 3) := by decide +kernel
theorem dX10_chargeIfWeighed_36 : decode cX10_chargeIfWeighed 36 = .ok (.iconst 2, 1) := by decide +kernel
theorem dX10_chargeIfWeighed_37 : decode cX10_chargeIfWeighed 37 = .ok (.invokevirtual 147, 3) := by decide +kernel
theorem dX10_chargeIfWeighed_40 : decode cX10_chargeIfWeighed 40 = .ok (.ifCond .eq 7, 3) := by decide +kernel
theorem dX10_chargeIfWeighed_43 : decode cX10_chargeIfWeighed 43 = .ok (.iconst 0, 1) := by decide +kernel
theorem dX10_chargeIfWeighed_44 : decode cX10_chargeIfWeighed 44 = .ok (.goto 9, 3) := by decide +kernel
theorem dX10_chargeIfWeighed_47 : decode cX10_chargeIfWeighed 47 = .ok (.aload_n 0, 1) := by decide +kernel
theorem dX10_chargeIfWeighed_48 : decode cX10_chargeIfWeighed 48 = .ok (.iload_n 3, 1) := by decide +kernel
theorem dX10_chargeIfWeighed_49 : decode cX10_chargeIfWeighed 49 = .ok (.iload_n 2, 1) := by decide +kernel
theorem dX10_chargeIfWeighed_50 : decode cX10_chargeIfWeighed 50 = .ok (.invokevirtual 106, 3) := by decide +kernel
theorem dX10_chargeIfWeighed_53 : decode cX10_chargeIfWeighed 53 = .ok (.ireturn, 1) := by decide +kernel
def w_X10_chargeIfWeighed (p0 : Int32) (p1 : Int32) (mm : Mm) (Q9 : Int32 → Mm → Prop) : Prop :=
  w_X10_find p0 mm (fun (r_1 : Int32) => ((¬ r_1 = (-1) → w_X10_of r_1 2 mm (fun (r_4 : Int32) => w_X10_in (Int32.toInt64 p1) (0 : Int64) (Int32.toInt64 r_4) mm (fun (r_6 : Int32) => ((r_6 = 0 → w_X10_refused 2 mm (fun (r_9 : Int32) (m_10 : Mm) => ((r_9 = 0 → w_X10_chargeBy r_1 p1 m_10 (fun (r_12 : Int32) => Q9 r_12 m_10)) ∧
  (¬ r_9 = 0 → Q9 0 m_10)))) ∧
  (¬ r_6 = 0 → w_X10_refused 0 mm (fun (r_14 : Int32) (m_15 : Mm) => ((r_14 = 0 → w_X10_chargeBy r_1 p1 m_15 (fun (r_17 : Int32) => Q9 r_17 m_15)) ∧
  (¬ r_14 = 0 → Q9 0 m_15)))))))) ∧
  (r_1 = (-1) → w_X10_refused 1 mm (fun (r_19 : Int32) (m_20 : Mm) => ((r_19 = 0 → w_X10_chargeBy r_1 p1 m_20 (fun (r_22 : Int32) => Q9 r_22 m_20)) ∧
  (¬ r_19 = 0 → Q9 0 m_20))))))
def rm_X10_chargeIfWeighed : Room := { frames := 4, cells := 0, slots := 0, locals := 92 }
theorem hy_X10_chargeIfWeighed : yX10_chargeIfWeighed.cls = RX10 ∧ yX10_chargeIfWeighed.cls ≠ "java/lang/invoke/MethodHandle" ∧ yX10_chargeIfWeighed.cls ≠ "java/lang/invoke/VarHandle" ∧ (parseMethodDescriptor yX10_chargeIfWeighed.desc).map (fun d => d.parameters.length) = some 2 := by decide +kernel
set_option maxRecDepth 100000 in
set_option maxHeartbeats 4000000 in
theorem c_X10_chargeIfWeighed {l : Launch} {D : va_G} {cA : Nat → ClassId} {ad : Nat → Nat → Nat} {A : Nat → Prop} (ax : Ax ad GM A) (p0 : Int32) (p1 : Int32) (mm : Mm) (Q9 : Int32 → Mm → Prop) (h : w_X10_chargeIfWeighed p0 p1 mm Q9) : Met l yX10_chargeIfWeighed (.code yX10_chargeIfWeighed cX10_chargeIfWeighed 4 (some .int) :: TG) rm_X10_chargeIfWeighed (PcM TT D cA ad false GM (ZM) [.ref (ad 30 1), .int p0, .int p1] mm) (AnsI TT D cA ad false GM A Q9) 0 0 A := by
  have zo := ZM_ok A
  unfold w_X10_chargeIfWeighed at h
  refine enterI pl_X10 ⟨rfl, rfl⟩ rfl (Nat.le_of_ble_eq_true rfl) ?_
  intro p e s m args below meth c QQ X hK hZ hnm hE
  refine q_aload_n (j := 0) X dX10_chargeIfWeighed_0 rfl rfl ?_
  refine q_iload_n (j := 1) X dX10_chargeIfWeighed_1 rfl rfl ?_
  refine q_calli (q_runV X hK hZ zo (gm (t := 30) (by decide) (ok1 (t := 30) (Nat.le_of_ble_eq_true rfl))) rfl rfl [.int p0] [] rfl rfl (Nat.le_of_ble_eq_true rfl) dX10_chargeIfWeighed_2 ⟨Nat.le_of_ble_eq_true rfl, Nat.le_of_ble_eq_true rfl⟩ (c_X10_find ax p0 mm _ h) rfl rfl (gV kw_7_157 kw_7_159 ks_101 kw_1_11 kw_7_160) hy_X10_find ⟨Nat.le_of_ble_eq_true rfl, Nat.le_of_ble_eq_true rfl⟩) (fun r_1 m_2 h => ?_)
  obtain ⟨h, hm⟩ := h
  subst hm
  refine q_istore_n (lv' := [(3, .int r_1), (0, .ref (ad 30 1)), (1, .int p0), (2, .int p1)]) X dX10_chargeIfWeighed_5 rfl (by decide) rfl ?_
  refine q_aload_n (j := 1) X dX10_chargeIfWeighed_6 rfl rfl ?_
  refine q_iload_n (j := 0) X dX10_chargeIfWeighed_7 rfl rfl ?_
  refine q_iconst (v := (-1)) X dX10_chargeIfWeighed_8 (by decide) ?_
  refine q_icmp_ne (tgt := 16) X dX10_chargeIfWeighed_9 (by decide) (fun c_3 => ?_) (fun c_3 => ?_)
  · have h := h.1 c_3
    refine q_iload_n (j := 3) X dX10_chargeIfWeighed_16 rfl rfl ?_
    refine q_i2l X dX10_chargeIfWeighed_17 ?_
    refine q_lconst (v := 0) X dX10_chargeIfWeighed_18 (by decide) ?_
    refine q_aload_n (j := 1) X dX10_chargeIfWeighed_19 rfl rfl ?_
    refine q_iload_n (j := 0) X dX10_chargeIfWeighed_20 rfl rfl ?_
    refine q_iconst (v := 2) X dX10_chargeIfWeighed_21 (by decide) ?_
    refine q_calli (q_runV X hK hZ zo (gm (t := 30) (by decide) (ok1 (t := 30) (Nat.le_of_ble_eq_true rfl))) rfl rfl [.int r_1, .int 2] [.long (0 : Int64), .long (Int32.toInt64 p1), .ref (ad 30 1)] rfl rfl (Nat.le_of_ble_eq_true rfl) dX10_chargeIfWeighed_22 ⟨Nat.le_of_ble_eq_true rfl, Nat.le_of_ble_eq_true rfl⟩ (c_X10_of ax r_1 2 mm _ h) rfl rfl (gV kw_7_95 kw_7_97 ks_88 kw_1_11 kw_7_98) hy_X10_of ⟨Nat.le_of_ble_eq_true rfl, Nat.le_of_ble_eq_true rfl⟩) (fun r_4 m_5 h => ?_)
    obtain ⟨h, hm⟩ := h
    subst hm
    refine q_i2l X dX10_chargeIfWeighed_25 ?_
    refine q_calli (q_runS X hK hZ zo [.long (Int32.toInt64 p1), .long (0 : Int64), .long (Int32.toInt64 r_4)] [.ref (ad 30 1)] rfl rfl (Nat.le_of_ble_eq_true rfl) dX10_chargeIfWeighed_26 ⟨Nat.le_of_ble_eq_true rfl, Nat.le_of_ble_eq_true rfl⟩ (c_X10_in ax (Int32.toInt64 p1) (0 : Int64) (Int32.toInt64 r_4) mm _ h) rfl rfl (gS kw_7_71 kw_7_72 kw_1_11 kw_7_73) hy_X10_in.2 ⟨Nat.le_of_ble_eq_true rfl, Nat.le_of_ble_eq_true rfl⟩) (fun r_6 m_7 h => ?_)
    obtain ⟨h, hm⟩ := h
    subst hm
    refine q_if_eq (tgt := 36) X dX10_chargeIfWeighed_29 (by decide) (fun c_8 => ?_) (fun c_8 => ?_)
    · have h := h.1 c_8
      refine q_iconst (v := 2) X dX10_chargeIfWeighed_36 (by decide) ?_
      refine q_calli (q_runV X hK hZ zo (gm (t := 30) (by decide) (ok1 (t := 30) (Nat.le_of_ble_eq_true rfl))) rfl rfl [.int 2] [] rfl rfl (Nat.le_of_ble_eq_true rfl) dX10_chargeIfWeighed_37 ⟨Nat.le_of_ble_eq_true rfl, Nat.le_of_ble_eq_true rfl⟩ (c_X10_refused ax 2 mm _ h) rfl rfl (gV kw_7_126 kw_7_128 ks_95 kw_1_11 kw_7_129) hy_X10_refused ⟨Nat.le_of_ble_eq_true rfl, Nat.le_of_ble_eq_true rfl⟩) (fun r_9 m_10 h => ?_)
      refine q_if_eq (tgt := 47) X dX10_chargeIfWeighed_40 (by decide) (fun c_11 => ?_) (fun c_11 => ?_)
      · have h := h.1 c_11
        refine q_aload_n (j := 1) X dX10_chargeIfWeighed_47 rfl rfl ?_
        refine q_iload_n (j := 0) X dX10_chargeIfWeighed_48 rfl rfl ?_
        refine q_iload_n (j := 3) X dX10_chargeIfWeighed_49 rfl rfl ?_
        refine q_calli (q_runV X hK hZ zo (gm (t := 30) (by decide) (ok1 (t := 30) (Nat.le_of_ble_eq_true rfl))) rfl rfl [.int r_1, .int p1] [] rfl rfl (Nat.le_of_ble_eq_true rfl) dX10_chargeIfWeighed_50 ⟨Nat.le_of_ble_eq_true rfl, Nat.le_of_ble_eq_true rfl⟩ (c_X10_chargeBy ax r_1 p1 m_10 _ h) rfl rfl (gV kw_8_14 kw_8_16 ks_119 kw_1_11 kw_8_17) hy_X10_chargeBy ⟨Nat.le_of_ble_eq_true rfl, Nat.le_of_ble_eq_true rfl⟩) (fun r_12 m_13 h => ?_)
        obtain ⟨h, hm⟩ := h
        subst hm
        exact hE _ _ _ _ dX10_chargeIfWeighed_53 h
      · have h := h.2 c_11
        refine q_iconst (v := 0) X dX10_chargeIfWeighed_43 (by decide) ?_
        refine q_goto (tgt := 53) X dX10_chargeIfWeighed_44 (by decide) ?_
        exact hE _ _ _ _ dX10_chargeIfWeighed_53 h
    · have h := h.2 c_8
      refine q_iconst (v := 0) X dX10_chargeIfWeighed_32 (by decide) ?_
      refine q_goto (tgt := 37) X dX10_chargeIfWeighed_33 (by decide) ?_
      refine q_calli (q_runV X hK hZ zo (gm (t := 30) (by decide) (ok1 (t := 30) (Nat.le_of_ble_eq_true rfl))) rfl rfl [.int 0] [] rfl rfl (Nat.le_of_ble_eq_true rfl) dX10_chargeIfWeighed_37 ⟨Nat.le_of_ble_eq_true rfl, Nat.le_of_ble_eq_true rfl⟩ (c_X10_refused ax 0 mm _ h) rfl rfl (gV kw_7_126 kw_7_128 ks_95 kw_1_11 kw_7_129) hy_X10_refused ⟨Nat.le_of_ble_eq_true rfl, Nat.le_of_ble_eq_true rfl⟩) (fun r_14 m_15 h => ?_)
      refine q_if_eq (tgt := 47) X dX10_chargeIfWeighed_40 (by decide) (fun c_16 => ?_) (fun c_16 => ?_)
      · have h := h.1 c_16
        refine q_aload_n (j := 1) X dX10_chargeIfWeighed_47 rfl rfl ?_
        refine q_iload_n (j := 0) X dX10_chargeIfWeighed_48 rfl rfl ?_
        refine q_iload_n (j := 3) X dX10_chargeIfWeighed_49 rfl rfl ?_
        refine q_calli (q_runV X hK hZ zo (gm (t := 30) (by decide) (ok1 (t := 30) (Nat.le_of_ble_eq_true rfl))) rfl rfl [.int r_1, .int p1] [] rfl rfl (Nat.le_of_ble_eq_true rfl) dX10_chargeIfWeighed_50 ⟨Nat.le_of_ble_eq_true rfl, Nat.le_of_ble_eq_true rfl⟩ (c_X10_chargeBy ax r_1 p1 m_15 _ h) rfl rfl (gV kw_8_14 kw_8_16 ks_119 kw_1_11 kw_8_17) hy_X10_chargeBy ⟨Nat.le_of_ble_eq_true rfl, Nat.le_of_ble_eq_true rfl⟩) (fun r_17 m_18 h => ?_)
        obtain ⟨h, hm⟩ := h
        subst hm
        exact hE _ _ _ _ dX10_chargeIfWeighed_53 h
      · have h := h.2 c_16
        refine q_iconst (v := 0) X dX10_chargeIfWeighed_43 (by decide) ?_
        refine q_goto (tgt := 53) X dX10_chargeIfWeighed_44 (by decide) ?_
        exact hE _ _ _ _ dX10_chargeIfWeighed_53 h
  · have h := h.2 c_3
    refine q_iconst (v := 1) X dX10_chargeIfWeighed_12 (by decide) ?_
    refine q_goto (tgt := 37) X dX10_chargeIfWeighed_13 (by decide) ?_
    refine q_calli (q_runV X hK hZ zo (gm (t := 30) (by decide) (ok1 (t := 30) (Nat.le_of_ble_eq_true rfl))) rfl rfl [.int 1] [] rfl rfl (Nat.le_of_ble_eq_true rfl) dX10_chargeIfWeighed_37 ⟨Nat.le_of_ble_eq_true rfl, Nat.le_of_ble_eq_true rfl⟩ (c_X10_refused ax 1 mm _ h) rfl rfl (gV kw_7_126 kw_7_128 ks_95 kw_1_11 kw_7_129) hy_X10_refused ⟨Nat.le_of_ble_eq_true rfl, Nat.le_of_ble_eq_true rfl⟩) (fun r_19 m_20 h => ?_)
    refine q_if_eq (tgt := 47) X dX10_chargeIfWeighed_40 (by decide) (fun c_21 => ?_) (fun c_21 => ?_)
    · have h := h.1 c_21
      refine q_aload_n (j := 1) X dX10_chargeIfWeighed_47 rfl rfl ?_
      refine q_iload_n (j := 0) X dX10_chargeIfWeighed_48 rfl rfl ?_
      refine q_iload_n (j := 3) X dX10_chargeIfWeighed_49 rfl rfl ?_
      refine q_calli (q_runV X hK hZ zo (gm (t := 30) (by decide) (ok1 (t := 30) (Nat.le_of_ble_eq_true rfl))) rfl rfl [.int r_1, .int p1] [] rfl rfl (Nat.le_of_ble_eq_true rfl) dX10_chargeIfWeighed_50 ⟨Nat.le_of_ble_eq_true rfl, Nat.le_of_ble_eq_true rfl⟩ (c_X10_chargeBy ax r_1 p1 m_20 _ h) rfl rfl (gV kw_8_14 kw_8_16 ks_119 kw_1_11 kw_8_17) hy_X10_chargeBy ⟨Nat.le_of_ble_eq_true rfl, Nat.le_of_ble_eq_true rfl⟩) (fun r_22 m_23 h => ?_)
      obtain ⟨h, hm⟩ := h
      subst hm
      exact hE _ _ _ _ dX10_chargeIfWeighed_53 h
    · have h := h.2 c_21
      refine q_iconst (v := 0) X dX10_chargeIfWeighed_43 (by decide) ?_
      refine q_goto (tgt := 53) X dX10_chargeIfWeighed_44 (by decide) ?_
      exact hE _ _ _ _ dX10_chargeIfWeighed_53 h
theorem dX10_drawbackFor_0 : decode cX10_drawbackFor 0 = .ok (.aload_n 0, 1) := by decide +kernel
theorem dX10_drawbackFor_1 : decode cX10_drawbackFor 1 = .ok (.aload_n 0, 1) := by decide +kernel
theorem dX10_drawbackFor_2 : decode cX10_drawbackFor 2 = .ok (.iload_n 1, 1) := by decide +kernel
theorem dX10_drawbackFor_3 : decode cX10_drawbackFor 3 = .ok (.invokevirtual 171, 3) := by decide +kernel
theorem dX10_drawbackFor_6 : decode cX10_drawbackFor 6 = .ok (.ifCond .ne 7, 3) := by decide +kernel
theorem dX10_drawbackFor_9 : decode cX10_drawbackFor 9 = .ok (.iconst 1, 1) := by decide +kernel
theorem dX10_drawbackFor_10 : decode cX10_drawbackFor 10 = .ok (.goto 31, 3) := by decide +kernel
theorem dX10_drawbackFor_13 : decode cX10_drawbackFor 13 = .ok (.iload_n 2, 1) := by decide +kernel
theorem dX10_drawbackFor_14 : decode cX10_drawbackFor 14 = .ok (.i2l, 1) := by decide +kernel
theorem dX10_drawbackFor_15 : decode cX10_drawbackFor 15 = .ok (.lconst 1, 1) := by decide +kernel
theorem dX10_drawbackFor_16 : decode cX10_drawbackFor 16 = .ok (.aload_n 0, 1) := by decide +kernel
theorem dX10_drawbackFor_17 : decode cX10_drawbackFor 17 = .ok (.getfield 13, 3) := by decide +kernel
theorem dX10_drawbackFor_20 : decode cX10_drawbackFor 20 = .ok (.bipush 69, 2) := by decide +kernel
theorem dX10_drawbackFor_22 : decode cX10_drawbackFor 22 = .ok (.iconst 4, 1) := by decide +kernel
theorem dX10_drawbackFor_23 : decode cX10_drawbackFor 23 = .ok (.iload_n 1, 1) := by decide +kernel
theorem dX10_drawbackFor_24 : decode cX10_drawbackFor 24 = .ok (.imul, 1) := by decide +kernel
theorem dX10_drawbackFor_25 : decode cX10_drawbackFor 25 = .ok (.iadd, 1) := by decide +kernel
theorem dX10_drawbackFor_26 : decode cX10_drawbackFor 26 = .ok (.iconst 1, 1) := by decide +kernel
theorem dX10_drawbackFor_27 : decode cX10_drawbackFor 27 = .ok (.iadd, 1) := by decide +kernel
theorem dX10_drawbackFor_28 : decode cX10_drawbackFor 28 = .ok (.iaload, 1) := by decide +kernel
theorem dX10_drawbackFor_29 : decode cX10_drawbackFor 29 = .ok (.i2l, 1) := by decide +kernel
theorem dX10_drawbackFor_30 : decode cX10_drawbackFor 30 = .ok (.invokestatic 35, 3) := by decide +kernel
theorem dX10_drawbackFor_33 : decode cX10_drawbackFor 33 = .ok (.ifCond .eq 7, 3) := by decide +kernel
theorem dX10_drawbackFor_36 : decode cX10_drawbackFor 36 = .ok (.iconst 0, 1) := by decide +kernel
theorem dX10_drawbackFor_37 : decode cX10_drawbackFor 37 = .ok (.goto 4, 3) := by decide +kernel
theorem dX10_drawbackFor_40 : decode cX10_drawbackFor 40 = .ok (.iconst 2, 1) := by decide +kernel
theorem dX10_drawbackFor_41 : decode cX10_drawbackFor 41 = .ok (.invokevirtual 147, 3) := by decide +kernel
theorem dX10_drawbackFor_44 : decode cX10_drawbackFor 44 = .ok (.ifCond .eq 7, 3) := by decide +kernel
theorem dX10_drawbackFor_47 : decode cX10_drawbackFor 47 = .ok (.iconst 0, 1) := by decide +kernel
theorem dX10_drawbackFor_48 : decode cX10_drawbackFor 48 = .ok (.goto 9, 3) := by decide +kernel
theorem dX10_drawbackFor_51 : decode cX10_drawbackFor 51 = .ok (.aload_n 0, 1) := by decide +kernel
theorem dX10_drawbackFor_52 : decode cX10_drawbackFor 52 = .ok (.iload_n 1, 1) := by decide +kernel
theorem dX10_drawbackFor_53 : decode cX10_drawbackFor 53 = .ok (.iload_n 2, 1) := by decide +kernel
theorem dX10_drawbackFor_54 : decode cX10_drawbackFor 54 = .ok (.invokevirtual 91, 3) := by decide +kernel
theorem dX10_drawbackFor_57 : decode cX10_drawbackFor 57 = .ok (.ireturn, 1) := by decide +kernel
def w_X10_drawbackFor (p0 : Int32) (p1 : Int32) (mm : Mm) (Q9 : Int32 → Mm → Prop) : Prop :=
  w_X10_isPaper p0 mm (fun (r_1 : Int32) => ((¬ r_1 = 0 → vp_in ((69 + (4 * p0)) + 1) 246 ∧ (w_X10_in (Int32.toInt64 p1) (1 : Int64) (Int32.toInt64 (mm.1 32 1 ((69 + (4 * p0)) + 1).toNatClampNeg)) mm (fun (r_5 : Int32) => ((r_5 = 0 → w_X10_refused 2 mm (fun (r_8 : Int32) (m_9 : Mm) => ((r_8 = 0 → w_X10_backOf p0 p1 m_9 (fun (r_11 : Int32) => Q9 r_11 m_9)) ∧
  (¬ r_8 = 0 → Q9 0 m_9)))) ∧
  (¬ r_5 = 0 → w_X10_refused 0 mm (fun (r_13 : Int32) (m_14 : Mm) => ((r_13 = 0 → w_X10_backOf p0 p1 m_14 (fun (r_16 : Int32) => Q9 r_16 m_14)) ∧
  (¬ r_13 = 0 → Q9 0 m_14)))))))) ∧
  (r_1 = 0 → w_X10_refused 1 mm (fun (r_18 : Int32) (m_19 : Mm) => ((r_18 = 0 → w_X10_backOf p0 p1 m_19 (fun (r_21 : Int32) => Q9 r_21 m_19)) ∧
  (¬ r_18 = 0 → Q9 0 m_19))))))
def rm_X10_drawbackFor : Room := { frames := 2, cells := 0, slots := 0, locals := 46 }
theorem hy_X10_drawbackFor : yX10_drawbackFor.cls = RX10 ∧ yX10_drawbackFor.cls ≠ "java/lang/invoke/MethodHandle" ∧ yX10_drawbackFor.cls ≠ "java/lang/invoke/VarHandle" ∧ (parseMethodDescriptor yX10_drawbackFor.desc).map (fun d => d.parameters.length) = some 2 := by decide +kernel
set_option maxRecDepth 100000 in
set_option maxHeartbeats 4000000 in
theorem c_X10_drawbackFor {l : Launch} {D : va_G} {cA : Nat → ClassId} {ad : Nat → Nat → Nat} {A : Nat → Prop} (ax : Ax ad GM A) (p0 : Int32) (p1 : Int32) (mm : Mm) (Q9 : Int32 → Mm → Prop) (h : w_X10_drawbackFor p0 p1 mm Q9) : Met l yX10_drawbackFor (.code yX10_drawbackFor cX10_drawbackFor 3 (some .int) :: TG) rm_X10_drawbackFor (PcM TT D cA ad false GM (ZM) [.ref (ad 30 1), .int p0, .int p1] mm) (AnsI TT D cA ad false GM A Q9) 0 0 A := by
  have zo := ZM_ok A
  unfold w_X10_drawbackFor at h
  refine enterI pl_X10 ⟨rfl, rfl⟩ rfl (Nat.le_of_ble_eq_true rfl) ?_
  intro p e s m args below meth c QQ X hK hZ hnm hE
  refine q_aload_n (j := 0) X dX10_drawbackFor_0 rfl rfl ?_
  refine q_aload_n (j := 0) X dX10_drawbackFor_1 rfl rfl ?_
  refine q_iload_n (j := 1) X dX10_drawbackFor_2 rfl rfl ?_
  refine q_calli (q_runV X hK hZ zo (gm (t := 30) (by decide) (ok1 (t := 30) (Nat.le_of_ble_eq_true rfl))) rfl rfl [.int p0] [.ref (ad 30 1)] rfl rfl (Nat.le_of_ble_eq_true rfl) dX10_drawbackFor_3 ⟨Nat.le_of_ble_eq_true rfl, Nat.le_of_ble_eq_true rfl⟩ (c_X10_isPaper ax p0 mm _ h) rfl rfl (gV kw_7_201 kw_7_203 ks_110 kw_1_11 kw_7_204) hy_X10_isPaper ⟨Nat.le_of_ble_eq_true rfl, Nat.le_of_ble_eq_true rfl⟩) (fun r_1 m_2 h => ?_)
  obtain ⟨h, hm⟩ := h
  subst hm
  refine q_if_ne (tgt := 13) X dX10_drawbackFor_6 (by decide) (fun c_3 => ?_) (fun c_3 => ?_)
  · have h := h.1 c_3
    refine q_iload_n (j := 2) X dX10_drawbackFor_13 rfl rfl ?_
    refine q_i2l X dX10_drawbackFor_14 ?_
    refine q_lconst (v := 1) X dX10_drawbackFor_15 (by decide) ?_
    refine q_aload_n (j := 0) X dX10_drawbackFor_16 rfl rfl ?_
    refine q_get (k := 3) (v := .ref (ad 32 1)) X hK rfl rfl (Nat.le_of_ble_eq_true rfl) inTX10 (gm (t := 30) (by decide) (ok1 (t := 30) (Nat.le_of_ble_eq_true rfl))) kw_7_10 rfl (rv_nn (a := ad 32) (r := 1) (ok1 (t := 32) (Nat.le_of_ble_eq_true rfl)).1) dX10_drawbackFor_17 ?_
    refine q_bipush (v := 69) X dX10_drawbackFor_20 (by decide) ?_
    refine q_iconst (v := 4) X dX10_drawbackFor_22 (by decide) ?_
    refine q_iload_n (j := 1) X dX10_drawbackFor_23 rfl rfl ?_
    refine q_imul X dX10_drawbackFor_24 ?_
    refine q_iadd X dX10_drawbackFor_25 ?_
    refine q_iconst (v := 1) X dX10_drawbackFor_26 (by decide) ?_
    refine q_iadd X dX10_drawbackFor_27 ?_
    obtain ⟨b_4, h⟩ := h
    refine q_iald (t := 32) (i := 1) (jn := ((69 + (4 * p0)) + 1).toNatClampNeg) (v := .int (mm.1 32 1 ((69 + (4 * p0)) + 1).toNatClampNeg)) X hK rfl rfl (gm (t := 32) (by decide) (ok1 (t := 32) (Nat.le_of_ble_eq_true rfl))) rfl b_4 rfl rfl dX10_drawbackFor_28 ?_
    refine q_i2l X dX10_drawbackFor_29 ?_
    refine q_calli (q_runS X hK hZ zo [.long (Int32.toInt64 p1), .long (1 : Int64), .long (Int32.toInt64 (mm.1 32 1 ((69 + (4 * p0)) + 1).toNatClampNeg))] [.ref (ad 30 1)] rfl rfl (Nat.le_of_ble_eq_true rfl) dX10_drawbackFor_30 ⟨Nat.le_of_ble_eq_true rfl, Nat.le_of_ble_eq_true rfl⟩ (c_X10_in ax (Int32.toInt64 p1) (1 : Int64) (Int32.toInt64 (mm.1 32 1 ((69 + (4 * p0)) + 1).toNatClampNeg)) mm _ h) rfl rfl (gS kw_7_71 kw_7_72 kw_1_11 kw_7_73) hy_X10_in.2 ⟨Nat.le_of_ble_eq_true rfl, Nat.le_of_ble_eq_true rfl⟩) (fun r_5 m_6 h => ?_)
    obtain ⟨h, hm⟩ := h
    subst hm
    refine q_if_eq (tgt := 40) X dX10_drawbackFor_33 (by decide) (fun c_7 => ?_) (fun c_7 => ?_)
    · have h := h.1 c_7
      refine q_iconst (v := 2) X dX10_drawbackFor_40 (by decide) ?_
      refine q_calli (q_runV X hK hZ zo (gm (t := 30) (by decide) (ok1 (t := 30) (Nat.le_of_ble_eq_true rfl))) rfl rfl [.int 2] [] rfl rfl (Nat.le_of_ble_eq_true rfl) dX10_drawbackFor_41 ⟨Nat.le_of_ble_eq_true rfl, Nat.le_of_ble_eq_true rfl⟩ (c_X10_refused ax 2 mm _ h) rfl rfl (gV kw_7_126 kw_7_128 ks_95 kw_1_11 kw_7_129) hy_X10_refused ⟨Nat.le_of_ble_eq_true rfl, Nat.le_of_ble_eq_true rfl⟩) (fun r_8 m_9 h => ?_)
      refine q_if_eq (tgt := 51) X dX10_drawbackFor_44 (by decide) (fun c_10 => ?_) (fun c_10 => ?_)
      · have h := h.1 c_10
        refine q_aload_n (j := 0) X dX10_drawbackFor_51 rfl rfl ?_
        refine q_iload_n (j := 1) X dX10_drawbackFor_52 rfl rfl ?_
        refine q_iload_n (j := 2) X dX10_drawbackFor_53 rfl rfl ?_
        refine q_calli (q_runV X hK hZ zo (gm (t := 30) (by decide) (ok1 (t := 30) (Nat.le_of_ble_eq_true rfl))) rfl rfl [.int p0, .int p1] [] rfl rfl (Nat.le_of_ble_eq_true rfl) dX10_drawbackFor_54 ⟨Nat.le_of_ble_eq_true rfl, Nat.le_of_ble_eq_true rfl⟩ (c_X10_backOf ax p0 p1 m_9 _ h) rfl rfl (gV kw_7_217 kw_7_219 ks_114 kw_1_11 kw_7_220) hy_X10_backOf ⟨Nat.le_of_ble_eq_true rfl, Nat.le_of_ble_eq_true rfl⟩) (fun r_11 m_12 h => ?_)
        obtain ⟨h, hm⟩ := h
        subst hm
        exact hE _ _ _ _ dX10_drawbackFor_57 h
      · have h := h.2 c_10
        refine q_iconst (v := 0) X dX10_drawbackFor_47 (by decide) ?_
        refine q_goto (tgt := 57) X dX10_drawbackFor_48 (by decide) ?_
        exact hE _ _ _ _ dX10_drawbackFor_57 h
    · have h := h.2 c_7
      refine q_iconst (v := 0) X dX10_drawbackFor_36 (by decide) ?_
      refine q_goto (tgt := 41) X dX10_drawbackFor_37 (by decide) ?_
      refine q_calli (q_runV X hK hZ zo (gm (t := 30) (by decide) (ok1 (t := 30) (Nat.le_of_ble_eq_true rfl))) rfl rfl [.int 0] [] rfl rfl (Nat.le_of_ble_eq_true rfl) dX10_drawbackFor_41 ⟨Nat.le_of_ble_eq_true rfl, Nat.le_of_ble_eq_true rfl⟩ (c_X10_refused ax 0 mm _ h) rfl rfl (gV kw_7_126 kw_7_128 ks_95 kw_1_11 kw_7_129) hy_X10_refused ⟨Nat.le_of_ble_eq_true rfl, Nat.le_of_ble_eq_true rfl⟩) (fun r_13 m_14 h => ?_)
      refine q_if_eq (tgt := 51) X dX10_drawbackFor_44 (by decide) (fun c_15 => ?_) (fun c_15 => ?_)
      · have h := h.1 c_15
        refine q_aload_n (j := 0) X dX10_drawbackFor_51 rfl rfl ?_
        refine q_iload_n (j := 1) X dX10_drawbackFor_52 rfl rfl ?_
        refine q_iload_n (j := 2) X dX10_drawbackFor_53 rfl rfl ?_
        refine q_calli (q_runV X hK hZ zo (gm (t := 30) (by decide) (ok1 (t := 30) (Nat.le_of_ble_eq_true rfl))) rfl rfl [.int p0, .int p1] [] rfl rfl (Nat.le_of_ble_eq_true rfl) dX10_drawbackFor_54 ⟨Nat.le_of_ble_eq_true rfl, Nat.le_of_ble_eq_true rfl⟩ (c_X10_backOf ax p0 p1 m_14 _ h) rfl rfl (gV kw_7_217 kw_7_219 ks_114 kw_1_11 kw_7_220) hy_X10_backOf ⟨Nat.le_of_ble_eq_true rfl, Nat.le_of_ble_eq_true rfl⟩) (fun r_16 m_17 h => ?_)
        obtain ⟨h, hm⟩ := h
        subst hm
        exact hE _ _ _ _ dX10_drawbackFor_57 h
      · have h := h.2 c_15
        refine q_iconst (v := 0) X dX10_drawbackFor_47 (by decide) ?_
        refine q_goto (tgt := 57) X dX10_drawbackFor_48 (by decide) ?_
        exact hE _ _ _ _ dX10_drawbackFor_57 h
  · have h := h.2 c_3
    refine q_iconst (v := 1) X dX10_drawbackFor_9 (by decide) ?_
    refine q_goto (tgt := 41) X dX10_drawbackFor_10 (by decide) ?_
    refine q_calli (q_runV X hK hZ zo (gm (t := 30) (by decide) (ok1 (t := 30) (Nat.le_of_ble_eq_true rfl))) rfl rfl [.int 1] [] rfl rfl (Nat.le_of_ble_eq_true rfl) dX10_drawbackFor_41 ⟨Nat.le_of_ble_eq_true rfl, Nat.le_of_ble_eq_true rfl⟩ (c_X10_refused ax 1 mm _ h) rfl rfl (gV kw_7_126 kw_7_128 ks_95 kw_1_11 kw_7_129) hy_X10_refused ⟨Nat.le_of_ble_eq_true rfl, Nat.le_of_ble_eq_true rfl⟩) (fun r_18 m_19 h => ?_)
    refine q_if_eq (tgt := 51) X dX10_drawbackFor_44 (by decide) (fun c_20 => ?_) (fun c_20 => ?_)
    · have h := h.1 c_20
      refine q_aload_n (j := 0) X dX10_drawbackFor_51 rfl rfl ?_
      refine q_iload_n (j := 1) X dX10_drawbackFor_52 rfl rfl ?_
      refine q_iload_n (j := 2) X dX10_drawbackFor_53 rfl rfl ?_
      refine q_calli (q_runV X hK hZ zo (gm (t := 30) (by decide) (ok1 (t := 30) (Nat.le_of_ble_eq_true rfl))) rfl rfl [.int p0, .int p1] [] rfl rfl (Nat.le_of_ble_eq_true rfl) dX10_drawbackFor_54 ⟨Nat.le_of_ble_eq_true rfl, Nat.le_of_ble_eq_true rfl⟩ (c_X10_backOf ax p0 p1 m_19 _ h) rfl rfl (gV kw_7_217 kw_7_219 ks_114 kw_1_11 kw_7_220) hy_X10_backOf ⟨Nat.le_of_ble_eq_true rfl, Nat.le_of_ble_eq_true rfl⟩) (fun r_21 m_22 h => ?_)
      obtain ⟨h, hm⟩ := h
      subst hm
      exact hE _ _ _ _ dX10_drawbackFor_57 h
    · have h := h.2 c_20
      refine q_iconst (v := 0) X dX10_drawbackFor_47 (by decide) ?_
      refine q_goto (tgt := 57) X dX10_drawbackFor_48 (by decide) ?_
      exact hE _ _ _ _ dX10_drawbackFor_57 h
theorem dX10_dutyLater_0 : decode cX10_dutyLater 0 = .ok (.aload_n 0, 1) := by decide +kernel
theorem dX10_dutyLater_1 : decode cX10_dutyLater 1 = .ok (.iload_n 1, 1) := by decide +kernel
theorem dX10_dutyLater_2 : decode cX10_dutyLater 2 = .ok (.invokevirtual 156, 3) := by decide +kernel
theorem dX10_dutyLater_5 : decode cX10_dutyLater 5 = .ok (.istore_n 3, 1) := by decide +kernel
theorem dX10_dutyLater_6 : decode cX10_dutyLater 6 = .ok (.aload_n 0, 1) := by decide +kernel
theorem dX10_dutyLater_7 : decode cX10_dutyLater 7 = .ok (.iload_n 3, 1) := by decide +kernel
theorem dX10_dutyLater_8 : decode cX10_dutyLater 8 = .ok (.iconst (-1), 1) := by decide +kernel
theorem dX10_dutyLater_9 : decode cX10_dutyLater 9 = .ok (.if_icmp .ne 7, 3) := by decide +kernel
theorem dX10_dutyLater_12 : decode cX10_dutyLater 12 = .ok (.iconst 1, 1) := by decide +kernel
theorem dX10_dutyLater_13 : decode cX10_dutyLater 13 = .ok (.goto 20, 3) := by decide +kernel
theorem dX10_dutyLater_16 : decode cX10_dutyLater 16 = .ok (.iload_n 2, 1) := by decide +kernel
theorem dX10_dutyLater_17 : decode cX10_dutyLater 17 = .ok (.i2l, 1) := by decide +kernel
theorem dX10_dutyLater_18 : decode cX10_dutyLater 18 = .ok (.lconst 0, 1) := by decide +kernel
theorem dX10_dutyLater_19 : decode cX10_dutyLater 19 = .ok (.ldc2_w 248, 3) := by decide +kernel
theorem dX10_dutyLater_22 : decode cX10_dutyLater 22 = .ok (.invokestatic 35, 3) := by decide +kernel
theorem dX10_dutyLater_25 : decode cX10_dutyLater 25 = .ok (.ifCond .eq 7, 3) := by decide +kernel
theorem dX10_dutyLater_28 : decode cX10_dutyLater 28 = .ok (.iconst 0, 1) := by decide +kernel
theorem dX10_dutyLater_29 : decode cX10_dutyLater 29 = .ok (.goto 4, 3) := by decide +kernel
theorem dX10_dutyLater_32 : decode cX10_dutyLater 32 = .ok (.iconst 2, 1) := by decide +kernel
theorem dX10_dutyLater_33 : decode cX10_dutyLater 33 = .ok (.invokevirtual 147, 3) := by decide +kernel
theorem dX10_dutyLater_36 : decode cX10_dutyLater 36 = .ok (.ifCond .eq 7, 3) := by decide +kernel
theorem dX10_dutyLater_39 : decode cX10_dutyLater 39 = .ok (.iconst 0, 1) := by decide +kernel
theorem dX10_dutyLater_40 : decode cX10_dutyLater 40 = .ok (.goto 44, 3) := by decide +kernel
theorem dX10_dutyLater_43 : decode cX10_dutyLater 43 = .ok (.aload_n 0, 1) := by decide +kernel
theorem dX10_dutyLater_44 : decode cX10_dutyLater 44 = .ok (.aload_n 0, 1) := by decide +kernel
theorem dX10_dutyLater_45 : decode cX10_dutyLater 45 = .ok (.iload_n 3, 1) := by decide +kernel
theorem dX10_dutyLater_46 : decode cX10_dutyLater 46 = .ok (.iconst 1, 1) := by decide +kernel
theorem dX10_dutyLater_47 : decode cX10_dutyLater 47 = .ok (.invokevirtual 41, 3) := by decide +kernel
theorem dX10_dutyLater_50 : decode cX10_dutyLater 50 = .ok (.aload_n 0, 1) := by decide +kernel
theorem dX10_dutyLater_51 : decode cX10_dutyLater 51 = .ok (.iload_n 3, 1) := by decide +kernel
theorem dX10_dutyLater_52 : decode cX10_dutyLater 52 = .ok (.iconst 3, 1) := by decide +kernel
theorem dX10_dutyLater_53 : decode cX10_dutyLater 53 = .ok (.invokevirtual 41, 3) := by decide +kernel
theorem dX10_dutyLater_56 : decode cX10_dutyLater 56 = .ok (.aload_n 0, 1) := by decide +kernel
theorem dX10_dutyLater_57 : decode cX10_dutyLater 57 = .ok (.iload_n 3, 1) := by decide +kernel
theorem dX10_dutyLater_58 : decode cX10_dutyLater 58 = .ok (.iconst 2, 1) := by decide +kernel
theorem dX10_dutyLater_59 : decode cX10_dutyLater 59 = .ok (.invokevirtual 41, 3) := by decide +kernel
theorem dX10_dutyLater_62 : decode cX10_dutyLater 62 = .ok (.aload_n 0, 1) := by decide +kernel
theorem dX10_dutyLater_63 : decode cX10_dutyLater 63 = .ok (.iload_n 3, 1) := by decide +kernel
theorem dX10_dutyLater_64 : decode cX10_dutyLater 64 = .ok (.iconst 5, 1) := by decide +kernel
theorem dX10_dutyLater_65 : decode cX10_dutyLater 65 = .ok (.invokevirtual 41, 3) := by decide +kernel
theorem dX10_dutyLater_68 : decode cX10_dutyLater 68 = .ok (.iload_n 2, 1) := by decide +kernel
theorem dX10_dutyLater_69 : decode cX10_dutyLater 69 = .ok (.iadd, 1) := by decide +kernel
theorem dX10_dutyLater_70 : decode cX10_dutyLater 70 = .ok (.sipush 200, 3) := by decide +kernel
theorem dX10_dutyLater_73 : decode cX10_dutyLater 73 = .ok (.if_icmp .le 7, 3) := by decide +kernel
theorem dX10_dutyLater_76 : decode cX10_dutyLater 76 = .ok (.iconst 1, 1) := by decide +kernel
theorem dX10_dutyLater_77 : decode cX10_dutyLater 77 = .ok (.goto 4, 3) := by decide +kernel
theorem dX10_dutyLater_80 : decode cX10_dutyLater 80 = .ok (.iconst 0, 1) := by decide +kernel
theorem dX10_dutyLater_81 : decode cX10_dutyLater 81 = .ok (.invokevirtual 55, 3) := by decide +kernel
theorem dX10_dutyLater_84 : decode cX10_dutyLater 84 = .ok (.ireturn, 1) := by decide +kernel
def w_X10_dutyLater_J33 (p1 : Int32) (mm : Mm) (Q9 : Int32 → Mm → Prop) (r_1 : Int32) (y_3 : Int32) : Prop :=
  w_X10_refused y_3 mm (fun (r_4 : Int32) (m_5 : Mm) => ((r_4 = 0 → w_X10_of r_1 1 m_5 (fun (r_7 : Int32) => w_X10_of r_1 3 m_5 (fun (r_9 : Int32) => w_X10_of r_1 2 m_5 (fun (r_11 : Int32) => w_X10_of r_1 5 m_5 (fun (r_13 : Int32) => (((r_13 + p1) ≤ 200 → w_X10_duty r_7 r_9 r_11 0 m_5 (fun (r_16 : Int32) => Q9 r_16 m_5)) ∧
  (¬ (r_13 + p1) ≤ 200 → w_X10_duty r_7 r_9 r_11 1 m_5 (fun (r_18 : Int32) => Q9 r_18 m_5)))))))) ∧
  (¬ r_4 = 0 → Q9 0 m_5)))
def w_X10_dutyLater (p0 : Int32) (p1 : Int32) (mm : Mm) (Q9 : Int32 → Mm → Prop) : Prop :=
  w_X10_find p0 mm (fun (r_1 : Int32) => ((¬ r_1 = (-1) → w_X10_in (Int32.toInt64 p1) (0 : Int64) (365 : Int64) mm (fun (r_21 : Int32) => ((r_21 = 0 → w_X10_dutyLater_J33 p1 mm Q9 r_1 2) ∧
  (¬ r_21 = 0 → w_X10_dutyLater_J33 p1 mm Q9 r_1 0)))) ∧
  (r_1 = (-1) → w_X10_dutyLater_J33 p1 mm Q9 r_1 1)))
def rm_X10_dutyLater : Room := { frames := 2, cells := 0, slots := 0, locals := 46 }
theorem hy_X10_dutyLater : yX10_dutyLater.cls = RX10 ∧ yX10_dutyLater.cls ≠ "java/lang/invoke/MethodHandle" ∧ yX10_dutyLater.cls ≠ "java/lang/invoke/VarHandle" ∧ (parseMethodDescriptor yX10_dutyLater.desc).map (fun d => d.parameters.length) = some 2 := by decide +kernel
set_option maxRecDepth 100000 in
set_option maxHeartbeats 4000000 in
theorem c_X10_dutyLater {l : Launch} {D : va_G} {cA : Nat → ClassId} {ad : Nat → Nat → Nat} {A : Nat → Prop} (ax : Ax ad GM A) (p0 : Int32) (p1 : Int32) (mm : Mm) (Q9 : Int32 → Mm → Prop) (h : w_X10_dutyLater p0 p1 mm Q9) : Met l yX10_dutyLater (.code yX10_dutyLater cX10_dutyLater 4 (some .int) :: TG) rm_X10_dutyLater (PcM TT D cA ad false GM (ZM) [.ref (ad 30 1), .int p0, .int p1] mm) (AnsI TT D cA ad false GM A Q9) 0 0 A := by
  have zo := ZM_ok A
  unfold w_X10_dutyLater at h
  refine enterI pl_X10 ⟨rfl, rfl⟩ rfl (Nat.le_of_ble_eq_true rfl) ?_
  intro p e s m args below meth c QQ X hK hZ hnm hE
  refine q_aload_n (j := 0) X dX10_dutyLater_0 rfl rfl ?_
  refine q_iload_n (j := 1) X dX10_dutyLater_1 rfl rfl ?_
  refine q_calli (q_runV X hK hZ zo (gm (t := 30) (by decide) (ok1 (t := 30) (Nat.le_of_ble_eq_true rfl))) rfl rfl [.int p0] [] rfl rfl (Nat.le_of_ble_eq_true rfl) dX10_dutyLater_2 ⟨Nat.le_of_ble_eq_true rfl, Nat.le_of_ble_eq_true rfl⟩ (c_X10_find ax p0 mm _ h) rfl rfl (gV kw_7_157 kw_7_159 ks_101 kw_1_11 kw_7_160) hy_X10_find ⟨Nat.le_of_ble_eq_true rfl, Nat.le_of_ble_eq_true rfl⟩) (fun r_1 m_2 h => ?_)
  obtain ⟨h, hm⟩ := h
  subst hm
  refine q_istore_n (lv' := [(3, .int r_1), (0, .ref (ad 30 1)), (1, .int p0), (2, .int p1)]) X dX10_dutyLater_5 rfl (by decide) rfl ?_
  refine q_aload_n (j := 1) X dX10_dutyLater_6 rfl rfl ?_
  refine q_iload_n (j := 0) X dX10_dutyLater_7 rfl rfl ?_
  refine q_iconst (v := (-1)) X dX10_dutyLater_8 (by decide) ?_
  have J33 : ∀ (y_3 : Int32), w_X10_dutyLater_J33 p1 mm Q9 r_1 y_3 → V p l e rm_X10_dutyLater s m args below meth c QQ 4 A 0 0 (Rep TT D cA ad false GM mm) 33 [(0, .ref (ad 30 1)), (2, .int p1), (3, .int r_1)] [.int y_3, .ref (ad 30 1)] := by
    intro y_3 h
    unfold w_X10_dutyLater_J33 at h
    refine q_calli (q_runV X hK hZ zo (gm (t := 30) (by decide) (ok1 (t := 30) (Nat.le_of_ble_eq_true rfl))) rfl rfl [.int y_3] [] rfl rfl (Nat.le_of_ble_eq_true rfl) dX10_dutyLater_33 ⟨Nat.le_of_ble_eq_true rfl, Nat.le_of_ble_eq_true rfl⟩ (c_X10_refused ax y_3 mm _ h) rfl rfl (gV kw_7_126 kw_7_128 ks_95 kw_1_11 kw_7_129) hy_X10_refused ⟨Nat.le_of_ble_eq_true rfl, Nat.le_of_ble_eq_true rfl⟩) (fun r_4 m_5 h => ?_)
    refine q_if_eq (tgt := 43) X dX10_dutyLater_36 (by decide) (fun c_6 => ?_) (fun c_6 => ?_)
    · have h := h.1 c_6
      refine q_aload_n (j := 0) X dX10_dutyLater_43 rfl rfl ?_
      refine q_aload_n (j := 0) X dX10_dutyLater_44 rfl rfl ?_
      refine q_iload_n (j := 2) X dX10_dutyLater_45 rfl rfl ?_
      refine q_iconst (v := 1) X dX10_dutyLater_46 (by decide) ?_
      refine q_calli (q_runV X hK hZ zo (gm (t := 30) (by decide) (ok1 (t := 30) (Nat.le_of_ble_eq_true rfl))) rfl rfl [.int r_1, .int 1] [.ref (ad 30 1)] rfl rfl (Nat.le_of_ble_eq_true rfl) dX10_dutyLater_47 ⟨Nat.le_of_ble_eq_true rfl, Nat.le_of_ble_eq_true rfl⟩ (c_X10_of ax r_1 1 m_5 _ h) rfl rfl (gV kw_7_95 kw_7_97 ks_88 kw_1_11 kw_7_98) hy_X10_of ⟨Nat.le_of_ble_eq_true rfl, Nat.le_of_ble_eq_true rfl⟩) (fun r_7 m_8 h => ?_)
      obtain ⟨h, hm⟩ := h
      subst hm
      refine q_aload_n (j := 0) X dX10_dutyLater_50 rfl rfl ?_
      refine q_iload_n (j := 2) X dX10_dutyLater_51 rfl rfl ?_
      refine q_iconst (v := 3) X dX10_dutyLater_52 (by decide) ?_
      refine q_calli (q_runV X hK hZ zo (gm (t := 30) (by decide) (ok1 (t := 30) (Nat.le_of_ble_eq_true rfl))) rfl rfl [.int r_1, .int 3] [.int r_7, .ref (ad 30 1)] rfl rfl (Nat.le_of_ble_eq_true rfl) dX10_dutyLater_53 ⟨Nat.le_of_ble_eq_true rfl, Nat.le_of_ble_eq_true rfl⟩ (c_X10_of ax r_1 3 m_5 _ h) rfl rfl (gV kw_7_95 kw_7_97 ks_88 kw_1_11 kw_7_98) hy_X10_of ⟨Nat.le_of_ble_eq_true rfl, Nat.le_of_ble_eq_true rfl⟩) (fun r_9 m_10 h => ?_)
      obtain ⟨h, hm⟩ := h
      subst hm
      refine q_aload_n (j := 0) X dX10_dutyLater_56 rfl rfl ?_
      refine q_iload_n (j := 2) X dX10_dutyLater_57 rfl rfl ?_
      refine q_iconst (v := 2) X dX10_dutyLater_58 (by decide) ?_
      refine q_calli (q_runV X hK hZ zo (gm (t := 30) (by decide) (ok1 (t := 30) (Nat.le_of_ble_eq_true rfl))) rfl rfl [.int r_1, .int 2] [.int r_9, .int r_7, .ref (ad 30 1)] rfl rfl (Nat.le_of_ble_eq_true rfl) dX10_dutyLater_59 ⟨Nat.le_of_ble_eq_true rfl, Nat.le_of_ble_eq_true rfl⟩ (c_X10_of ax r_1 2 m_5 _ h) rfl rfl (gV kw_7_95 kw_7_97 ks_88 kw_1_11 kw_7_98) hy_X10_of ⟨Nat.le_of_ble_eq_true rfl, Nat.le_of_ble_eq_true rfl⟩) (fun r_11 m_12 h => ?_)
      obtain ⟨h, hm⟩ := h
      subst hm
      refine q_aload_n (j := 0) X dX10_dutyLater_62 rfl rfl ?_
      refine q_iload_n (j := 2) X dX10_dutyLater_63 rfl rfl ?_
      refine q_iconst (v := 5) X dX10_dutyLater_64 (by decide) ?_
      refine q_calli (q_runV X hK hZ zo (gm (t := 30) (by decide) (ok1 (t := 30) (Nat.le_of_ble_eq_true rfl))) rfl rfl [.int r_1, .int 5] [.int r_11, .int r_9, .int r_7, .ref (ad 30 1)] rfl rfl (Nat.le_of_ble_eq_true rfl) dX10_dutyLater_65 ⟨Nat.le_of_ble_eq_true rfl, Nat.le_of_ble_eq_true rfl⟩ (c_X10_of ax r_1 5 m_5 _ h) rfl rfl (gV kw_7_95 kw_7_97 ks_88 kw_1_11 kw_7_98) hy_X10_of ⟨Nat.le_of_ble_eq_true rfl, Nat.le_of_ble_eq_true rfl⟩) (fun r_13 m_14 h => ?_)
      obtain ⟨h, hm⟩ := h
      subst hm
      refine q_iload_n (j := 1) X dX10_dutyLater_68 rfl rfl ?_
      refine q_iadd X dX10_dutyLater_69 ?_
      refine q_sipush (v := 200) X dX10_dutyLater_70 (by decide) ?_
      refine q_icmp_le (tgt := 80) X dX10_dutyLater_73 (by decide) (fun c_15 => ?_) (fun c_15 => ?_)
      · have h := h.1 c_15
        refine q_iconst (v := 0) X dX10_dutyLater_80 (by decide) ?_
        refine q_calli (q_runV X hK hZ zo (gm (t := 30) (by decide) (ok1 (t := 30) (Nat.le_of_ble_eq_true rfl))) rfl rfl [.int r_7, .int r_9, .int r_11, .int 0] [] rfl rfl (Nat.le_of_ble_eq_true rfl) dX10_dutyLater_81 ⟨Nat.le_of_ble_eq_true rfl, Nat.le_of_ble_eq_true rfl⟩ (c_X10_duty ax r_7 r_9 r_11 0 m_5 _ h) rfl rfl (gV kw_7_119 kw_7_121 ks_94 kw_1_11 kw_7_122) hy_X10_duty ⟨Nat.le_of_ble_eq_true rfl, Nat.le_of_ble_eq_true rfl⟩) (fun r_16 m_17 h => ?_)
        obtain ⟨h, hm⟩ := h
        subst hm
        exact hE _ _ _ _ dX10_dutyLater_84 h
      · have h := h.2 c_15
        refine q_iconst (v := 1) X dX10_dutyLater_76 (by decide) ?_
        refine q_goto (tgt := 81) X dX10_dutyLater_77 (by decide) ?_
        refine q_calli (q_runV X hK hZ zo (gm (t := 30) (by decide) (ok1 (t := 30) (Nat.le_of_ble_eq_true rfl))) rfl rfl [.int r_7, .int r_9, .int r_11, .int 1] [] rfl rfl (Nat.le_of_ble_eq_true rfl) dX10_dutyLater_81 ⟨Nat.le_of_ble_eq_true rfl, Nat.le_of_ble_eq_true rfl⟩ (c_X10_duty ax r_7 r_9 r_11 1 m_5 _ h) rfl rfl (gV kw_7_119 kw_7_121 ks_94 kw_1_11 kw_7_122) hy_X10_duty ⟨Nat.le_of_ble_eq_true rfl, Nat.le_of_ble_eq_true rfl⟩) (fun r_18 m_19 h => ?_)
        obtain ⟨h, hm⟩ := h
        subst hm
        exact hE _ _ _ _ dX10_dutyLater_84 h
    · have h := h.2 c_6
      refine q_iconst (v := 0) X dX10_dutyLater_39 (by decide) ?_
      refine q_goto (tgt := 84) X dX10_dutyLater_40 (by decide) ?_
      exact hE _ _ _ _ dX10_dutyLater_84 h
  refine q_icmp_ne (tgt := 16) X dX10_dutyLater_9 (by decide) (fun c_20 => ?_) (fun c_20 => ?_)
  · have h := h.1 c_20
    refine q_iload_n (j := 3) X dX10_dutyLater_16 rfl rfl ?_
    refine q_i2l X dX10_dutyLater_17 ?_
    refine q_lconst (v := 0) X dX10_dutyLater_18 (by decide) ?_
    refine q_ldc2 (v := 365) X kw_9_102 dX10_dutyLater_19 ?_
    refine q_calli (q_runS X hK hZ zo [.long (Int32.toInt64 p1), .long (0 : Int64), .long (365 : Int64)] [.ref (ad 30 1)] rfl rfl (Nat.le_of_ble_eq_true rfl) dX10_dutyLater_22 ⟨Nat.le_of_ble_eq_true rfl, Nat.le_of_ble_eq_true rfl⟩ (c_X10_in ax (Int32.toInt64 p1) (0 : Int64) (365 : Int64) mm _ h) rfl rfl (gS kw_7_71 kw_7_72 kw_1_11 kw_7_73) hy_X10_in.2 ⟨Nat.le_of_ble_eq_true rfl, Nat.le_of_ble_eq_true rfl⟩) (fun r_21 m_22 h => ?_)
    obtain ⟨h, hm⟩ := h
    subst hm
    refine q_if_eq (tgt := 32) X dX10_dutyLater_25 (by decide) (fun c_23 => ?_) (fun c_23 => ?_)
    · have h := h.1 c_23
      refine q_iconst (v := 2) X dX10_dutyLater_32 (by decide) ?_
      refine q_sub [1, 3, 0] rfl ?_
      exact J33 2 h
    · have h := h.2 c_23
      refine q_iconst (v := 0) X dX10_dutyLater_28 (by decide) ?_
      refine q_goto (tgt := 33) X dX10_dutyLater_29 (by decide) ?_
      refine q_sub [1, 3, 0] rfl ?_
      exact J33 0 h
  · have h := h.2 c_20
    refine q_iconst (v := 1) X dX10_dutyLater_12 (by decide) ?_
    refine q_goto (tgt := 33) X dX10_dutyLater_13 (by decide) ?_
    refine q_sub [1, 3, 0] rfl ?_
    exact J33 1 h
theorem dX10_daysToOverdue_0 : decode cX10_daysToOverdue 0 = .ok (.aload_n 0, 1) := by decide +kernel
theorem dX10_daysToOverdue_1 : decode cX10_daysToOverdue 1 = .ok (.iload_n 1, 1) := by decide +kernel
theorem dX10_daysToOverdue_2 : decode cX10_daysToOverdue 2 = .ok (.invokevirtual 156, 3) := by decide +kernel
theorem dX10_daysToOverdue_5 : decode cX10_daysToOverdue 5 = .ok (.istore_n 2, 1) := by decide +kernel
theorem dX10_daysToOverdue_6 : decode cX10_daysToOverdue 6 = .ok (.aload_n 0, 1) := by decide +kernel
theorem dX10_daysToOverdue_7 : decode cX10_daysToOverdue 7 = .ok (.iload_n 2, 1) := by decide +kernel
theorem dX10_daysToOverdue_8 : decode cX10_daysToOverdue 8 = .ok (.iconst (-1), 1) := by decide +kernel
theorem dX10_daysToOverdue_9 : decode cX10_daysToOverdue 9 = .ok (.if_icmp .ne 7, 3) := by decide +kernel
theorem dX10_daysToOverdue_12 : decode cX10_daysToOverdue 12 = .ok (.iconst 1, 1) := by decide +kernel
theorem dX10_daysToOverdue_13 : decode cX10_daysToOverdue 13 = .ok (.goto 4, 3) := by decide +kernel
theorem dX10_daysToOverdue_16 : decode cX10_daysToOverdue 16 = .ok (.iconst 0, 1) := by decide +kernel
theorem dX10_daysToOverdue_17 : decode cX10_daysToOverdue 17 = .ok (.invokevirtual 147, 3) := by decide +kernel
theorem dX10_daysToOverdue_20 : decode cX10_daysToOverdue 20 = .ok (.ifCond .ne 11, 3) := by decide +kernel
theorem dX10_daysToOverdue_23 : decode cX10_daysToOverdue 23 = .ok (.aload_n 0, 1) := by decide +kernel
theorem dX10_daysToOverdue_24 : decode cX10_daysToOverdue 24 = .ok (.iload_n 2, 1) := by decide +kernel
theorem dX10_daysToOverdue_25 : decode cX10_daysToOverdue 25 = .ok (.invokevirtual 51, 3) := by decide +kernel
theorem dX10_daysToOverdue_28 : decode cX10_daysToOverdue 28 = .ok (.ifCond .eq 7, 3) := by decide +kernel
theorem dX10_daysToOverdue_31 : decode cX10_daysToOverdue 31 = .ok (.iconst 0, 1) := by decide +kernel
theorem dX10_daysToOverdue_32 : decode cX10_daysToOverdue 32 = .ok (.goto 13, 3) := by decide +kernel
theorem dX10_daysToOverdue_35 : decode cX10_daysToOverdue 35 = .ok (.sipush 201, 3) := by decide +kernel
theorem dX10_daysToOverdue_38 : decode cX10_daysToOverdue 38 = .ok (.aload_n 0, 1) := by decide +kernel
theorem dX10_daysToOverdue_39 : decode cX10_daysToOverdue 39 = .ok (.iload_n 2, 1) := by decide +kernel
theorem dX10_daysToOverdue_40 : decode cX10_daysToOverdue 40 = .ok (.iconst 5, 1) := by decide +kernel
theorem dX10_daysToOverdue_41 : decode cX10_daysToOverdue 41 = .ok (.invokevirtual 41, 3) := by decide +kernel
theorem dX10_daysToOverdue_44 : decode cX10_daysToOverdue 44 = .ok (.isub, 1) := by decide +kernel
theorem dX10_daysToOverdue_45 : decode cX10_daysToOverdue 45 = .ok (.ireturn, 1) := by decide +kernel
def w_X10_daysToOverdue_J17 (mm : Mm) (Q9 : Int32 → Mm → Prop) (r_1 : Int32) (y_3 : Int32) : Prop :=
  w_X10_refused y_3 mm (fun (r_4 : Int32) (m_5 : Mm) => ((¬ r_4 = 0 → Q9 0 m_5) ∧
  (r_4 = 0 → w_X10_isLate r_1 m_5 (fun (r_7 : Int32) => ((r_7 = 0 → w_X10_of r_1 5 m_5 (fun (r_10 : Int32) => Q9 (201 - r_10) m_5)) ∧
  (¬ r_7 = 0 → Q9 0 m_5))))))
def w_X10_daysToOverdue (p0 : Int32) (mm : Mm) (Q9 : Int32 → Mm → Prop) : Prop :=
  w_X10_find p0 mm (fun (r_1 : Int32) => ((¬ r_1 = (-1) → w_X10_daysToOverdue_J17 mm Q9 r_1 0) ∧
  (r_1 = (-1) → w_X10_daysToOverdue_J17 mm Q9 r_1 1)))
def rm_X10_daysToOverdue : Room := { frames := 2, cells := 0, slots := 0, locals := 44 }
theorem hy_X10_daysToOverdue : yX10_daysToOverdue.cls = RX10 ∧ yX10_daysToOverdue.cls ≠ "java/lang/invoke/MethodHandle" ∧ yX10_daysToOverdue.cls ≠ "java/lang/invoke/VarHandle" ∧ (parseMethodDescriptor yX10_daysToOverdue.desc).map (fun d => d.parameters.length) = some 1 := by decide +kernel
set_option maxRecDepth 100000 in
set_option maxHeartbeats 4000000 in
theorem c_X10_daysToOverdue {l : Launch} {D : va_G} {cA : Nat → ClassId} {ad : Nat → Nat → Nat} {A : Nat → Prop} (ax : Ax ad GM A) (p0 : Int32) (mm : Mm) (Q9 : Int32 → Mm → Prop) (h : w_X10_daysToOverdue p0 mm Q9) : Met l yX10_daysToOverdue (.code yX10_daysToOverdue cX10_daysToOverdue 3 (some .int) :: TG) rm_X10_daysToOverdue (PcM TT D cA ad false GM (ZM) [.ref (ad 30 1), .int p0] mm) (AnsI TT D cA ad false GM A Q9) 0 0 A := by
  have zo := ZM_ok A
  unfold w_X10_daysToOverdue at h
  refine enterI pl_X10 ⟨rfl, rfl⟩ rfl (Nat.le_of_ble_eq_true rfl) ?_
  intro p e s m args below meth c QQ X hK hZ hnm hE
  refine q_aload_n (j := 0) X dX10_daysToOverdue_0 rfl rfl ?_
  refine q_iload_n (j := 1) X dX10_daysToOverdue_1 rfl rfl ?_
  refine q_calli (q_runV X hK hZ zo (gm (t := 30) (by decide) (ok1 (t := 30) (Nat.le_of_ble_eq_true rfl))) rfl rfl [.int p0] [] rfl rfl (Nat.le_of_ble_eq_true rfl) dX10_daysToOverdue_2 ⟨Nat.le_of_ble_eq_true rfl, Nat.le_of_ble_eq_true rfl⟩ (c_X10_find ax p0 mm _ h) rfl rfl (gV kw_7_157 kw_7_159 ks_101 kw_1_11 kw_7_160) hy_X10_find ⟨Nat.le_of_ble_eq_true rfl, Nat.le_of_ble_eq_true rfl⟩) (fun r_1 m_2 h => ?_)
  obtain ⟨h, hm⟩ := h
  subst hm
  refine q_istore_n (lv' := [(2, .int r_1), (0, .ref (ad 30 1)), (1, .int p0)]) X dX10_daysToOverdue_5 rfl (by decide) rfl ?_
  refine q_aload_n (j := 1) X dX10_daysToOverdue_6 rfl rfl ?_
  refine q_iload_n (j := 0) X dX10_daysToOverdue_7 rfl rfl ?_
  refine q_iconst (v := (-1)) X dX10_daysToOverdue_8 (by decide) ?_
  have J17 : ∀ (y_3 : Int32), w_X10_daysToOverdue_J17 mm Q9 r_1 y_3 → V p l e rm_X10_daysToOverdue s m args below meth c QQ 3 A 0 0 (Rep TT D cA ad false GM mm) 17 [(0, .ref (ad 30 1)), (2, .int r_1)] [.int y_3, .ref (ad 30 1)] := by
    intro y_3 h
    unfold w_X10_daysToOverdue_J17 at h
    refine q_calli (q_runV X hK hZ zo (gm (t := 30) (by decide) (ok1 (t := 30) (Nat.le_of_ble_eq_true rfl))) rfl rfl [.int y_3] [] rfl rfl (Nat.le_of_ble_eq_true rfl) dX10_daysToOverdue_17 ⟨Nat.le_of_ble_eq_true rfl, Nat.le_of_ble_eq_true rfl⟩ (c_X10_refused ax y_3 mm _ h) rfl rfl (gV kw_7_126 kw_7_128 ks_95 kw_1_11 kw_7_129) hy_X10_refused ⟨Nat.le_of_ble_eq_true rfl, Nat.le_of_ble_eq_true rfl⟩) (fun r_4 m_5 h => ?_)
    refine q_if_ne (tgt := 31) X dX10_daysToOverdue_20 (by decide) (fun c_6 => ?_) (fun c_6 => ?_)
    · have h := h.1 c_6
      refine q_iconst (v := 0) X dX10_daysToOverdue_31 (by decide) ?_
      refine q_goto (tgt := 45) X dX10_daysToOverdue_32 (by decide) ?_
      exact hE _ _ _ _ dX10_daysToOverdue_45 h
    · have h := h.2 c_6
      refine q_aload_n (j := 0) X dX10_daysToOverdue_23 rfl rfl ?_
      refine q_iload_n (j := 1) X dX10_daysToOverdue_24 rfl rfl ?_
      refine q_calli (q_runV X hK hZ zo (gm (t := 30) (by decide) (ok1 (t := 30) (Nat.le_of_ble_eq_true rfl))) rfl rfl [.int r_1] [] rfl rfl (Nat.le_of_ble_eq_true rfl) dX10_daysToOverdue_25 ⟨Nat.le_of_ble_eq_true rfl, Nat.le_of_ble_eq_true rfl⟩ (c_X10_isLate ax r_1 m_5 _ h) rfl rfl (gV kw_7_115 kw_7_117 ks_93 kw_1_11 kw_7_118) hy_X10_isLate ⟨Nat.le_of_ble_eq_true rfl, Nat.le_of_ble_eq_true rfl⟩) (fun r_7 m_8 h => ?_)
      obtain ⟨h, hm⟩ := h
      subst hm
      refine q_if_eq (tgt := 35) X dX10_daysToOverdue_28 (by decide) (fun c_9 => ?_) (fun c_9 => ?_)
      · have h := h.1 c_9
        refine q_sipush (v := 201) X dX10_daysToOverdue_35 (by decide) ?_
        refine q_aload_n (j := 0) X dX10_daysToOverdue_38 rfl rfl ?_
        refine q_iload_n (j := 1) X dX10_daysToOverdue_39 rfl rfl ?_
        refine q_iconst (v := 5) X dX10_daysToOverdue_40 (by decide) ?_
        refine q_calli (q_runV X hK hZ zo (gm (t := 30) (by decide) (ok1 (t := 30) (Nat.le_of_ble_eq_true rfl))) rfl rfl [.int r_1, .int 5] [.int 201] rfl rfl (Nat.le_of_ble_eq_true rfl) dX10_daysToOverdue_41 ⟨Nat.le_of_ble_eq_true rfl, Nat.le_of_ble_eq_true rfl⟩ (c_X10_of ax r_1 5 m_5 _ h) rfl rfl (gV kw_7_95 kw_7_97 ks_88 kw_1_11 kw_7_98) hy_X10_of ⟨Nat.le_of_ble_eq_true rfl, Nat.le_of_ble_eq_true rfl⟩) (fun r_10 m_11 h => ?_)
        obtain ⟨h, hm⟩ := h
        subst hm
        refine q_isub X dX10_daysToOverdue_44 ?_
        exact hE _ _ _ _ dX10_daysToOverdue_45 h
      · have h := h.2 c_9
        refine q_iconst (v := 0) X dX10_daysToOverdue_31 (by decide) ?_
        refine q_goto (tgt := 45) X dX10_daysToOverdue_32 (by decide) ?_
        exact hE _ _ _ _ dX10_daysToOverdue_45 h
  refine q_icmp_ne (tgt := 16) X dX10_daysToOverdue_9 (by decide) (fun c_12 => ?_) (fun c_12 => ?_)
  · have h := h.1 c_12
    refine q_iconst (v := 0) X dX10_daysToOverdue_16 (by decide) ?_
    refine q_sub [1, 0] rfl ?_
    exact J17 0 h
  · have h := h.2 c_12
    refine q_iconst (v := 1) X dX10_daysToOverdue_12 (by decide) ?_
    refine q_goto (tgt := 17) X dX10_daysToOverdue_13 (by decide) ?_
    refine q_sub [1, 0] rfl ?_
    exact J17 1 h
theorem dX10_nextOverdue_0 : decode cX10_nextOverdue 0 = .ok (.aload_n 0, 1) := by decide +kernel
theorem dX10_nextOverdue_1 : decode cX10_nextOverdue 1 = .ok (.iconst 0, 1) := by decide +kernel
theorem dX10_nextOverdue_2 : decode cX10_nextOverdue 2 = .ok (.putfield 29, 3) := by decide +kernel
theorem dX10_nextOverdue_5 : decode cX10_nextOverdue 5 = .ok (.iconst (-1), 1) := by decide +kernel
theorem dX10_nextOverdue_6 : decode cX10_nextOverdue 6 = .ok (.istore_n 1, 1) := by decide +kernel
theorem dX10_nextOverdue_7 : decode cX10_nextOverdue 7 = .ok (.iconst 0, 1) := by decide +kernel
theorem dX10_nextOverdue_8 : decode cX10_nextOverdue 8 = .ok (.istore_n 2, 1) := by decide +kernel
theorem dX10_nextOverdue_9 : decode cX10_nextOverdue 9 = .ok (.iload_n 2, 1) := by decide +kernel
theorem dX10_nextOverdue_10 : decode cX10_nextOverdue 10 = .ok (.aload_n 0, 1) := by decide +kernel
theorem dX10_nextOverdue_11 : decode cX10_nextOverdue 11 = .ok (.getfield 13, 3) := by decide +kernel
theorem dX10_nextOverdue_14 : decode cX10_nextOverdue 14 = .ok (.bipush 117, 2) := by decide +kernel
theorem dX10_nextOverdue_16 : decode cX10_nextOverdue 16 = .ok (.iaload, 1) := by decide +kernel
theorem dX10_nextOverdue_17 : decode cX10_nextOverdue 17 = .ok (.if_icmp .ge 43, 3) := by decide +kernel
theorem dX10_nextOverdue_20 : decode cX10_nextOverdue 20 = .ok (.aload_n 0, 1) := by decide +kernel
theorem dX10_nextOverdue_21 : decode cX10_nextOverdue 21 = .ok (.iload_n 2, 1) := by decide +kernel
theorem dX10_nextOverdue_22 : decode cX10_nextOverdue 22 = .ok (.invokevirtual 51, 3) := by decide +kernel
theorem dX10_nextOverdue_25 : decode cX10_nextOverdue 25 = .ok (.ifCond .ne 27, 3) := by decide +kernel
theorem dX10_nextOverdue_28 : decode cX10_nextOverdue 28 = .ok (.iload_n 1, 1) := by decide +kernel
theorem dX10_nextOverdue_29 : decode cX10_nextOverdue 29 = .ok (.iconst (-1), 1) := by decide +kernel
theorem dX10_nextOverdue_30 : decode cX10_nextOverdue 30 = .ok (.if_icmp .eq 18, 3) := by decide +kernel
theorem dX10_nextOverdue_33 : decode cX10_nextOverdue 33 = .ok (.aload_n 0, 1) := by decide +kernel
theorem dX10_nextOverdue_34 : decode cX10_nextOverdue 34 = .ok (.iload_n 2, 1) := by decide +kernel
theorem dX10_nextOverdue_35 : decode cX10_nextOverdue 35 = .ok (.iconst 5, 1) := by decide +kernel
theorem dX10_nextOverdue_36 : decode cX10_nextOverdue 36 = .ok (.invokevirtual 41, 3) := by decide +kernel
theorem dX10_nextOverdue_39 : decode cX10_nextOverdue 39 = .ok (.aload_n 0, 1) := by decide +kernel
theorem dX10_nextOverdue_40 : decode cX10_nextOverdue 40 = .ok (.iload_n 1, 1) := by decide +kernel
theorem dX10_nextOverdue_41 : decode cX10_nextOverdue 41 = .ok (.iconst 5, 1) := by decide +kernel
theorem dX10_nextOverdue_42 : decode cX10_nextOverdue 42 = .ok (.invokevirtual 41, 3) := by decide +kernel
theorem dX10_nextOverdue_45 : decode cX10_nextOverdue 45 = .ok (.if_icmp .le 7, 3) := by decide +kernel
theorem dX10_nextOverdue_48 : decode cX10_nextOverdue 48 = .ok (.iload_n 2, 1) := by decide +kernel
theorem dX10_nextOverdue_49 : decode cX10_nextOverdue 49 = .ok (.goto 4, 3) := by decide +kernel
theorem dX10_nextOverdue_52 : decode cX10_nextOverdue 52 = .ok (.iload_n 1, 1) := by decide +kernel
theorem dX10_nextOverdue_53 : decode cX10_nextOverdue 53 = .ok (.istore_n 1, 1) := by decide +kernel
theorem dX10_nextOverdue_54 : decode cX10_nextOverdue 54 = .ok (.iinc 2 1, 3) := by decide +kernel
theorem dX10_nextOverdue_57 : decode cX10_nextOverdue 57 = .ok (.goto (-48), 3) := by decide +kernel
theorem dX10_nextOverdue_60 : decode cX10_nextOverdue 60 = .ok (.iload_n 1, 1) := by decide +kernel
theorem dX10_nextOverdue_61 : decode cX10_nextOverdue 61 = .ok (.iconst (-1), 1) := by decide +kernel
theorem dX10_nextOverdue_62 : decode cX10_nextOverdue 62 = .ok (.if_icmp .ne 7, 3) := by decide +kernel
theorem dX10_nextOverdue_65 : decode cX10_nextOverdue 65 = .ok (.iconst (-1), 1) := by decide +kernel
theorem dX10_nextOverdue_66 : decode cX10_nextOverdue 66 = .ok (.goto 9, 3) := by decide +kernel
theorem dX10_nextOverdue_69 : decode cX10_nextOverdue 69 = .ok (.aload_n 0, 1) := by decide +kernel
theorem dX10_nextOverdue_70 : decode cX10_nextOverdue 70 = .ok (.iload_n 1, 1) := by decide +kernel
theorem dX10_nextOverdue_71 : decode cX10_nextOverdue 71 = .ok (.iconst 0, 1) := by decide +kernel
theorem dX10_nextOverdue_72 : decode cX10_nextOverdue 72 = .ok (.invokevirtual 41, 3) := by decide +kernel
theorem dX10_nextOverdue_75 : decode cX10_nextOverdue 75 = .ok (.ireturn, 1) := by decide +kernel
def w_X10_nextOverdue_B9 (Q9 : Int32 → Mm → Prop) (m_1 : Mm) (K_4 : Int32 → Int32 → Prop) (y_2 : Int32) (y_3 : Int32) : Prop :=
  (((m_1.1 32 1 117) ≤ y_3 → ((¬ y_2 = (-1) → w_X10_of y_2 0 m_1 (fun (r_8 : Int32) => Q9 r_8 m_1)) ∧
  (y_2 = (-1) → Q9 (-1) m_1))) ∧
  (¬ (m_1.1 32 1 117) ≤ y_3 → w_X10_isLate y_3 m_1 (fun (r_10 : Int32) => ((¬ r_10 = 0 → ∀ x_13 : Int32, x_13 = y_3 + 1 → (K_4 y_2 x_13)) ∧
  (r_10 = 0 → ((y_2 = (-1) → ∀ x_15 : Int32, x_15 = y_3 + 1 → (K_4 y_3 x_15)) ∧
  (¬ y_2 = (-1) → w_X10_of y_3 5 m_1 (fun (r_16 : Int32) => w_X10_of y_2 5 m_1 (fun (r_18 : Int32) => ((r_16 ≤ r_18 → ∀ x_21 : Int32, x_21 = y_3 + 1 → (K_4 y_2 x_21)) ∧
  (¬ r_16 ≤ r_18 → ∀ x_22 : Int32, x_22 = y_3 + 1 → (K_4 y_3 x_22))))))))))))
def w_X10_nextOverdue  (mm : Mm) (Q9 : Int32 → Mm → Prop) : Prop :=
  ∀ m_1 : Mm, m_1 = sI mm 30 1 0 0 → (∃ n, itr (α := Int32 × Int32) (fun K a => w_X10_nextOverdue_B9 Q9 m_1 (fun z0 z1 => K (z0, z1)) a.1 a.2) n ((-1), 0))
def rm_X10_nextOverdue : Room := { frames := 2, cells := 0, slots := 0, locals := 43 }
theorem hy_X10_nextOverdue : yX10_nextOverdue.cls = RX10 ∧ yX10_nextOverdue.cls ≠ "java/lang/invoke/MethodHandle" ∧ yX10_nextOverdue.cls ≠ "java/lang/invoke/VarHandle" ∧ (parseMethodDescriptor yX10_nextOverdue.desc).map (fun d => d.parameters.length) = some 0 := by decide +kernel
set_option maxRecDepth 100000 in
set_option maxHeartbeats 4000000 in
theorem c_X10_nextOverdue {l : Launch} {D : va_G} {cA : Nat → ClassId} {ad : Nat → Nat → Nat} {A : Nat → Prop} (ax : Ax ad GM A)  (mm : Mm) (Q9 : Int32 → Mm → Prop) (h : w_X10_nextOverdue mm Q9) : Met l yX10_nextOverdue (.code yX10_nextOverdue cX10_nextOverdue 3 (some .int) :: TG) rm_X10_nextOverdue (PcM TT D cA ad false GM (ZM) [.ref (ad 30 1)] mm) (AnsI TT D cA ad false GM A Q9) 0 0 A := by
  have zo := ZM_ok A
  unfold w_X10_nextOverdue at h
  refine enterI pl_X10 ⟨rfl, rfl⟩ rfl (Nat.le_of_ble_eq_true rfl) ?_
  intro p e s m args below meth c QQ X hK hZ hnm hE
  refine q_aload_n (j := 0) X dX10_nextOverdue_0 rfl rfl ?_
  refine q_iconst (v := 0) X dX10_nextOverdue_1 (by decide) ?_
  refine q_putI (k := 0) X ax hK rfl rfl (Nat.le_of_ble_eq_true rfl) inTX10 (gm (t := 30) (by decide) (ok1 (t := 30) (Nat.le_of_ble_eq_true rfl))) tyX10 tyX10_ok nmX10 kw_7_7 rfl rfl (tyX10_ok 0 (Nat.le_of_ble_eq_true rfl)) rfl dX10_nextOverdue_2 ?_
  refine q_nmP (fun m_1 em_1 => ?_)
  have h := h m_1 em_1
  refine q_iconst (v := (-1)) X dX10_nextOverdue_5 (by decide) ?_
  refine q_istore_n (lv' := [(1, .int (-1)), (0, .ref (ad 30 1))]) X dX10_nextOverdue_6 rfl (by decide) rfl ?_
  refine q_iconst (v := 0) X dX10_nextOverdue_7 (by decide) ?_
  refine q_istore_n (lv' := [(2, .int 0), (1, .int (-1)), (0, .ref (ad 30 1))]) X dX10_nextOverdue_8 rfl (by decide) rfl ?_
  refine q_sub [2, 1, 0] rfl ?_
  have L9 : ∀ (n : Nat) (y_2 : Int32) (y_3 : Int32), itr (α := Int32 × Int32) (fun K a => w_X10_nextOverdue_B9 Q9 m_1 (fun z0 z1 => K (z0, z1)) a.1 a.2) n (y_2, y_3) → V p l e rm_X10_nextOverdue s m args below meth c QQ 3 A 0 0 (Rep TT D cA ad false GM m_1) 9 [(0, .ref (ad 30 1)), (1, .int y_2), (2, .int y_3)] [] := by
    intro n
    induction n with
    | zero => intro y_2 y_3 h; exact h.elim
    | succ n ih_5 =>
      intro y_2 y_3 h
      have h : w_X10_nextOverdue_B9 Q9 m_1 (fun z0 z1 => itr (α := Int32 × Int32) (fun K a => w_X10_nextOverdue_B9 Q9 m_1 (fun z0 z1 => K (z0, z1)) a.1 a.2) n (z0, z1)) y_2 y_3 := h
      unfold w_X10_nextOverdue_B9 at h
      refine q_iload_n (j := 2) X dX10_nextOverdue_9 rfl rfl ?_
      refine q_aload_n (j := 0) X dX10_nextOverdue_10 rfl rfl ?_
      refine q_get (k := 3) (v := .ref (ad 32 1)) X hK rfl rfl (Nat.le_of_ble_eq_true rfl) inTX10 (gm (t := 30) (by decide) (ok1 (t := 30) (Nat.le_of_ble_eq_true rfl))) kw_7_10 rfl (rv_nn (a := ad 32) (r := 1) (ok1 (t := 32) (Nat.le_of_ble_eq_true rfl)).1) dX10_nextOverdue_11 ?_
      refine q_bipush (v := 117) X dX10_nextOverdue_14 (by decide) ?_
      refine q_iald (t := 32) (i := 1) (jn := 117) (v := .int (m_1.1 32 1 117)) X hK rfl rfl (gm (t := 32) (by decide) (ok1 (t := 32) (Nat.le_of_ble_eq_true rfl))) rfl (vpl (by decide +kernel)) (by decide +kernel) rfl dX10_nextOverdue_16 ?_
      refine q_icmp_ge (tgt := 60) X dX10_nextOverdue_17 (by decide) (fun c_6 => ?_) (fun c_6 => ?_)
      · have h := h.1 c_6
        refine q_iload_n (j := 1) X dX10_nextOverdue_60 rfl rfl ?_
        refine q_iconst (v := (-1)) X dX10_nextOverdue_61 (by decide) ?_
        refine q_icmp_ne (tgt := 69) X dX10_nextOverdue_62 (by decide) (fun c_7 => ?_) (fun c_7 => ?_)
        · have h := h.1 c_7
          refine q_aload_n (j := 0) X dX10_nextOverdue_69 rfl rfl ?_
          refine q_iload_n (j := 1) X dX10_nextOverdue_70 rfl rfl ?_
          refine q_iconst (v := 0) X dX10_nextOverdue_71 (by decide) ?_
          refine q_calli (q_runV X hK hZ zo (gm (t := 30) (by decide) (ok1 (t := 30) (Nat.le_of_ble_eq_true rfl))) rfl rfl [.int y_2, .int 0] [] rfl rfl (Nat.le_of_ble_eq_true rfl) dX10_nextOverdue_72 ⟨Nat.le_of_ble_eq_true rfl, Nat.le_of_ble_eq_true rfl⟩ (c_X10_of ax y_2 0 m_1 _ h) rfl rfl (gV kw_7_95 kw_7_97 ks_88 kw_1_11 kw_7_98) hy_X10_of ⟨Nat.le_of_ble_eq_true rfl, Nat.le_of_ble_eq_true rfl⟩) (fun r_8 m_9 h => ?_)
          obtain ⟨h, hm⟩ := h
          subst hm
          exact hE _ _ _ _ dX10_nextOverdue_75 h
        · have h := h.2 c_7
          refine q_iconst (v := (-1)) X dX10_nextOverdue_65 (by decide) ?_
          refine q_goto (tgt := 75) X dX10_nextOverdue_66 (by decide) ?_
          exact hE _ _ _ _ dX10_nextOverdue_75 h
      · have h := h.2 c_6
        refine q_aload_n (j := 0) X dX10_nextOverdue_20 rfl rfl ?_
        refine q_iload_n (j := 2) X dX10_nextOverdue_21 rfl rfl ?_
        refine q_calli (q_runV X hK hZ zo (gm (t := 30) (by decide) (ok1 (t := 30) (Nat.le_of_ble_eq_true rfl))) rfl rfl [.int y_3] [] rfl rfl (Nat.le_of_ble_eq_true rfl) dX10_nextOverdue_22 ⟨Nat.le_of_ble_eq_true rfl, Nat.le_of_ble_eq_true rfl⟩ (c_X10_isLate ax y_3 m_1 _ h) rfl rfl (gV kw_7_115 kw_7_117 ks_93 kw_1_11 kw_7_118) hy_X10_isLate ⟨Nat.le_of_ble_eq_true rfl, Nat.le_of_ble_eq_true rfl⟩) (fun r_10 m_11 h => ?_)
        obtain ⟨h, hm⟩ := h
        subst hm
        refine q_if_ne (tgt := 52) X dX10_nextOverdue_25 (by decide) (fun c_12 => ?_) (fun c_12 => ?_)
        · have h := h.1 c_12
          refine q_iload_n (j := 1) X dX10_nextOverdue_52 rfl rfl ?_
          refine q_istore_n (lv' := [(1, .int y_2), (0, .ref (ad 30 1)), (2, .int y_3)]) X dX10_nextOverdue_53 rfl (by decide) rfl ?_
          obtain ⟨x_13, ex_13⟩ : ∃ z : Int32, z = y_3 + 1 := ⟨_, rfl⟩
          have h := h x_13 ex_13
          refine q_iinc (j := 2) (v := x_13) (lv' := [(2, .int x_13), (1, .int y_2), (0, .ref (ad 30 1))]) X dX10_nextOverdue_54 rfl (by rw [ex_13]; rfl) (by decide) rfl ?_
          refine q_goto (tgt := 9) X dX10_nextOverdue_57 (by decide) ?_
          refine q_sub [2, 1, 0] rfl ?_
          exact ih_5 y_2 x_13 h
        · have h := h.2 c_12
          refine q_iload_n (j := 1) X dX10_nextOverdue_28 rfl rfl ?_
          refine q_iconst (v := (-1)) X dX10_nextOverdue_29 (by decide) ?_
          refine q_icmp_eq (tgt := 48) X dX10_nextOverdue_30 (by decide) (fun c_14 => ?_) (fun c_14 => ?_)
          · have h := h.1 c_14
            refine q_iload_n (j := 2) X dX10_nextOverdue_48 rfl rfl ?_
            refine q_goto (tgt := 53) X dX10_nextOverdue_49 (by decide) ?_
            refine q_istore_n (lv' := [(1, .int y_3), (0, .ref (ad 30 1)), (2, .int y_3)]) X dX10_nextOverdue_53 rfl (by decide) rfl ?_
            obtain ⟨x_15, ex_15⟩ : ∃ z : Int32, z = y_3 + 1 := ⟨_, rfl⟩
            have h := h x_15 ex_15
            refine q_iinc (j := 2) (v := x_15) (lv' := [(2, .int x_15), (1, .int y_3), (0, .ref (ad 30 1))]) X dX10_nextOverdue_54 rfl (by rw [ex_15]; rfl) (by decide) rfl ?_
            refine q_goto (tgt := 9) X dX10_nextOverdue_57 (by decide) ?_
            refine q_sub [2, 1, 0] rfl ?_
            exact ih_5 y_3 x_15 h
          · have h := h.2 c_14
            refine q_aload_n (j := 0) X dX10_nextOverdue_33 rfl rfl ?_
            refine q_iload_n (j := 2) X dX10_nextOverdue_34 rfl rfl ?_
            refine q_iconst (v := 5) X dX10_nextOverdue_35 (by decide) ?_
            refine q_calli (q_runV X hK hZ zo (gm (t := 30) (by decide) (ok1 (t := 30) (Nat.le_of_ble_eq_true rfl))) rfl rfl [.int y_3, .int 5] [] rfl rfl (Nat.le_of_ble_eq_true rfl) dX10_nextOverdue_36 ⟨Nat.le_of_ble_eq_true rfl, Nat.le_of_ble_eq_true rfl⟩ (c_X10_of ax y_3 5 m_1 _ h) rfl rfl (gV kw_7_95 kw_7_97 ks_88 kw_1_11 kw_7_98) hy_X10_of ⟨Nat.le_of_ble_eq_true rfl, Nat.le_of_ble_eq_true rfl⟩) (fun r_16 m_17 h => ?_)
            obtain ⟨h, hm⟩ := h
            subst hm
            refine q_aload_n (j := 0) X dX10_nextOverdue_39 rfl rfl ?_
            refine q_iload_n (j := 1) X dX10_nextOverdue_40 rfl rfl ?_
            refine q_iconst (v := 5) X dX10_nextOverdue_41 (by decide) ?_
            refine q_calli (q_runV X hK hZ zo (gm (t := 30) (by decide) (ok1 (t := 30) (Nat.le_of_ble_eq_true rfl))) rfl rfl [.int y_2, .int 5] [.int r_16] rfl rfl (Nat.le_of_ble_eq_true rfl) dX10_nextOverdue_42 ⟨Nat.le_of_ble_eq_true rfl, Nat.le_of_ble_eq_true rfl⟩ (c_X10_of ax y_2 5 m_1 _ h) rfl rfl (gV kw_7_95 kw_7_97 ks_88 kw_1_11 kw_7_98) hy_X10_of ⟨Nat.le_of_ble_eq_true rfl, Nat.le_of_ble_eq_true rfl⟩) (fun r_18 m_19 h => ?_)
            obtain ⟨h, hm⟩ := h
            subst hm
            refine q_icmp_le (tgt := 52) X dX10_nextOverdue_45 (by decide) (fun c_20 => ?_) (fun c_20 => ?_)
            · have h := h.1 c_20
              refine q_iload_n (j := 1) X dX10_nextOverdue_52 rfl rfl ?_
              refine q_istore_n (lv' := [(1, .int y_2), (0, .ref (ad 30 1)), (2, .int y_3)]) X dX10_nextOverdue_53 rfl (by decide) rfl ?_
              obtain ⟨x_21, ex_21⟩ : ∃ z : Int32, z = y_3 + 1 := ⟨_, rfl⟩
              have h := h x_21 ex_21
              refine q_iinc (j := 2) (v := x_21) (lv' := [(2, .int x_21), (1, .int y_2), (0, .ref (ad 30 1))]) X dX10_nextOverdue_54 rfl (by rw [ex_21]; rfl) (by decide) rfl ?_
              refine q_goto (tgt := 9) X dX10_nextOverdue_57 (by decide) ?_
              refine q_sub [2, 1, 0] rfl ?_
              exact ih_5 y_2 x_21 h
            · have h := h.2 c_20
              refine q_iload_n (j := 2) X dX10_nextOverdue_48 rfl rfl ?_
              refine q_goto (tgt := 53) X dX10_nextOverdue_49 (by decide) ?_
              refine q_istore_n (lv' := [(1, .int y_3), (0, .ref (ad 30 1)), (2, .int y_3)]) X dX10_nextOverdue_53 rfl (by decide) rfl ?_
              obtain ⟨x_22, ex_22⟩ : ∃ z : Int32, z = y_3 + 1 := ⟨_, rfl⟩
              have h := h x_22 ex_22
              refine q_iinc (j := 2) (v := x_22) (lv' := [(2, .int x_22), (1, .int y_3), (0, .ref (ad 30 1))]) X dX10_nextOverdue_54 rfl (by rw [ex_22]; rfl) (by decide) rfl ?_
              refine q_goto (tgt := 9) X dX10_nextOverdue_57 (by decide) ?_
              refine q_sub [2, 1, 0] rfl ?_
              exact ih_5 y_3 x_22 h
  obtain ⟨n_23, h⟩ := h
  exact L9 n_23 (-1) 0 h
theorem dX10_cheapest_0 : decode cX10_cheapest 0 = .ok (.iconst (-1), 1) := by decide +kernel
theorem dX10_cheapest_1 : decode cX10_cheapest 1 = .ok (.istore_n 2, 1) := by decide +kernel
theorem dX10_cheapest_2 : decode cX10_cheapest 2 = .ok (.iconst 0, 1) := by decide +kernel
theorem dX10_cheapest_3 : decode cX10_cheapest 3 = .ok (.istore_n 3, 1) := by decide +kernel
theorem dX10_cheapest_4 : decode cX10_cheapest 4 = .ok (.iload_n 3, 1) := by decide +kernel
theorem dX10_cheapest_5 : decode cX10_cheapest 5 = .ok (.aload_n 0, 1) := by decide +kernel
theorem dX10_cheapest_6 : decode cX10_cheapest 6 = .ok (.getfield 13, 3) := by decide +kernel
theorem dX10_cheapest_9 : decode cX10_cheapest 9 = .ok (.bipush 117, 2) := by decide +kernel
theorem dX10_cheapest_11 : decode cX10_cheapest 11 = .ok (.iaload, 1) := by decide +kernel
theorem dX10_cheapest_12 : decode cX10_cheapest 12 = .ok (.if_icmp .ge 83, 3) := by decide +kernel
theorem dX10_cheapest_15 : decode cX10_cheapest 15 = .ok (.aload_n 0, 1) := by decide +kernel
theorem dX10_cheapest_16 : decode cX10_cheapest 16 = .ok (.iload_n 3, 1) := by decide +kernel
theorem dX10_cheapest_17 : decode cX10_cheapest 17 = .ok (.iconst 1, 1) := by decide +kernel
theorem dX10_cheapest_18 : decode cX10_cheapest 18 = .ok (.invokevirtual 41, 3) := by decide +kernel
theorem dX10_cheapest_21 : decode cX10_cheapest 21 = .ok (.iload_n 1, 1) := by decide +kernel
theorem dX10_cheapest_22 : decode cX10_cheapest 22 = .ok (.if_icmp .ne 67, 3) := by decide +kernel
theorem dX10_cheapest_25 : decode cX10_cheapest 25 = .ok (.aload_n 0, 1) := by decide +kernel
theorem dX10_cheapest_26 : decode cX10_cheapest 26 = .ok (.getfield 26, 3) := by decide +kernel
theorem dX10_cheapest_29 : decode cX10_cheapest 29 = .ok (.iload_n 3, 1) := by decide +kernel
theorem dX10_cheapest_30 : decode cX10_cheapest 30 = .ok (.baload, 1) := by decide +kernel
theorem dX10_cheapest_31 : decode cX10_cheapest 31 = .ok (.ifCond .ne 58, 3) := by decide +kernel
theorem dX10_cheapest_34 : decode cX10_cheapest 34 = .ok (.iload_n 2, 1) := by decide +kernel
theorem dX10_cheapest_35 : decode cX10_cheapest 35 = .ok (.iconst (-1), 1) := by decide +kernel
theorem dX10_cheapest_36 : decode cX10_cheapest 36 = .ok (.if_icmp .eq 35, 3) := by decide +kernel
theorem dX10_cheapest_39 : decode cX10_cheapest 39 = .ok (.aload_n 0, 1) := by decide +kernel
theorem dX10_cheapest_40 : decode cX10_cheapest 40 = .ok (.iload_n 3, 1) := by decide +kernel
theorem dX10_cheapest_41 : decode cX10_cheapest 41 = .ok (.invokevirtual 62, 3) := by decide +kernel
theorem dX10_cheapest_44 : decode cX10_cheapest 44 = .ok (.i2l, 1) := by decide +kernel
theorem dX10_cheapest_45 : decode cX10_cheapest 45 = .ok (.aload_n 0, 1) := by decide +kernel
theorem dX10_cheapest_46 : decode cX10_cheapest 46 = .ok (.iload_n 2, 1) := by decide +kernel
theorem dX10_cheapest_47 : decode cX10_cheapest 47 = .ok (.iconst 2, 1) := by decide +kernel
theorem dX10_cheapest_48 : decode cX10_cheapest 48 = .ok (.invokevirtual 41, 3) := by decide +kernel
theorem dX10_cheapest_51 : decode cX10_cheapest 51 = .ok (.i2l, 1) := by decide +kernel
theorem dX10_cheapest_52 : decode cX10_cheapest 52 = .ok (.lmul, 1) := by decide +kernel
theorem dX10_cheapest_53 : decode cX10_cheapest 53 = .ok (.aload_n 0, 1) := by decide +kernel
theorem dX10_cheapest_54 : decode cX10_cheapest 54 = .ok (.iload_n 2, 1) := by decide +kernel
theorem dX10_cheapest_55 : decode cX10_cheapest 55 = .ok (.invokevirtual 62, 3) := by decide +kernel
theorem dX10_cheapest_58 : decode cX10_cheapest 58 = .ok (.i2l, 1) := by decide +kernel
theorem dX10_cheapest_59 : decode cX10_cheapest 59 = .ok (.aload_n 0, 1) := by decide +kernel
theorem dX10_cheapest_60 : decode cX10_cheapest 60 = .ok (.iload_n 3, 1) := by decide +kernel
theorem dX10_cheapest_61 : decode cX10_cheapest 61 = .ok (.iconst 2, 1) := by decide +kernel
theorem dX10_cheapest_62 : decode cX10_cheapest 62 = .ok (.invokevirtual 41, 3) := by decide +kernel
theorem dX10_cheapest_65 : decode cX10_cheapest 65 = .ok (.i2l, 1) := by decide +kernel
theorem dX10_cheapest_66 : decode cX10_cheapest 66 = .ok (.lmul, 1) := by decide +kernel
theorem dX10_cheapest_67 : decode cX10_cheapest 67 = .ok (.lcmp, 1) := by decide +kernel
theorem dX10_cheapest_68 : decode cX10_cheapest 68 = .ok (.ifCond .ge 7, 3) := by decide +kernel
theorem dX10_cheapest_71 : decode cX10_cheapest 71 = .ok (.iconst 1, 1) := by decide +kernel
theorem dX10_cheapest_72 : decode cX10_cheapest 72 = .ok (.goto 4, 3) := by decide +kernel
theorem dX10_cheapest_75 : decode cX10_cheapest 75 = .ok (.iconst 0, 1) := by decide +kernel
theorem dX10_cheapest_76 : decode cX10_cheapest 76 = .ok (.istore 4, 2) := by decide +kernel
theorem dX10_cheapest_78 : decode cX10_cheapest 78 = .ok (.iload 4, 2) := by decide +kernel
theorem dX10_cheapest_80 : decode cX10_cheapest 80 = .ok (.ifCond .eq 7, 3) := by decide +kernel
theorem dX10_cheapest_83 : decode cX10_cheapest 83 = .ok (.iload_n 3, 1) := by decide +kernel
theorem dX10_cheapest_84 : decode cX10_cheapest 84 = .ok (.goto 4, 3) := by decide +kernel
theorem dX10_cheapest_87 : decode cX10_cheapest 87 = .ok (.iload_n 2, 1) := by decide +kernel
theorem dX10_cheapest_88 : decode cX10_cheapest 88 = .ok (.istore_n 2, 1) := by decide +kernel
theorem dX10_cheapest_89 : decode cX10_cheapest 89 = .ok (.iinc 3 1, 3) := by decide +kernel
theorem dX10_cheapest_92 : decode cX10_cheapest 92 = .ok (.goto (-88), 3) := by decide +kernel
theorem dX10_cheapest_95 : decode cX10_cheapest 95 = .ok (.iload_n 2, 1) := by decide +kernel
theorem dX10_cheapest_96 : decode cX10_cheapest 96 = .ok (.ireturn, 1) := by decide +kernel
def w_X10_cheapest_J76 (y_1 : Int32) (y_2 : Int32) (K_3 : Int32 → Int32 → Prop) (y_13 : Int32) : Prop :=
  ((y_13 = 0 → ∀ x_15 : Int32, x_15 = y_2 + 1 → (K_3 y_1 x_15)) ∧
  (¬ y_13 = 0 → ∀ x_16 : Int32, x_16 = y_2 + 1 → (K_3 y_2 x_16)))
def w_X10_cheapest_J71 (y_1 : Int32) (y_2 : Int32) (K_3 : Int32 → Int32 → Prop) : Prop :=
  w_X10_cheapest_J76 y_1 y_2 K_3 1
def w_X10_cheapest_B4 (p0 : Int32) (mm : Mm) (Q9 : Int32 → Prop) (K_3 : Int32 → Int32 → Prop) (y_1 : Int32) (y_2 : Int32) : Prop :=
  (((mm.1 32 1 117) ≤ y_2 → Q9 y_1) ∧
  (¬ (mm.1 32 1 117) ≤ y_2 → w_X10_of y_2 1 mm (fun (r_6 : Int32) => ((¬ r_6 = p0 → ∀ x_9 : Int32, x_9 = y_2 + 1 → (K_3 y_1 x_9)) ∧
  (r_6 = p0 → vp_in y_2 16 ∧ (((¬ (mm.1 36 1 y_2.toNatClampNeg) = 0 → ∀ x_12 : Int32, x_12 = y_2 + 1 → (K_3 y_1 x_12)) ∧
  ((mm.1 36 1 y_2.toNatClampNeg) = 0 → ((y_1 = (-1) → w_X10_cheapest_J71 y_1 y_2 K_3) ∧
  (¬ y_1 = (-1) → w_X10_dutyAll y_2 mm (fun (r_18 : Int32) => w_X10_of y_1 2 mm (fun (r_20 : Int32) => w_X10_dutyAll y_1 mm (fun (r_22 : Int32) => w_X10_of y_2 2 mm (fun (r_24 : Int32) => ((0 ≤ (lg_cmp ((Int32.toInt64 r_18) * (Int32.toInt64 r_20)) ((Int32.toInt64 r_22) * (Int32.toInt64 r_24))) → w_X10_cheapest_J76 y_1 y_2 K_3 0) ∧
  (¬ 0 ≤ (lg_cmp ((Int32.toInt64 r_18) * (Int32.toInt64 r_20)) ((Int32.toInt64 r_22) * (Int32.toInt64 r_24))) → w_X10_cheapest_J71 y_1 y_2 K_3))))))))))))))))
def w_X10_cheapest (p0 : Int32) (mm : Mm) (Q9 : Int32 → Prop) : Prop :=
  ∃ n, itr (α := Int32 × Int32) (fun K a => w_X10_cheapest_B4 p0 mm Q9 (fun z0 z1 => K (z0, z1)) a.1 a.2) n ((-1), 0)
def rm_X10_cheapest : Room := { frames := 4, cells := 0, slots := 0, locals := 89 }
theorem hy_X10_cheapest : yX10_cheapest.cls = RX10 ∧ yX10_cheapest.cls ≠ "java/lang/invoke/MethodHandle" ∧ yX10_cheapest.cls ≠ "java/lang/invoke/VarHandle" ∧ (parseMethodDescriptor yX10_cheapest.desc).map (fun d => d.parameters.length) = some 1 := by decide +kernel
set_option maxRecDepth 100000 in
set_option maxHeartbeats 4000000 in
theorem c_X10_cheapest {l : Launch} {D : va_G} {cA : Nat → ClassId} {ad : Nat → Nat → Nat} {A : Nat → Prop} (ax : Ax ad GM A) (p0 : Int32) (mm : Mm) (Q9 : Int32 → Prop) (h : w_X10_cheapest p0 mm Q9) : Met l yX10_cheapest (.code yX10_cheapest cX10_cheapest 5 (some .int) :: TG) rm_X10_cheapest (PcM TT D cA ad false GM (ZM) [.ref (ad 30 1), .int p0] mm) (AnsI TT D cA ad false GM A (fun r mm' => Q9 r ∧ mm = mm')) 0 0 A := by
  have zo := ZM_ok A
  unfold w_X10_cheapest at h
  refine enterI pl_X10 ⟨rfl, rfl⟩ rfl (Nat.le_of_ble_eq_true rfl) ?_
  intro p e s m args below meth c QQ X hK hZ hnm hE
  refine q_iconst (v := (-1)) X dX10_cheapest_0 (by decide) ?_
  refine q_istore_n (lv' := [(2, .int (-1)), (0, .ref (ad 30 1)), (1, .int p0)]) X dX10_cheapest_1 rfl (by decide) rfl ?_
  refine q_iconst (v := 0) X dX10_cheapest_2 (by decide) ?_
  refine q_istore_n (lv' := [(3, .int 0), (2, .int (-1)), (0, .ref (ad 30 1)), (1, .int p0)]) X dX10_cheapest_3 rfl (by decide) rfl ?_
  refine q_sub [2, 3, 1, 0] rfl ?_
  have L4 : ∀ (n : Nat) (y_1 : Int32) (y_2 : Int32), itr (α := Int32 × Int32) (fun K a => w_X10_cheapest_B4 p0 mm Q9 (fun z0 z1 => K (z0, z1)) a.1 a.2) n (y_1, y_2) → V p l e rm_X10_cheapest s m args below meth c QQ 5 A 0 0 (Rep TT D cA ad false GM mm) 4 [(0, .ref (ad 30 1)), (1, .int p0), (2, .int y_1), (3, .int y_2)] [] := by
    intro n
    induction n with
    | zero => intro y_1 y_2 h; exact h.elim
    | succ n ih_4 =>
      intro y_1 y_2 h
      have h : w_X10_cheapest_B4 p0 mm Q9 (fun z0 z1 => itr (α := Int32 × Int32) (fun K a => w_X10_cheapest_B4 p0 mm Q9 (fun z0 z1 => K (z0, z1)) a.1 a.2) n (z0, z1)) y_1 y_2 := h
      generalize hKe : (fun z0 z1 => itr (α := Int32 × Int32) (fun K a => w_X10_cheapest_B4 p0 mm Q9 (fun z0 z1 => K (z0, z1)) a.1 a.2) n (z0, z1)) = K_3 at h
      have ih_4k : ∀ (y_1 : Int32) (y_2 : Int32), K_3 y_1 y_2 → V p l e rm_X10_cheapest s m args below meth c QQ 5 A 0 0 (Rep TT D cA ad false GM mm) 4 [(0, .ref (ad 30 1)), (1, .int p0), (2, .int y_1), (3, .int y_2)] [] := fun y_1 y_2 h => ih_4 y_1 y_2 (by rw [← hKe] at h; exact h)
      unfold w_X10_cheapest_B4 at h
      refine q_iload_n (j := 3) X dX10_cheapest_4 rfl rfl ?_
      refine q_aload_n (j := 0) X dX10_cheapest_5 rfl rfl ?_
      refine q_get (k := 3) (v := .ref (ad 32 1)) X hK rfl rfl (Nat.le_of_ble_eq_true rfl) inTX10 (gm (t := 30) (by decide) (ok1 (t := 30) (Nat.le_of_ble_eq_true rfl))) kw_7_10 rfl (rv_nn (a := ad 32) (r := 1) (ok1 (t := 32) (Nat.le_of_ble_eq_true rfl)).1) dX10_cheapest_6 ?_
      refine q_bipush (v := 117) X dX10_cheapest_9 (by decide) ?_
      refine q_iald (t := 32) (i := 1) (jn := 117) (v := .int (mm.1 32 1 117)) X hK rfl rfl (gm (t := 32) (by decide) (ok1 (t := 32) (Nat.le_of_ble_eq_true rfl))) rfl (vpl (by decide +kernel)) (by decide +kernel) rfl dX10_cheapest_11 ?_
      refine q_icmp_ge (tgt := 95) X dX10_cheapest_12 (by decide) (fun c_5 => ?_) (fun c_5 => ?_)
      · have h := h.1 c_5
        refine q_iload_n (j := 2) X dX10_cheapest_95 rfl rfl ?_
        exact hE _ _ _ _ dX10_cheapest_96 ⟨h, rfl⟩
      · have h := h.2 c_5
        refine q_aload_n (j := 0) X dX10_cheapest_15 rfl rfl ?_
        refine q_iload_n (j := 3) X dX10_cheapest_16 rfl rfl ?_
        refine q_iconst (v := 1) X dX10_cheapest_17 (by decide) ?_
        refine q_calli (q_runV X hK hZ zo (gm (t := 30) (by decide) (ok1 (t := 30) (Nat.le_of_ble_eq_true rfl))) rfl rfl [.int y_2, .int 1] [] rfl rfl (Nat.le_of_ble_eq_true rfl) dX10_cheapest_18 ⟨Nat.le_of_ble_eq_true rfl, Nat.le_of_ble_eq_true rfl⟩ (c_X10_of ax y_2 1 mm _ h) rfl rfl (gV kw_7_95 kw_7_97 ks_88 kw_1_11 kw_7_98) hy_X10_of ⟨Nat.le_of_ble_eq_true rfl, Nat.le_of_ble_eq_true rfl⟩) (fun r_6 m_7 h => ?_)
        obtain ⟨h, hm⟩ := h
        subst hm
        refine q_iload_n (j := 1) X dX10_cheapest_21 rfl rfl ?_
        refine q_icmp_ne (tgt := 89) X dX10_cheapest_22 (by decide) (fun c_8 => ?_) (fun c_8 => ?_)
        · have h := h.1 c_8
          obtain ⟨x_9, ex_9⟩ : ∃ z : Int32, z = y_2 + 1 := ⟨_, rfl⟩
          have h := h x_9 ex_9
          refine q_iinc (j := 3) (v := x_9) (lv' := [(3, .int x_9), (0, .ref (ad 30 1)), (1, .int p0), (2, .int y_1)]) X dX10_cheapest_89 rfl (by rw [ex_9]; rfl) (by decide) rfl ?_
          refine q_goto (tgt := 4) X dX10_cheapest_92 (by decide) ?_
          refine q_sub [1, 2, 3, 0] rfl ?_
          exact ih_4k y_1 x_9 h
        · have h := h.2 c_8
          refine q_aload_n (j := 0) X dX10_cheapest_25 rfl rfl ?_
          refine q_get (k := 8) (v := .ref (ad 36 1)) X hK rfl rfl (Nat.le_of_ble_eq_true rfl) inTX10 (gm (t := 30) (by decide) (ok1 (t := 30) (Nat.le_of_ble_eq_true rfl))) kw_7_15 rfl (rv_nn (a := ad 36) (r := 1) (ok1 (t := 36) (Nat.le_of_ble_eq_true rfl)).1) dX10_cheapest_26 ?_
          refine q_iload_n (j := 3) X dX10_cheapest_29 rfl rfl ?_
          obtain ⟨b_10, h⟩ := h
          refine q_zald (t := 36) (i := 1) (jn := y_2.toNatClampNeg) (v := .int (mm.1 36 1 y_2.toNatClampNeg)) X hK rfl rfl (gm (t := 36) (by decide) (ok1 (t := 36) (Nat.le_of_ble_eq_true rfl))) rfl b_10 rfl rfl dX10_cheapest_30 ?_
          refine q_if_ne (tgt := 89) X dX10_cheapest_31 (by decide) (fun c_11 => ?_) (fun c_11 => ?_)
          · have h := h.1 c_11
            obtain ⟨x_12, ex_12⟩ : ∃ z : Int32, z = y_2 + 1 := ⟨_, rfl⟩
            have h := h x_12 ex_12
            refine q_iinc (j := 3) (v := x_12) (lv' := [(3, .int x_12), (0, .ref (ad 30 1)), (1, .int p0), (2, .int y_1)]) X dX10_cheapest_89 rfl (by rw [ex_12]; rfl) (by decide) rfl ?_
            refine q_goto (tgt := 4) X dX10_cheapest_92 (by decide) ?_
            refine q_sub [1, 2, 3, 0] rfl ?_
            exact ih_4k y_1 x_12 h
          · have h := h.2 c_11
            refine q_iload_n (j := 2) X dX10_cheapest_34 rfl rfl ?_
            refine q_iconst (v := (-1)) X dX10_cheapest_35 (by decide) ?_
            have J76 : ∀ (y_13 : Int32), w_X10_cheapest_J76 y_1 y_2 K_3 y_13 → V p l e rm_X10_cheapest s m args below meth c QQ 5 A 0 0 (Rep TT D cA ad false GM mm) 76 [(0, .ref (ad 30 1)), (1, .int p0), (2, .int y_1), (3, .int y_2)] [.int y_13] := by
              intro y_13 h
              unfold w_X10_cheapest_J76 at h
              refine q_istore (lv' := [(4, .int y_13), (0, .ref (ad 30 1)), (1, .int p0), (2, .int y_1), (3, .int y_2)]) X dX10_cheapest_76 (by decide) rfl ?_
              refine q_iload (j := 0) X dX10_cheapest_78 rfl ?_
              refine q_if_eq (tgt := 87) X dX10_cheapest_80 (by decide) (fun c_14 => ?_) (fun c_14 => ?_)
              · have h := h.1 c_14
                refine q_iload_n (j := 3) X dX10_cheapest_87 rfl rfl ?_
                refine q_istore_n (lv' := [(2, .int y_1), (4, .int y_13), (0, .ref (ad 30 1)), (1, .int p0), (3, .int y_2)]) X dX10_cheapest_88 rfl (by decide) rfl ?_
                obtain ⟨x_15, ex_15⟩ : ∃ z : Int32, z = y_2 + 1 := ⟨_, rfl⟩
                have h := h x_15 ex_15
                refine q_iinc (j := 4) (v := x_15) (lv' := [(3, .int x_15), (2, .int y_1), (4, .int y_13), (0, .ref (ad 30 1)), (1, .int p0)]) X dX10_cheapest_89 rfl (by rw [ex_15]; rfl) (by decide) rfl ?_
                refine q_goto (tgt := 4) X dX10_cheapest_92 (by decide) ?_
                refine q_sub [3, 4, 1, 0] rfl ?_
                exact ih_4k y_1 x_15 h
              · have h := h.2 c_14
                refine q_iload_n (j := 4) X dX10_cheapest_83 rfl rfl ?_
                refine q_goto (tgt := 88) X dX10_cheapest_84 (by decide) ?_
                refine q_istore_n (lv' := [(2, .int y_2), (4, .int y_13), (0, .ref (ad 30 1)), (1, .int p0), (3, .int y_2)]) X dX10_cheapest_88 rfl (by decide) rfl ?_
                obtain ⟨x_16, ex_16⟩ : ∃ z : Int32, z = y_2 + 1 := ⟨_, rfl⟩
                have h := h x_16 ex_16
                refine q_iinc (j := 4) (v := x_16) (lv' := [(3, .int x_16), (2, .int y_2), (4, .int y_13), (0, .ref (ad 30 1)), (1, .int p0)]) X dX10_cheapest_89 rfl (by rw [ex_16]; rfl) (by decide) rfl ?_
                refine q_goto (tgt := 4) X dX10_cheapest_92 (by decide) ?_
                refine q_sub [3, 4, 1, 0] rfl ?_
                exact ih_4k y_2 x_16 h
            have J71 : w_X10_cheapest_J71 y_1 y_2 K_3  → V p l e rm_X10_cheapest s m args below meth c QQ 5 A 0 0 (Rep TT D cA ad false GM mm) 71 [(0, .ref (ad 30 1)), (1, .int p0), (2, .int y_1), (3, .int y_2)] [] := by
              intro  h
              unfold w_X10_cheapest_J71 at h
              refine q_iconst (v := 1) X dX10_cheapest_71 (by decide) ?_
              refine q_goto (tgt := 76) X dX10_cheapest_72 (by decide) ?_
              refine q_sub [0, 1, 2, 3] rfl ?_
              exact J76 1 h
            refine q_icmp_eq (tgt := 71) X dX10_cheapest_36 (by decide) (fun c_17 => ?_) (fun c_17 => ?_)
            · have h := h.1 c_17
              refine q_sub [0, 1, 2, 3] rfl ?_
              exact J71  h
            · have h := h.2 c_17
              refine q_aload_n (j := 0) X dX10_cheapest_39 rfl rfl ?_
              refine q_iload_n (j := 3) X dX10_cheapest_40 rfl rfl ?_
              refine q_calli (q_runV X hK hZ zo (gm (t := 30) (by decide) (ok1 (t := 30) (Nat.le_of_ble_eq_true rfl))) rfl rfl [.int y_2] [] rfl rfl (Nat.le_of_ble_eq_true rfl) dX10_cheapest_41 ⟨Nat.le_of_ble_eq_true rfl, Nat.le_of_ble_eq_true rfl⟩ (c_X10_dutyAll ax y_2 mm _ h) rfl rfl (gV kw_7_103 kw_7_105 ks_90 kw_1_11 kw_7_106) hy_X10_dutyAll ⟨Nat.le_of_ble_eq_true rfl, Nat.le_of_ble_eq_true rfl⟩) (fun r_18 m_19 h => ?_)
              obtain ⟨h, hm⟩ := h
              subst hm
              refine q_i2l X dX10_cheapest_44 ?_
              refine q_aload_n (j := 0) X dX10_cheapest_45 rfl rfl ?_
              refine q_iload_n (j := 2) X dX10_cheapest_46 rfl rfl ?_
              refine q_iconst (v := 2) X dX10_cheapest_47 (by decide) ?_
              refine q_calli (q_runV X hK hZ zo (gm (t := 30) (by decide) (ok1 (t := 30) (Nat.le_of_ble_eq_true rfl))) rfl rfl [.int y_1, .int 2] [.long (Int32.toInt64 r_18)] rfl rfl (Nat.le_of_ble_eq_true rfl) dX10_cheapest_48 ⟨Nat.le_of_ble_eq_true rfl, Nat.le_of_ble_eq_true rfl⟩ (c_X10_of ax y_1 2 mm _ h) rfl rfl (gV kw_7_95 kw_7_97 ks_88 kw_1_11 kw_7_98) hy_X10_of ⟨Nat.le_of_ble_eq_true rfl, Nat.le_of_ble_eq_true rfl⟩) (fun r_20 m_21 h => ?_)
              obtain ⟨h, hm⟩ := h
              subst hm
              refine q_i2l X dX10_cheapest_51 ?_
              refine q_lmul X dX10_cheapest_52 ?_
              refine q_aload_n (j := 0) X dX10_cheapest_53 rfl rfl ?_
              refine q_iload_n (j := 2) X dX10_cheapest_54 rfl rfl ?_
              refine q_calli (q_runV X hK hZ zo (gm (t := 30) (by decide) (ok1 (t := 30) (Nat.le_of_ble_eq_true rfl))) rfl rfl [.int y_1] [.long ((Int32.toInt64 r_18) * (Int32.toInt64 r_20))] rfl rfl (Nat.le_of_ble_eq_true rfl) dX10_cheapest_55 ⟨Nat.le_of_ble_eq_true rfl, Nat.le_of_ble_eq_true rfl⟩ (c_X10_dutyAll ax y_1 mm _ h) rfl rfl (gV kw_7_103 kw_7_105 ks_90 kw_1_11 kw_7_106) hy_X10_dutyAll ⟨Nat.le_of_ble_eq_true rfl, Nat.le_of_ble_eq_true rfl⟩) (fun r_22 m_23 h => ?_)
              obtain ⟨h, hm⟩ := h
              subst hm
              refine q_i2l X dX10_cheapest_58 ?_
              refine q_aload_n (j := 0) X dX10_cheapest_59 rfl rfl ?_
              refine q_iload_n (j := 3) X dX10_cheapest_60 rfl rfl ?_
              refine q_iconst (v := 2) X dX10_cheapest_61 (by decide) ?_
              refine q_calli (q_runV X hK hZ zo (gm (t := 30) (by decide) (ok1 (t := 30) (Nat.le_of_ble_eq_true rfl))) rfl rfl [.int y_2, .int 2] [.long (Int32.toInt64 r_22), .long ((Int32.toInt64 r_18) * (Int32.toInt64 r_20))] rfl rfl (Nat.le_of_ble_eq_true rfl) dX10_cheapest_62 ⟨Nat.le_of_ble_eq_true rfl, Nat.le_of_ble_eq_true rfl⟩ (c_X10_of ax y_2 2 mm _ h) rfl rfl (gV kw_7_95 kw_7_97 ks_88 kw_1_11 kw_7_98) hy_X10_of ⟨Nat.le_of_ble_eq_true rfl, Nat.le_of_ble_eq_true rfl⟩) (fun r_24 m_25 h => ?_)
              obtain ⟨h, hm⟩ := h
              subst hm
              refine q_i2l X dX10_cheapest_65 ?_
              refine q_lmul X dX10_cheapest_66 ?_
              refine q_lcmp X dX10_cheapest_67 ?_
              refine q_if_ge (tgt := 75) X dX10_cheapest_68 (by decide) (fun c_26 => ?_) (fun c_26 => ?_)
              · have h := h.1 c_26
                refine q_iconst (v := 0) X dX10_cheapest_75 (by decide) ?_
                refine q_sub [0, 1, 2, 3] rfl ?_
                exact J76 0 h
              · have h := h.2 c_26
                refine q_sub [0, 1, 2, 3] rfl ?_
                exact J71  h
  obtain ⟨n_27, h⟩ := h
  exact L4 n_27 (-1) 0 h
theorem dX10_forgets_0 : decode cX10_forgets 0 = .ok (.iconst 0, 1) := by decide +kernel
theorem dX10_forgets_1 : decode cX10_forgets 1 = .ok (.istore_n 1, 1) := by decide +kernel
theorem dX10_forgets_2 : decode cX10_forgets 2 = .ok (.iload_n 1, 1) := by decide +kernel
theorem dX10_forgets_3 : decode cX10_forgets 3 = .ok (.bipush 16, 2) := by decide +kernel
theorem dX10_forgets_5 : decode cX10_forgets 5 = .ok (.if_icmp .ge 16, 3) := by decide +kernel
theorem dX10_forgets_8 : decode cX10_forgets 8 = .ok (.aload_n 0, 1) := by decide +kernel
theorem dX10_forgets_9 : decode cX10_forgets 9 = .ok (.getfield 26, 3) := by decide +kernel
theorem dX10_forgets_12 : decode cX10_forgets 12 = .ok (.iload_n 1, 1) := by decide +kernel
theorem dX10_forgets_13 : decode cX10_forgets 13 = .ok (.iconst 0, 1) := by decide +kernel
theorem dX10_forgets_14 : decode cX10_forgets 14 = .ok (.bastore, 1) := by decide +kernel
theorem dX10_forgets_15 : decode cX10_forgets 15 = .ok (.iinc 1 1, 3) := by decide +kernel
theorem dX10_forgets_18 : decode cX10_forgets 18 = .ok (.goto (-16), 3) := by decide +kernel
theorem dX10_forgets_21 : decode cX10_forgets 21 = .ok (.return_, 1) := by decide +kernel
def w_X10_forgets_B2 (Q9 : Mm → Prop) (K_3 : Int32 → Mm → Prop) (y_1 : Int32) (m_2 : Mm) : Prop :=
  ((16 ≤ y_1 → Q9 m_2) ∧
  (¬ 16 ≤ y_1 → vp_in y_1 16 ∧ ∀ m_7 : Mm, m_7 = sI m_2 36 1 y_1.toNatClampNeg 0 → (∀ x_8 : Int32, x_8 = y_1 + 1 → (K_3 x_8 m_7))))
def w_X10_forgets  (mm : Mm) (Q9 : Mm → Prop) : Prop :=
  ∃ n, itr (α := Int32 × Mm) (fun K a => w_X10_forgets_B2 Q9 (fun z0 z1 => K (z0, z1)) a.1 a.2) n (0, mm)
def rm_X10_forgets : Room := { frames := 0, cells := 0, slots := 0, locals := 0 }
theorem hy_X10_forgets : yX10_forgets.cls = RX10 ∧ yX10_forgets.cls ≠ "java/lang/invoke/MethodHandle" ∧ yX10_forgets.cls ≠ "java/lang/invoke/VarHandle" ∧ (parseMethodDescriptor yX10_forgets.desc).map (fun d => d.parameters.length) = some 0 := by decide +kernel
set_option maxRecDepth 100000 in
set_option maxHeartbeats 4000000 in
theorem c_X10_forgets {l : Launch} {D : va_G} {cA : Nat → ClassId} {ad : Nat → Nat → Nat} {A : Nat → Prop} (ax : Ax ad GM A)  (mm : Mm) (Q9 : Mm → Prop) (h : w_X10_forgets mm Q9) : Met l yX10_forgets (.code yX10_forgets cX10_forgets 2 none :: TG) rm_X10_forgets (PcM TT D cA ad false GM (ZM) [.ref (ad 30 1)] mm) (AnsV TT D cA ad false GM A Q9) 0 0 A := by
  have zo := ZM_ok A
  unfold w_X10_forgets at h
  refine enterV pl_X10 ⟨rfl, rfl⟩ rfl (Nat.le_of_ble_eq_true rfl) ?_
  intro p e s m args below meth c QQ X hK hZ hnm hE
  refine q_iconst (v := 0) X dX10_forgets_0 (by decide) ?_
  refine q_istore_n (lv' := [(1, .int 0), (0, .ref (ad 30 1))]) X dX10_forgets_1 rfl (by decide) rfl ?_
  refine q_sub [1, 0] rfl ?_
  have L2 : ∀ (n : Nat) (y_1 : Int32) (m_2 : Mm), itr (α := Int32 × Mm) (fun K a => w_X10_forgets_B2 Q9 (fun z0 z1 => K (z0, z1)) a.1 a.2) n (y_1, m_2) → V p l e rm_X10_forgets s m args below meth c QQ 2 A 0 0 (Rep TT D cA ad false GM m_2) 2 [(0, .ref (ad 30 1)), (1, .int y_1)] [] := by
    intro n
    induction n with
    | zero => intro y_1 m_2 h; exact h.elim
    | succ n ih_4 =>
      intro y_1 m_2 h
      have h : w_X10_forgets_B2 Q9 (fun z0 z1 => itr (α := Int32 × Mm) (fun K a => w_X10_forgets_B2 Q9 (fun z0 z1 => K (z0, z1)) a.1 a.2) n (z0, z1)) y_1 m_2 := h
      unfold w_X10_forgets_B2 at h
      refine q_iload_n (j := 1) X dX10_forgets_2 rfl rfl ?_
      refine q_bipush (v := 16) X dX10_forgets_3 (by decide) ?_
      refine q_icmp_ge (tgt := 21) X dX10_forgets_5 (by decide) (fun c_5 => ?_) (fun c_5 => ?_)
      · have h := h.1 c_5
        exact hE _ _ _ dX10_forgets_21 h
      · have h := h.2 c_5
        refine q_aload_n (j := 0) X dX10_forgets_8 rfl rfl ?_
        refine q_get (k := 8) (v := .ref (ad 36 1)) X hK rfl rfl (Nat.le_of_ble_eq_true rfl) inTX10 (gm (t := 30) (by decide) (ok1 (t := 30) (Nat.le_of_ble_eq_true rfl))) kw_7_15 rfl (rv_nn (a := ad 36) (r := 1) (ok1 (t := 36) (Nat.le_of_ble_eq_true rfl)).1) dX10_forgets_9 ?_
        refine q_iload_n (j := 1) X dX10_forgets_12 rfl rfl ?_
        refine q_iconst (v := 0) X dX10_forgets_13 (by decide) ?_
        obtain ⟨b_6, h⟩ := h
        refine q_zast (t := 36) (i := 1) (jn := y_1.toNatClampNeg) X ax hK rfl rfl (gm (t := 36) (by decide) (ok1 (t := 36) (Nat.le_of_ble_eq_true rfl))) rfl b_6 rfl (Or.inl rfl) rfl dX10_forgets_14 ?_
        refine q_nmP (fun m_7 em_7 => ?_)
        have h := h m_7 em_7
        obtain ⟨x_8, ex_8⟩ : ∃ z : Int32, z = y_1 + 1 := ⟨_, rfl⟩
        have h := h x_8 ex_8
        refine q_iinc (j := 1) (v := x_8) (lv' := [(1, .int x_8), (0, .ref (ad 30 1))]) X dX10_forgets_15 rfl (by rw [ex_8]; rfl) (by decide) rfl ?_
        refine q_goto (tgt := 2) X dX10_forgets_18 (by decide) ?_
        refine q_sub [1, 0] rfl ?_
        exact ih_4 x_8 m_7 h
  obtain ⟨n_9, h⟩ := h
  exact L2 n_9 0 mm h
theorem dX10_cheapestEntry_0 : decode cX10_cheapestEntry 0 = .ok (.aload_n 0, 1) := by decide +kernel
theorem dX10_cheapestEntry_1 : decode cX10_cheapestEntry 1 = .ok (.iload_n 1, 1) := by decide +kernel
theorem dX10_cheapestEntry_2 : decode cX10_cheapestEntry 2 = .ok (.invokestatic 129, 3) := by decide +kernel
theorem dX10_cheapestEntry_5 : decode cX10_cheapestEntry 5 = .ok (.ifCond .eq 7, 3) := by decide +kernel
theorem dX10_cheapestEntry_8 : decode cX10_cheapestEntry 8 = .ok (.iconst 0, 1) := by decide +kernel
theorem dX10_cheapestEntry_9 : decode cX10_cheapestEntry 9 = .ok (.goto 4, 3) := by decide +kernel
theorem dX10_cheapestEntry_12 : decode cX10_cheapestEntry 12 = .ok (.iconst 1, 1) := by decide +kernel
theorem dX10_cheapestEntry_13 : decode cX10_cheapestEntry 13 = .ok (.invokevirtual 147, 3) := by decide +kernel
theorem dX10_cheapestEntry_16 : decode cX10_cheapestEntry 16 = .ok (.ifCond .eq 5, 3) := by decide +kernel
theorem dX10_cheapestEntry_19 : decode cX10_cheapestEntry 19 = .ok (.iconst 0, 1) := by decide +kernel
theorem dX10_cheapestEntry_20 : decode cX10_cheapestEntry 20 = .ok (.ireturn, 1) := by decide +kernel
theorem dX10_cheapestEntry_21 : decode cX10_cheapestEntry 21 = .ok (.aload_n 0, 1) := by decide +kernel
theorem dX10_cheapestEntry_22 : decode cX10_cheapestEntry 22 = .ok (.invokevirtual 250, 3) := by decide +kernel
theorem dX10_cheapestEntry_25 : decode cX10_cheapestEntry 25 = .ok (.aload_n 0, 1) := by decide +kernel
theorem dX10_cheapestEntry_26 : decode cX10_cheapestEntry 26 = .ok (.iload_n 1, 1) := by decide +kernel
theorem dX10_cheapestEntry_27 : decode cX10_cheapestEntry 27 = .ok (.invokevirtual 253, 3) := by decide +kernel
theorem dX10_cheapestEntry_30 : decode cX10_cheapestEntry 30 = .ok (.istore_n 2, 1) := by decide +kernel
theorem dX10_cheapestEntry_31 : decode cX10_cheapestEntry 31 = .ok (.iload_n 2, 1) := by decide +kernel
theorem dX10_cheapestEntry_32 : decode cX10_cheapestEntry 32 = .ok (.iconst (-1), 1) := by decide +kernel
theorem dX10_cheapestEntry_33 : decode cX10_cheapestEntry 33 = .ok (.if_icmp .ne 7, 3) := by decide +kernel
theorem dX10_cheapestEntry_36 : decode cX10_cheapestEntry 36 = .ok (.iconst (-1), 1) := by decide +kernel
theorem dX10_cheapestEntry_37 : decode cX10_cheapestEntry 37 = .ok (.goto 9, 3) := by decide +kernel
theorem dX10_cheapestEntry_40 : decode cX10_cheapestEntry 40 = .ok (.aload_n 0, 1) := by decide +kernel
theorem dX10_cheapestEntry_41 : decode cX10_cheapestEntry 41 = .ok (.iload_n 2, 1) := by decide +kernel
theorem dX10_cheapestEntry_42 : decode cX10_cheapestEntry 42 = .ok (.iconst 0, 1) := by decide +kernel
theorem dX10_cheapestEntry_43 : decode cX10_cheapestEntry 43 = .ok (.invokevirtual 41, 3) := by decide +kernel
theorem dX10_cheapestEntry_46 : decode cX10_cheapestEntry 46 = .ok (.ireturn, 1) := by decide +kernel
def w_X10_cheapestEntry_J13 (p0 : Int32) (mm : Mm) (Q9 : Int32 → Mm → Prop) (y_3 : Int32) : Prop :=
  w_X10_refused y_3 mm (fun (r_4 : Int32) (m_5 : Mm) => ((r_4 = 0 → w_X10_forgets m_5 (fun (m_8 : Mm) => w_X10_cheapest p0 m_8 (fun (r_9 : Int32) => ((¬ r_9 = (-1) → w_X10_of r_9 0 m_8 (fun (r_12 : Int32) => Q9 r_12 m_8)) ∧
  (r_9 = (-1) → Q9 (-1) m_8))))) ∧
  (¬ r_4 = 0 → Q9 0 m_5)))
def w_X10_cheapestEntry (p0 : Int32) (mm : Mm) (Q9 : Int32 → Mm → Prop) : Prop :=
  w_X10_isKind p0 mm (fun (r_1 : Int32) => ((r_1 = 0 → w_X10_cheapestEntry_J13 p0 mm Q9 1) ∧
  (¬ r_1 = 0 → w_X10_cheapestEntry_J13 p0 mm Q9 0)))
def rm_X10_cheapestEntry : Room := { frames := 5, cells := 0, slots := 0, locals := 113 }
theorem hy_X10_cheapestEntry : yX10_cheapestEntry.cls = RX10 ∧ yX10_cheapestEntry.cls ≠ "java/lang/invoke/MethodHandle" ∧ yX10_cheapestEntry.cls ≠ "java/lang/invoke/VarHandle" ∧ (parseMethodDescriptor yX10_cheapestEntry.desc).map (fun d => d.parameters.length) = some 1 := by decide +kernel
set_option maxRecDepth 100000 in
set_option maxHeartbeats 4000000 in
theorem c_X10_cheapestEntry {l : Launch} {D : va_G} {cA : Nat → ClassId} {ad : Nat → Nat → Nat} {A : Nat → Prop} (ax : Ax ad GM A) (p0 : Int32) (mm : Mm) (Q9 : Int32 → Mm → Prop) (h : w_X10_cheapestEntry p0 mm Q9) : Met l yX10_cheapestEntry (.code yX10_cheapestEntry cX10_cheapestEntry 3 (some .int) :: TG) rm_X10_cheapestEntry (PcM TT D cA ad false GM (ZM) [.ref (ad 30 1), .int p0] mm) (AnsI TT D cA ad false GM A Q9) 0 0 A := by
  have zo := ZM_ok A
  unfold w_X10_cheapestEntry at h
  refine enterI pl_X10 ⟨rfl, rfl⟩ rfl (Nat.le_of_ble_eq_true rfl) ?_
  intro p e s m args below meth c QQ X hK hZ hnm hE
  refine q_aload_n (j := 0) X dX10_cheapestEntry_0 rfl rfl ?_
  refine q_iload_n (j := 1) X dX10_cheapestEntry_1 rfl rfl ?_
  refine q_calli (q_runS X hK hZ zo [.int p0] [.ref (ad 30 1)] rfl rfl (Nat.le_of_ble_eq_true rfl) dX10_cheapestEntry_2 ⟨Nat.le_of_ble_eq_true rfl, Nat.le_of_ble_eq_true rfl⟩ (c_X10_isKind ax p0 mm _ h) rfl rfl (gS kw_7_67 kw_7_68 kw_1_11 kw_7_69) hy_X10_isKind.2 ⟨Nat.le_of_ble_eq_true rfl, Nat.le_of_ble_eq_true rfl⟩) (fun r_1 m_2 h => ?_)
  obtain ⟨h, hm⟩ := h
  subst hm
  have J13 : ∀ (y_3 : Int32), w_X10_cheapestEntry_J13 p0 mm Q9 y_3 → V p l e rm_X10_cheapestEntry s m args below meth c QQ 3 A 0 0 (Rep TT D cA ad false GM mm) 13 [(0, .ref (ad 30 1)), (1, .int p0)] [.int y_3, .ref (ad 30 1)] := by
    intro y_3 h
    unfold w_X10_cheapestEntry_J13 at h
    refine q_calli (q_runV X hK hZ zo (gm (t := 30) (by decide) (ok1 (t := 30) (Nat.le_of_ble_eq_true rfl))) rfl rfl [.int y_3] [] rfl rfl (Nat.le_of_ble_eq_true rfl) dX10_cheapestEntry_13 ⟨Nat.le_of_ble_eq_true rfl, Nat.le_of_ble_eq_true rfl⟩ (c_X10_refused ax y_3 mm _ h) rfl rfl (gV kw_7_126 kw_7_128 ks_95 kw_1_11 kw_7_129) hy_X10_refused ⟨Nat.le_of_ble_eq_true rfl, Nat.le_of_ble_eq_true rfl⟩) (fun r_4 m_5 h => ?_)
    refine q_if_eq (tgt := 21) X dX10_cheapestEntry_16 (by decide) (fun c_6 => ?_) (fun c_6 => ?_)
    · have h := h.1 c_6
      refine q_aload_n (j := 0) X dX10_cheapestEntry_21 rfl rfl ?_
      refine q_callv (q_runV X hK hZ zo (gm (t := 30) (by decide) (ok1 (t := 30) (Nat.le_of_ble_eq_true rfl))) rfl rfl [] [] rfl rfl (Nat.le_of_ble_eq_true rfl) dX10_cheapestEntry_22 ⟨Nat.le_of_ble_eq_true rfl, Nat.le_of_ble_eq_true rfl⟩ (c_X10_forgets ax m_5 _ h) rfl rfl (gV kw_9_115 kw_9_117 ks_137 kw_1_11 kw_9_118) hy_X10_forgets ⟨Nat.le_of_ble_eq_true rfl, Nat.le_of_ble_eq_true rfl⟩) (fun m_8 h => ?_)
      refine q_aload_n (j := 0) X dX10_cheapestEntry_25 rfl rfl ?_
      refine q_iload_n (j := 1) X dX10_cheapestEntry_26 rfl rfl ?_
      refine q_calli (q_runV X hK hZ zo (gm (t := 30) (by decide) (ok1 (t := 30) (Nat.le_of_ble_eq_true rfl))) rfl rfl [.int p0] [] rfl rfl (Nat.le_of_ble_eq_true rfl) dX10_cheapestEntry_27 ⟨Nat.le_of_ble_eq_true rfl, Nat.le_of_ble_eq_true rfl⟩ (c_X10_cheapest ax p0 m_8 _ h) rfl rfl (gV kw_9_119 kw_9_121 ks_138 kw_1_11 kw_9_122) hy_X10_cheapest ⟨Nat.le_of_ble_eq_true rfl, Nat.le_of_ble_eq_true rfl⟩) (fun r_9 m_10 h => ?_)
      obtain ⟨h, hm⟩ := h
      subst hm
      refine q_istore_n (lv' := [(2, .int r_9), (0, .ref (ad 30 1)), (1, .int p0)]) X dX10_cheapestEntry_30 rfl (by decide) rfl ?_
      refine q_iload_n (j := 0) X dX10_cheapestEntry_31 rfl rfl ?_
      refine q_iconst (v := (-1)) X dX10_cheapestEntry_32 (by decide) ?_
      refine q_icmp_ne (tgt := 40) X dX10_cheapestEntry_33 (by decide) (fun c_11 => ?_) (fun c_11 => ?_)
      · have h := h.1 c_11
        refine q_aload_n (j := 1) X dX10_cheapestEntry_40 rfl rfl ?_
        refine q_iload_n (j := 0) X dX10_cheapestEntry_41 rfl rfl ?_
        refine q_iconst (v := 0) X dX10_cheapestEntry_42 (by decide) ?_
        refine q_calli (q_runV X hK hZ zo (gm (t := 30) (by decide) (ok1 (t := 30) (Nat.le_of_ble_eq_true rfl))) rfl rfl [.int r_9, .int 0] [] rfl rfl (Nat.le_of_ble_eq_true rfl) dX10_cheapestEntry_43 ⟨Nat.le_of_ble_eq_true rfl, Nat.le_of_ble_eq_true rfl⟩ (c_X10_of ax r_9 0 m_8 _ h) rfl rfl (gV kw_7_95 kw_7_97 ks_88 kw_1_11 kw_7_98) hy_X10_of ⟨Nat.le_of_ble_eq_true rfl, Nat.le_of_ble_eq_true rfl⟩) (fun r_12 m_13 h => ?_)
        obtain ⟨h, hm⟩ := h
        subst hm
        exact hE _ _ _ _ dX10_cheapestEntry_46 h
      · have h := h.2 c_11
        refine q_iconst (v := (-1)) X dX10_cheapestEntry_36 (by decide) ?_
        refine q_goto (tgt := 46) X dX10_cheapestEntry_37 (by decide) ?_
        exact hE _ _ _ _ dX10_cheapestEntry_46 h
    · have h := h.2 c_6
      refine q_iconst (v := 0) X dX10_cheapestEntry_19 (by decide) ?_
      exact hE _ _ _ _ dX10_cheapestEntry_20 h
  refine q_if_eq (tgt := 12) X dX10_cheapestEntry_5 (by decide) (fun c_14 => ?_) (fun c_14 => ?_)
  · have h := h.1 c_14
    refine q_iconst (v := 1) X dX10_cheapestEntry_12 (by decide) ?_
    refine q_sub [0, 1] rfl ?_
    exact J13 1 h
  · have h := h.2 c_14
    refine q_iconst (v := 0) X dX10_cheapestEntry_8 (by decide) ?_
    refine q_goto (tgt := 13) X dX10_cheapestEntry_9 (by decide) ?_
    refine q_sub [0, 1] rfl ?_
    exact J13 0 h
theorem dX10_dutyFromCheapest_0 : decode cX10_dutyFromCheapest 0 = .ok (.aload_n 0, 1) := by decide +kernel
theorem dX10_dutyFromCheapest_1 : decode cX10_dutyFromCheapest 1 = .ok (.iload_n 1, 1) := by decide +kernel
theorem dX10_dutyFromCheapest_2 : decode cX10_dutyFromCheapest 2 = .ok (.invokestatic 129, 3) := by decide +kernel
theorem dX10_dutyFromCheapest_5 : decode cX10_dutyFromCheapest 5 = .ok (.ifCond .eq 19, 3) := by decide +kernel
theorem dX10_dutyFromCheapest_8 : decode cX10_dutyFromCheapest 8 = .ok (.iload_n 2, 1) := by decide +kernel
theorem dX10_dutyFromCheapest_9 : decode cX10_dutyFromCheapest 9 = .ok (.i2l, 1) := by decide +kernel
theorem dX10_dutyFromCheapest_10 : decode cX10_dutyFromCheapest 10 = .ok (.lconst 1, 1) := by decide +kernel
theorem dX10_dutyFromCheapest_11 : decode cX10_dutyFromCheapest 11 = .ok (.ldc2_w 135, 3) := by decide +kernel
theorem dX10_dutyFromCheapest_14 : decode cX10_dutyFromCheapest 14 = .ok (.invokestatic 35, 3) := by decide +kernel
theorem dX10_dutyFromCheapest_17 : decode cX10_dutyFromCheapest 17 = .ok (.ifCond .eq 7, 3) := by decide +kernel
theorem dX10_dutyFromCheapest_20 : decode cX10_dutyFromCheapest 20 = .ok (.iconst 0, 1) := by decide +kernel
theorem dX10_dutyFromCheapest_21 : decode cX10_dutyFromCheapest 21 = .ok (.goto 4, 3) := by decide +kernel
theorem dX10_dutyFromCheapest_24 : decode cX10_dutyFromCheapest 24 = .ok (.iconst 1, 1) := by decide +kernel
theorem dX10_dutyFromCheapest_25 : decode cX10_dutyFromCheapest 25 = .ok (.invokevirtual 147, 3) := by decide +kernel
theorem dX10_dutyFromCheapest_28 : decode cX10_dutyFromCheapest 28 = .ok (.ifCond .eq 5, 3) := by decide +kernel
theorem dX10_dutyFromCheapest_31 : decode cX10_dutyFromCheapest 31 = .ok (.iconst 0, 1) := by decide +kernel
theorem dX10_dutyFromCheapest_32 : decode cX10_dutyFromCheapest 32 = .ok (.ireturn, 1) := by decide +kernel
theorem dX10_dutyFromCheapest_33 : decode cX10_dutyFromCheapest 33 = .ok (.aload_n 0, 1) := by decide +kernel
theorem dX10_dutyFromCheapest_34 : decode cX10_dutyFromCheapest 34 = .ok (.iload_n 1, 1) := by decide +kernel
theorem dX10_dutyFromCheapest_35 : decode cX10_dutyFromCheapest 35 = .ok (.invokevirtual 245, 3) := by decide +kernel
theorem dX10_dutyFromCheapest_38 : decode cX10_dutyFromCheapest 38 = .ok (.iload_n 2, 1) := by decide +kernel
theorem dX10_dutyFromCheapest_39 : decode cX10_dutyFromCheapest 39 = .ok (.if_icmp .ge 5, 3) := by decide +kernel
theorem dX10_dutyFromCheapest_42 : decode cX10_dutyFromCheapest 42 = .ok (.iconst (-1), 1) := by decide +kernel
theorem dX10_dutyFromCheapest_43 : decode cX10_dutyFromCheapest 43 = .ok (.ireturn, 1) := by decide +kernel
theorem dX10_dutyFromCheapest_44 : decode cX10_dutyFromCheapest 44 = .ok (.aload_n 0, 1) := by decide +kernel
theorem dX10_dutyFromCheapest_45 : decode cX10_dutyFromCheapest 45 = .ok (.invokevirtual 250, 3) := by decide +kernel
theorem dX10_dutyFromCheapest_48 : decode cX10_dutyFromCheapest 48 = .ok (.iload_n 2, 1) := by decide +kernel
theorem dX10_dutyFromCheapest_49 : decode cX10_dutyFromCheapest 49 = .ok (.istore_n 3, 1) := by decide +kernel
theorem dX10_dutyFromCheapest_50 : decode cX10_dutyFromCheapest 50 = .ok (.iconst 0, 1) := by decide +kernel
theorem dX10_dutyFromCheapest_51 : decode cX10_dutyFromCheapest 51 = .ok (.istore 4, 2) := by decide +kernel
theorem dX10_dutyFromCheapest_53 : decode cX10_dutyFromCheapest 53 = .ok (.iload_n 3, 1) := by decide +kernel
theorem dX10_dutyFromCheapest_54 : decode cX10_dutyFromCheapest 54 = .ok (.ifCond .le 63, 3) := by decide +kernel
theorem dX10_dutyFromCheapest_57 : decode cX10_dutyFromCheapest 57 = .ok (.aload_n 0, 1) := by decide +kernel
theorem dX10_dutyFromCheapest_58 : decode cX10_dutyFromCheapest 58 = .ok (.iload_n 1, 1) := by decide +kernel
theorem dX10_dutyFromCheapest_59 : decode cX10_dutyFromCheapest 59 = .ok (.invokevirtual 253, 3) := by decide +kernel
theorem dX10_dutyFromCheapest_62 : decode cX10_dutyFromCheapest 62 = .ok (.istore 5, 2) := by decide +kernel
theorem dX10_dutyFromCheapest_64 : decode cX10_dutyFromCheapest 64 = .ok (.aload_n 0, 1) := by decide +kernel
theorem dX10_dutyFromCheapest_65 : decode cX10_dutyFromCheapest 65 = .ok (.iload 5, 2) := by decide +kernel
theorem dX10_dutyFromCheapest_67 : decode cX10_dutyFromCheapest 67 = .ok (.iconst 2, 1) := by decide +kernel
theorem dX10_dutyFromCheapest_68 : decode cX10_dutyFromCheapest 68 = .ok (.invokevirtual 41, 3) := by decide +kernel
theorem dX10_dutyFromCheapest_71 : decode cX10_dutyFromCheapest 71 = .ok (.iload_n 3, 1) := by decide +kernel
theorem dX10_dutyFromCheapest_72 : decode cX10_dutyFromCheapest 72 = .ok (.if_icmp .ge 13, 3) := by decide +kernel
theorem dX10_dutyFromCheapest_75 : decode cX10_dutyFromCheapest 75 = .ok (.aload_n 0, 1) := by decide +kernel
theorem dX10_dutyFromCheapest_76 : decode cX10_dutyFromCheapest 76 = .ok (.iload 5, 2) := by decide +kernel
theorem dX10_dutyFromCheapest_78 : decode cX10_dutyFromCheapest 78 = .ok (.iconst 2, 1) := by decide +kernel
theorem dX10_dutyFromCheapest_79 : decode cX10_dutyFromCheapest 79 = .ok (.invokevirtual 41, 3) := by decide +kernel
theorem dX10_dutyFromCheapest_82 : decode cX10_dutyFromCheapest 82 = .ok (.goto 4, 3) := by decide +kernel
theorem dX10_dutyFromCheapest_85 : decode cX10_dutyFromCheapest 85 = .ok (.iload_n 3, 1) := by decide +kernel
theorem dX10_dutyFromCheapest_86 : decode cX10_dutyFromCheapest 86 = .ok (.istore 6, 2) := by decide +kernel
theorem dX10_dutyFromCheapest_88 : decode cX10_dutyFromCheapest 88 = .ok (.iload 4, 2) := by decide +kernel
theorem dX10_dutyFromCheapest_90 : decode cX10_dutyFromCheapest 90 = .ok (.aload_n 0, 1) := by decide +kernel
theorem dX10_dutyFromCheapest_91 : decode cX10_dutyFromCheapest 91 = .ok (.iload 5, 2) := by decide +kernel
theorem dX10_dutyFromCheapest_93 : decode cX10_dutyFromCheapest 93 = .ok (.iload 6, 2) := by decide +kernel
theorem dX10_dutyFromCheapest_95 : decode cX10_dutyFromCheapest 95 = .ok (.invokevirtual 59, 3) := by decide +kernel
theorem dX10_dutyFromCheapest_98 : decode cX10_dutyFromCheapest 98 = .ok (.iadd, 1) := by decide +kernel
theorem dX10_dutyFromCheapest_99 : decode cX10_dutyFromCheapest 99 = .ok (.istore 4, 2) := by decide +kernel
theorem dX10_dutyFromCheapest_101 : decode cX10_dutyFromCheapest 101 = .ok (.iload_n 3, 1) := by decide +kernel
theorem dX10_dutyFromCheapest_102 : decode cX10_dutyFromCheapest 102 = .ok (.iload 6, 2) := by decide +kernel
theorem dX10_dutyFromCheapest_104 : decode cX10_dutyFromCheapest 104 = .ok (.isub, 1) := by decide +kernel
theorem dX10_dutyFromCheapest_105 : decode cX10_dutyFromCheapest 105 = .ok (.istore_n 3, 1) := by decide +kernel
theorem dX10_dutyFromCheapest_106 : decode cX10_dutyFromCheapest 106 = .ok (.aload_n 0, 1) := by decide +kernel
theorem dX10_dutyFromCheapest_107 : decode cX10_dutyFromCheapest 107 = .ok (.getfield 26, 3) := by decide +kernel
theorem dX10_dutyFromCheapest_110 : decode cX10_dutyFromCheapest 110 = .ok (.iload 5, 2) := by decide +kernel
theorem dX10_dutyFromCheapest_112 : decode cX10_dutyFromCheapest 112 = .ok (.iconst 1, 1) := by decide +kernel
theorem dX10_dutyFromCheapest_113 : decode cX10_dutyFromCheapest 113 = .ok (.bastore, 1) := by decide +kernel
theorem dX10_dutyFromCheapest_114 : decode cX10_dutyFromCheapest 114 = .ok (.goto (-61), 3) := by decide +kernel
theorem dX10_dutyFromCheapest_117 : decode cX10_dutyFromCheapest 117 = .ok (.iload 4, 2) := by decide +kernel
theorem dX10_dutyFromCheapest_119 : decode cX10_dutyFromCheapest 119 = .ok (.ireturn, 1) := by decide +kernel
def w_X10_dutyFromCheapest_J86 (y_12 : Int32) (y_13 : Int32) (m_14 : Mm) (r_18 : Int32) (K_15 : Int32 → Int32 → Mm → Prop) (y_22 : Int32) : Prop :=
  w_X10_dutyPart r_18 y_22 m_14 (fun (r_23 : Int32) => ∀ x_25 : Int32, x_25 = (y_13 + r_23) → (∀ x_26 : Int32, x_26 = (y_12 - y_22) → (vp_in r_18 16 ∧ ∀ m_28 : Mm, m_28 = sI m_14 36 1 r_18.toNatClampNeg 1 → (K_15 x_26 x_25 m_28))))
def w_X10_dutyFromCheapest_B53 (p0 : Int32) (Q9 : Int32 → Mm → Prop) (K_15 : Int32 → Int32 → Mm → Prop) (y_12 : Int32) (y_13 : Int32) (m_14 : Mm) : Prop :=
  ((y_12 ≤ 0 → Q9 y_13 m_14) ∧
  (¬ y_12 ≤ 0 → w_X10_cheapest p0 m_14 (fun (r_18 : Int32) => w_X10_of r_18 2 m_14 (fun (r_20 : Int32) => ((y_12 ≤ r_20 → w_X10_dutyFromCheapest_J86 y_12 y_13 m_14 r_18 K_15 y_12) ∧
  (¬ y_12 ≤ r_20 → w_X10_of r_18 2 m_14 (fun (r_30 : Int32) => w_X10_dutyFromCheapest_J86 y_12 y_13 m_14 r_18 K_15 r_30)))))))
def w_X10_dutyFromCheapest_J25 (p0 : Int32) (p1 : Int32) (mm : Mm) (Q9 : Int32 → Mm → Prop) (y_3 : Int32) : Prop :=
  w_X10_refused y_3 mm (fun (r_4 : Int32) (m_5 : Mm) => ((r_4 = 0 → w_X10_stock p0 m_5 (fun (r_7 : Int32) => ((p1 ≤ r_7 → w_X10_forgets m_5 (fun (m_11 : Mm) => ∃ n, itr (α := Int32 × Int32 × Mm) (fun K a => w_X10_dutyFromCheapest_B53 p0 Q9 (fun z0 z1 z2 => K (z0, z1, z2)) a.1 a.2.1 a.2.2) n (p1, 0, m_11))) ∧
  (¬ p1 ≤ r_7 → Q9 (-1) m_5)))) ∧
  (¬ r_4 = 0 → Q9 0 m_5)))
def w_X10_dutyFromCheapest_J24 (p0 : Int32) (p1 : Int32) (mm : Mm) (Q9 : Int32 → Mm → Prop) : Prop :=
  w_X10_dutyFromCheapest_J25 p0 p1 mm Q9 1
def w_X10_dutyFromCheapest (p0 : Int32) (p1 : Int32) (mm : Mm) (Q9 : Int32 → Mm → Prop) : Prop :=
  w_X10_isKind p0 mm (fun (r_1 : Int32) => ((r_1 = 0 → w_X10_dutyFromCheapest_J24 p0 p1 mm Q9) ∧
  (¬ r_1 = 0 → w_X10_in (Int32.toInt64 p1) (1 : Int64) (9999 : Int64) mm (fun (r_34 : Int32) => ((r_34 = 0 → w_X10_dutyFromCheapest_J24 p0 p1 mm Q9) ∧
  (¬ r_34 = 0 → w_X10_dutyFromCheapest_J25 p0 p1 mm Q9 0))))))
def rm_X10_dutyFromCheapest : Room := { frames := 5, cells := 0, slots := 0, locals := 113 }
theorem hy_X10_dutyFromCheapest : yX10_dutyFromCheapest.cls = RX10 ∧ yX10_dutyFromCheapest.cls ≠ "java/lang/invoke/MethodHandle" ∧ yX10_dutyFromCheapest.cls ≠ "java/lang/invoke/VarHandle" ∧ (parseMethodDescriptor yX10_dutyFromCheapest.desc).map (fun d => d.parameters.length) = some 2 := by decide +kernel
set_option maxRecDepth 100000 in
set_option maxHeartbeats 4000000 in
theorem c_X10_dutyFromCheapest {l : Launch} {D : va_G} {cA : Nat → ClassId} {ad : Nat → Nat → Nat} {A : Nat → Prop} (ax : Ax ad GM A) (p0 : Int32) (p1 : Int32) (mm : Mm) (Q9 : Int32 → Mm → Prop) (h : w_X10_dutyFromCheapest p0 p1 mm Q9) : Met l yX10_dutyFromCheapest (.code yX10_dutyFromCheapest cX10_dutyFromCheapest 7 (some .int) :: TG) rm_X10_dutyFromCheapest (PcM TT D cA ad false GM (ZM) [.ref (ad 30 1), .int p0, .int p1] mm) (AnsI TT D cA ad false GM A Q9) 0 0 A := by
  have zo := ZM_ok A
  unfold w_X10_dutyFromCheapest at h
  refine enterI pl_X10 ⟨rfl, rfl⟩ rfl (Nat.le_of_ble_eq_true rfl) ?_
  intro p e s m args below meth c QQ X hK hZ hnm hE
  refine q_aload_n (j := 0) X dX10_dutyFromCheapest_0 rfl rfl ?_
  refine q_iload_n (j := 1) X dX10_dutyFromCheapest_1 rfl rfl ?_
  refine q_calli (q_runS X hK hZ zo [.int p0] [.ref (ad 30 1)] rfl rfl (Nat.le_of_ble_eq_true rfl) dX10_dutyFromCheapest_2 ⟨Nat.le_of_ble_eq_true rfl, Nat.le_of_ble_eq_true rfl⟩ (c_X10_isKind ax p0 mm _ h) rfl rfl (gS kw_7_67 kw_7_68 kw_1_11 kw_7_69) hy_X10_isKind.2 ⟨Nat.le_of_ble_eq_true rfl, Nat.le_of_ble_eq_true rfl⟩) (fun r_1 m_2 h => ?_)
  obtain ⟨h, hm⟩ := h
  subst hm
  have J25 : ∀ (y_3 : Int32), w_X10_dutyFromCheapest_J25 p0 p1 mm Q9 y_3 → V p l e rm_X10_dutyFromCheapest s m args below meth c QQ 7 A 0 0 (Rep TT D cA ad false GM mm) 25 [(0, .ref (ad 30 1)), (1, .int p0), (2, .int p1)] [.int y_3, .ref (ad 30 1)] := by
    intro y_3 h
    unfold w_X10_dutyFromCheapest_J25 at h
    refine q_calli (q_runV X hK hZ zo (gm (t := 30) (by decide) (ok1 (t := 30) (Nat.le_of_ble_eq_true rfl))) rfl rfl [.int y_3] [] rfl rfl (Nat.le_of_ble_eq_true rfl) dX10_dutyFromCheapest_25 ⟨Nat.le_of_ble_eq_true rfl, Nat.le_of_ble_eq_true rfl⟩ (c_X10_refused ax y_3 mm _ h) rfl rfl (gV kw_7_126 kw_7_128 ks_95 kw_1_11 kw_7_129) hy_X10_refused ⟨Nat.le_of_ble_eq_true rfl, Nat.le_of_ble_eq_true rfl⟩) (fun r_4 m_5 h => ?_)
    refine q_if_eq (tgt := 33) X dX10_dutyFromCheapest_28 (by decide) (fun c_6 => ?_) (fun c_6 => ?_)
    · have h := h.1 c_6
      refine q_aload_n (j := 0) X dX10_dutyFromCheapest_33 rfl rfl ?_
      refine q_iload_n (j := 1) X dX10_dutyFromCheapest_34 rfl rfl ?_
      refine q_calli (q_runV X hK hZ zo (gm (t := 30) (by decide) (ok1 (t := 30) (Nat.le_of_ble_eq_true rfl))) rfl rfl [.int p0] [] rfl rfl (Nat.le_of_ble_eq_true rfl) dX10_dutyFromCheapest_35 ⟨Nat.le_of_ble_eq_true rfl, Nat.le_of_ble_eq_true rfl⟩ (c_X10_stock ax p0 m_5 _ h) rfl rfl (gV kw_9_62 kw_9_64 ks_136 kw_1_11 kw_9_65) hy_X10_stock ⟨Nat.le_of_ble_eq_true rfl, Nat.le_of_ble_eq_true rfl⟩) (fun r_7 m_8 h => ?_)
      obtain ⟨h, hm⟩ := h
      subst hm
      refine q_iload_n (j := 2) X dX10_dutyFromCheapest_38 rfl rfl ?_
      refine q_icmp_ge (tgt := 44) X dX10_dutyFromCheapest_39 (by decide) (fun c_9 => ?_) (fun c_9 => ?_)
      · have h := h.1 c_9
        refine q_aload_n (j := 0) X dX10_dutyFromCheapest_44 rfl rfl ?_
        refine q_callv (q_runV X hK hZ zo (gm (t := 30) (by decide) (ok1 (t := 30) (Nat.le_of_ble_eq_true rfl))) rfl rfl [] [] rfl rfl (Nat.le_of_ble_eq_true rfl) dX10_dutyFromCheapest_45 ⟨Nat.le_of_ble_eq_true rfl, Nat.le_of_ble_eq_true rfl⟩ (c_X10_forgets ax m_5 _ h) rfl rfl (gV kw_9_115 kw_9_117 ks_137 kw_1_11 kw_9_118) hy_X10_forgets ⟨Nat.le_of_ble_eq_true rfl, Nat.le_of_ble_eq_true rfl⟩) (fun m_11 h => ?_)
        refine q_iload_n (j := 2) X dX10_dutyFromCheapest_48 rfl rfl ?_
        refine q_istore_n (lv' := [(3, .int p1), (0, .ref (ad 30 1)), (1, .int p0), (2, .int p1)]) X dX10_dutyFromCheapest_49 rfl (by decide) rfl ?_
        refine q_iconst (v := 0) X dX10_dutyFromCheapest_50 (by decide) ?_
        refine q_istore (lv' := [(4, .int 0), (3, .int p1), (0, .ref (ad 30 1)), (1, .int p0), (2, .int p1)]) X dX10_dutyFromCheapest_51 (by decide) rfl ?_
        refine q_sub [2, 3, 1, 0] rfl ?_
        have L53 : ∀ (n : Nat) (y_12 : Int32) (y_13 : Int32) (m_14 : Mm), itr (α := Int32 × Int32 × Mm) (fun K a => w_X10_dutyFromCheapest_B53 p0 Q9 (fun z0 z1 z2 => K (z0, z1, z2)) a.1 a.2.1 a.2.2) n (y_12, y_13, m_14) → V p l e rm_X10_dutyFromCheapest s m args below meth c QQ 7 A 0 0 (Rep TT D cA ad false GM m_14) 53 [(0, .ref (ad 30 1)), (1, .int p0), (3, .int y_12), (4, .int y_13)] [] := by
          intro n
          induction n with
          | zero => intro y_12 y_13 m_14 h; exact h.elim
          | succ n ih_16 =>
            intro y_12 y_13 m_14 h
            have h : w_X10_dutyFromCheapest_B53 p0 Q9 (fun z0 z1 z2 => itr (α := Int32 × Int32 × Mm) (fun K a => w_X10_dutyFromCheapest_B53 p0 Q9 (fun z0 z1 z2 => K (z0, z1, z2)) a.1 a.2.1 a.2.2) n (z0, z1, z2)) y_12 y_13 m_14 := h
            generalize hKe : (fun z0 z1 z2 => itr (α := Int32 × Int32 × Mm) (fun K a => w_X10_dutyFromCheapest_B53 p0 Q9 (fun z0 z1 z2 => K (z0, z1, z2)) a.1 a.2.1 a.2.2) n (z0, z1, z2)) = K_15 at h
            have ih_16k : ∀ (y_12 : Int32) (y_13 : Int32) (m_14 : Mm), K_15 y_12 y_13 m_14 → V p l e rm_X10_dutyFromCheapest s m args below meth c QQ 7 A 0 0 (Rep TT D cA ad false GM m_14) 53 [(0, .ref (ad 30 1)), (1, .int p0), (3, .int y_12), (4, .int y_13)] [] := fun y_12 y_13 m_14 h => ih_16 y_12 y_13 m_14 (by rw [← hKe] at h; exact h)
            unfold w_X10_dutyFromCheapest_B53 at h
            refine q_iload_n (j := 2) X dX10_dutyFromCheapest_53 rfl rfl ?_
            refine q_if_le (tgt := 117) X dX10_dutyFromCheapest_54 (by decide) (fun c_17 => ?_) (fun c_17 => ?_)
            · have h := h.1 c_17
              refine q_iload (j := 3) X dX10_dutyFromCheapest_117 rfl ?_
              exact hE _ _ _ _ dX10_dutyFromCheapest_119 h
            · have h := h.2 c_17
              refine q_aload_n (j := 0) X dX10_dutyFromCheapest_57 rfl rfl ?_
              refine q_iload_n (j := 1) X dX10_dutyFromCheapest_58 rfl rfl ?_
              refine q_calli (q_runV X hK hZ zo (gm (t := 30) (by decide) (ok1 (t := 30) (Nat.le_of_ble_eq_true rfl))) rfl rfl [.int p0] [] rfl rfl (Nat.le_of_ble_eq_true rfl) dX10_dutyFromCheapest_59 ⟨Nat.le_of_ble_eq_true rfl, Nat.le_of_ble_eq_true rfl⟩ (c_X10_cheapest ax p0 m_14 _ h) rfl rfl (gV kw_9_119 kw_9_121 ks_138 kw_1_11 kw_9_122) hy_X10_cheapest ⟨Nat.le_of_ble_eq_true rfl, Nat.le_of_ble_eq_true rfl⟩) (fun r_18 m_19 h => ?_)
              obtain ⟨h, hm⟩ := h
              subst hm
              refine q_istore (lv' := [(5, .int r_18), (0, .ref (ad 30 1)), (1, .int p0), (3, .int y_12), (4, .int y_13)]) X dX10_dutyFromCheapest_62 (by decide) rfl ?_
              refine q_aload_n (j := 1) X dX10_dutyFromCheapest_64 rfl rfl ?_
              refine q_iload (j := 0) X dX10_dutyFromCheapest_65 rfl ?_
              refine q_iconst (v := 2) X dX10_dutyFromCheapest_67 (by decide) ?_
              refine q_calli (q_runV X hK hZ zo (gm (t := 30) (by decide) (ok1 (t := 30) (Nat.le_of_ble_eq_true rfl))) rfl rfl [.int r_18, .int 2] [] rfl rfl (Nat.le_of_ble_eq_true rfl) dX10_dutyFromCheapest_68 ⟨Nat.le_of_ble_eq_true rfl, Nat.le_of_ble_eq_true rfl⟩ (c_X10_of ax r_18 2 m_14 _ h) rfl rfl (gV kw_7_95 kw_7_97 ks_88 kw_1_11 kw_7_98) hy_X10_of ⟨Nat.le_of_ble_eq_true rfl, Nat.le_of_ble_eq_true rfl⟩) (fun r_20 m_21 h => ?_)
              obtain ⟨h, hm⟩ := h
              subst hm
              refine q_iload_n (j := 3) X dX10_dutyFromCheapest_71 rfl rfl ?_
              have J86 : ∀ (y_22 : Int32), w_X10_dutyFromCheapest_J86 y_12 y_13 m_14 r_18 K_15 y_22 → V p l e rm_X10_dutyFromCheapest s m args below meth c QQ 7 A 0 0 (Rep TT D cA ad false GM m_14) 86 [(0, .ref (ad 30 1)), (1, .int p0), (3, .int y_12), (4, .int y_13), (5, .int r_18)] [.int y_22] := by
                intro y_22 h
                unfold w_X10_dutyFromCheapest_J86 at h
                refine q_istore (lv' := [(6, .int y_22), (0, .ref (ad 30 1)), (1, .int p0), (3, .int y_12), (4, .int y_13), (5, .int r_18)]) X dX10_dutyFromCheapest_86 (by decide) rfl ?_
                refine q_iload (j := 4) X dX10_dutyFromCheapest_88 rfl ?_
                refine q_aload_n (j := 1) X dX10_dutyFromCheapest_90 rfl rfl ?_
                refine q_iload (j := 5) X dX10_dutyFromCheapest_91 rfl ?_
                refine q_iload (j := 0) X dX10_dutyFromCheapest_93 rfl ?_
                refine q_calli (q_runV X hK hZ zo (gm (t := 30) (by decide) (ok1 (t := 30) (Nat.le_of_ble_eq_true rfl))) rfl rfl [.int r_18, .int y_22] [.int y_13] rfl rfl (Nat.le_of_ble_eq_true rfl) dX10_dutyFromCheapest_95 ⟨Nat.le_of_ble_eq_true rfl, Nat.le_of_ble_eq_true rfl⟩ (c_X10_dutyPart ax r_18 y_22 m_14 _ h) rfl rfl (gV kw_7_107 kw_7_109 ks_91 kw_1_11 kw_7_110) hy_X10_dutyPart ⟨Nat.le_of_ble_eq_true rfl, Nat.le_of_ble_eq_true rfl⟩) (fun r_23 m_24 h => ?_)
                obtain ⟨h, hm⟩ := h
                subst hm
                refine q_iadd X dX10_dutyFromCheapest_98 ?_
                refine q_topi (fun x_25 ex_25 => ?_)
                have h := h x_25 ex_25
                refine q_istore (lv' := [(4, .int x_25), (6, .int y_22), (0, .ref (ad 30 1)), (1, .int p0), (3, .int y_12), (5, .int r_18)]) X dX10_dutyFromCheapest_99 (by decide) rfl ?_
                refine q_iload_n (j := 4) X dX10_dutyFromCheapest_101 rfl rfl ?_
                refine q_iload (j := 1) X dX10_dutyFromCheapest_102 rfl ?_
                refine q_isub X dX10_dutyFromCheapest_104 ?_
                refine q_topi (fun x_26 ex_26 => ?_)
                have h := h x_26 ex_26
                refine q_istore_n (lv' := [(3, .int x_26), (4, .int x_25), (6, .int y_22), (0, .ref (ad 30 1)), (1, .int p0), (5, .int r_18)]) X dX10_dutyFromCheapest_105 rfl (by decide) rfl ?_
                refine q_aload_n (j := 3) X dX10_dutyFromCheapest_106 rfl rfl ?_
                refine q_get (k := 8) (v := .ref (ad 36 1)) X hK rfl rfl (Nat.le_of_ble_eq_true rfl) inTX10 (gm (t := 30) (by decide) (ok1 (t := 30) (Nat.le_of_ble_eq_true rfl))) kw_7_15 rfl (rv_nn (a := ad 36) (r := 1) (ok1 (t := 36) (Nat.le_of_ble_eq_true rfl)).1) dX10_dutyFromCheapest_107 ?_
                refine q_iload (j := 5) X dX10_dutyFromCheapest_110 rfl ?_
                refine q_iconst (v := 1) X dX10_dutyFromCheapest_112 (by decide) ?_
                obtain ⟨b_27, h⟩ := h
                refine q_zast (t := 36) (i := 1) (jn := r_18.toNatClampNeg) X ax hK rfl rfl (gm (t := 36) (by decide) (ok1 (t := 36) (Nat.le_of_ble_eq_true rfl))) rfl b_27 rfl (Or.inr rfl) rfl dX10_dutyFromCheapest_113 ?_
                refine q_nmP (fun m_28 em_28 => ?_)
                have h := h m_28 em_28
                refine q_goto (tgt := 53) X dX10_dutyFromCheapest_114 (by decide) ?_
                refine q_sub [3, 4, 0, 1] rfl ?_
                exact ih_16k x_26 x_25 m_28 h
              refine q_icmp_ge (tgt := 85) X dX10_dutyFromCheapest_72 (by decide) (fun c_29 => ?_) (fun c_29 => ?_)
              · have h := h.1 c_29
                refine q_iload_n (j := 3) X dX10_dutyFromCheapest_85 rfl rfl ?_
                refine q_sub [1, 2, 3, 4, 0] rfl ?_
                exact J86 y_12 h
              · have h := h.2 c_29
                refine q_aload_n (j := 1) X dX10_dutyFromCheapest_75 rfl rfl ?_
                refine q_iload (j := 0) X dX10_dutyFromCheapest_76 rfl ?_
                refine q_iconst (v := 2) X dX10_dutyFromCheapest_78 (by decide) ?_
                refine q_calli (q_runV X hK hZ zo (gm (t := 30) (by decide) (ok1 (t := 30) (Nat.le_of_ble_eq_true rfl))) rfl rfl [.int r_18, .int 2] [] rfl rfl (Nat.le_of_ble_eq_true rfl) dX10_dutyFromCheapest_79 ⟨Nat.le_of_ble_eq_true rfl, Nat.le_of_ble_eq_true rfl⟩ (c_X10_of ax r_18 2 m_14 _ h) rfl rfl (gV kw_7_95 kw_7_97 ks_88 kw_1_11 kw_7_98) hy_X10_of ⟨Nat.le_of_ble_eq_true rfl, Nat.le_of_ble_eq_true rfl⟩) (fun r_30 m_31 h => ?_)
                obtain ⟨h, hm⟩ := h
                subst hm
                refine q_goto (tgt := 86) X dX10_dutyFromCheapest_82 (by decide) ?_
                refine q_sub [1, 2, 3, 4, 0] rfl ?_
                exact J86 r_30 h
        obtain ⟨n_32, h⟩ := h
        exact L53 n_32 p1 0 m_11 h
      · have h := h.2 c_9
        refine q_iconst (v := (-1)) X dX10_dutyFromCheapest_42 (by decide) ?_
        exact hE _ _ _ _ dX10_dutyFromCheapest_43 h
    · have h := h.2 c_6
      refine q_iconst (v := 0) X dX10_dutyFromCheapest_31 (by decide) ?_
      exact hE _ _ _ _ dX10_dutyFromCheapest_32 h
  have J24 : w_X10_dutyFromCheapest_J24 p0 p1 mm Q9  → V p l e rm_X10_dutyFromCheapest s m args below meth c QQ 7 A 0 0 (Rep TT D cA ad false GM mm) 24 [(0, .ref (ad 30 1)), (1, .int p0), (2, .int p1)] [.ref (ad 30 1)] := by
    intro  h
    unfold w_X10_dutyFromCheapest_J24 at h
    refine q_iconst (v := 1) X dX10_dutyFromCheapest_24 (by decide) ?_
    refine q_sub [0, 1, 2] rfl ?_
    exact J25 1 h
  refine q_if_eq (tgt := 24) X dX10_dutyFromCheapest_5 (by decide) (fun c_33 => ?_) (fun c_33 => ?_)
  · have h := h.1 c_33
    refine q_sub [0, 1, 2] rfl ?_
    exact J24  h
  · have h := h.2 c_33
    refine q_iload_n (j := 2) X dX10_dutyFromCheapest_8 rfl rfl ?_
    refine q_i2l X dX10_dutyFromCheapest_9 ?_
    refine q_lconst (v := 1) X dX10_dutyFromCheapest_10 (by decide) ?_
    refine q_ldc2 (v := 9999) X kw_7_78 dX10_dutyFromCheapest_11 ?_
    refine q_calli (q_runS X hK hZ zo [.long (Int32.toInt64 p1), .long (1 : Int64), .long (9999 : Int64)] [.ref (ad 30 1)] rfl rfl (Nat.le_of_ble_eq_true rfl) dX10_dutyFromCheapest_14 ⟨Nat.le_of_ble_eq_true rfl, Nat.le_of_ble_eq_true rfl⟩ (c_X10_in ax (Int32.toInt64 p1) (1 : Int64) (9999 : Int64) mm _ h) rfl rfl (gS kw_7_71 kw_7_72 kw_1_11 kw_7_73) hy_X10_in.2 ⟨Nat.le_of_ble_eq_true rfl, Nat.le_of_ble_eq_true rfl⟩) (fun r_34 m_35 h => ?_)
    obtain ⟨h, hm⟩ := h
    subst hm
    refine q_if_eq (tgt := 24) X dX10_dutyFromCheapest_17 (by decide) (fun c_36 => ?_) (fun c_36 => ?_)
    · have h := h.1 c_36
      refine q_sub [0, 1, 2] rfl ?_
      exact J24  h
    · have h := h.2 c_36
      refine q_iconst (v := 0) X dX10_dutyFromCheapest_20 (by decide) ?_
      refine q_goto (tgt := 25) X dX10_dutyFromCheapest_21 (by decide) ?_
      refine q_sub [0, 1, 2] rfl ?_
      exact J25 0 h
theorem dX10_dearestEntry_0 : decode cX10_dearestEntry 0 = .ok (.aload_n 0, 1) := by decide +kernel
theorem dX10_dearestEntry_1 : decode cX10_dearestEntry 1 = .ok (.iconst 0, 1) := by decide +kernel
theorem dX10_dearestEntry_2 : decode cX10_dearestEntry 2 = .ok (.putfield 29, 3) := by decide +kernel
theorem dX10_dearestEntry_5 : decode cX10_dearestEntry 5 = .ok (.iconst (-1), 1) := by decide +kernel
theorem dX10_dearestEntry_6 : decode cX10_dearestEntry 6 = .ok (.istore_n 1, 1) := by decide +kernel
theorem dX10_dearestEntry_7 : decode cX10_dearestEntry 7 = .ok (.iconst 0, 1) := by decide +kernel
theorem dX10_dearestEntry_8 : decode cX10_dearestEntry 8 = .ok (.istore_n 2, 1) := by decide +kernel
theorem dX10_dearestEntry_9 : decode cX10_dearestEntry 9 = .ok (.iload_n 2, 1) := by decide +kernel
theorem dX10_dearestEntry_10 : decode cX10_dearestEntry 10 = .ok (.aload_n 0, 1) := by decide +kernel
theorem dX10_dearestEntry_11 : decode cX10_dearestEntry 11 = .ok (.getfield 13, 3) := by decide +kernel
theorem dX10_dearestEntry_14 : decode cX10_dearestEntry 14 = .ok (.bipush 117, 2) := by decide +kernel
theorem dX10_dearestEntry_16 : decode cX10_dearestEntry 16 = .ok (.iaload, 1) := by decide +kernel
theorem dX10_dearestEntry_17 : decode cX10_dearestEntry 17 = .ok (.if_icmp .ge 33, 3) := by decide +kernel
theorem dX10_dearestEntry_20 : decode cX10_dearestEntry 20 = .ok (.iload_n 1, 1) := by decide +kernel
theorem dX10_dearestEntry_21 : decode cX10_dearestEntry 21 = .ok (.iconst (-1), 1) := by decide +kernel
theorem dX10_dearestEntry_22 : decode cX10_dearestEntry 22 = .ok (.if_icmp .eq 16, 3) := by decide +kernel
theorem dX10_dearestEntry_25 : decode cX10_dearestEntry 25 = .ok (.aload_n 0, 1) := by decide +kernel
theorem dX10_dearestEntry_26 : decode cX10_dearestEntry 26 = .ok (.iload_n 2, 1) := by decide +kernel
theorem dX10_dearestEntry_27 : decode cX10_dearestEntry 27 = .ok (.invokevirtual 62, 3) := by decide +kernel
theorem dX10_dearestEntry_30 : decode cX10_dearestEntry 30 = .ok (.aload_n 0, 1) := by decide +kernel
theorem dX10_dearestEntry_31 : decode cX10_dearestEntry 31 = .ok (.iload_n 1, 1) := by decide +kernel
theorem dX10_dearestEntry_32 : decode cX10_dearestEntry 32 = .ok (.invokevirtual 62, 3) := by decide +kernel
theorem dX10_dearestEntry_35 : decode cX10_dearestEntry 35 = .ok (.if_icmp .le 7, 3) := by decide +kernel
theorem dX10_dearestEntry_38 : decode cX10_dearestEntry 38 = .ok (.iload_n 2, 1) := by decide +kernel
theorem dX10_dearestEntry_39 : decode cX10_dearestEntry 39 = .ok (.goto 4, 3) := by decide +kernel
theorem dX10_dearestEntry_42 : decode cX10_dearestEntry 42 = .ok (.iload_n 1, 1) := by decide +kernel
theorem dX10_dearestEntry_43 : decode cX10_dearestEntry 43 = .ok (.istore_n 1, 1) := by decide +kernel
theorem dX10_dearestEntry_44 : decode cX10_dearestEntry 44 = .ok (.iinc 2 1, 3) := by decide +kernel
theorem dX10_dearestEntry_47 : decode cX10_dearestEntry 47 = .ok (.goto (-38), 3) := by decide +kernel
theorem dX10_dearestEntry_50 : decode cX10_dearestEntry 50 = .ok (.iload_n 1, 1) := by decide +kernel
theorem dX10_dearestEntry_51 : decode cX10_dearestEntry 51 = .ok (.iconst (-1), 1) := by decide +kernel
theorem dX10_dearestEntry_52 : decode cX10_dearestEntry 52 = .ok (.if_icmp .ne 7, 3) := by decide +kernel
theorem dX10_dearestEntry_55 : decode cX10_dearestEntry 55 = .ok (.iconst (-1), 1) := by decide +kernel
theorem dX10_dearestEntry_56 : decode cX10_dearestEntry 56 = .ok (.goto 9, 3) := by decide +kernel
theorem dX10_dearestEntry_59 : decode cX10_dearestEntry 59 = .ok (.aload_n 0, 1) := by decide +kernel
theorem dX10_dearestEntry_60 : decode cX10_dearestEntry 60 = .ok (.iload_n 1, 1) := by decide +kernel
theorem dX10_dearestEntry_61 : decode cX10_dearestEntry 61 = .ok (.iconst 0, 1) := by decide +kernel
theorem dX10_dearestEntry_62 : decode cX10_dearestEntry 62 = .ok (.invokevirtual 41, 3) := by decide +kernel
theorem dX10_dearestEntry_65 : decode cX10_dearestEntry 65 = .ok (.ireturn, 1) := by decide +kernel
def w_X10_dearestEntry_B9 (Q9 : Int32 → Mm → Prop) (m_1 : Mm) (K_4 : Int32 → Int32 → Prop) (y_2 : Int32) (y_3 : Int32) : Prop :=
  (((m_1.1 32 1 117) ≤ y_3 → ((¬ y_2 = (-1) → w_X10_of y_2 0 m_1 (fun (r_8 : Int32) => Q9 r_8 m_1)) ∧
  (y_2 = (-1) → Q9 (-1) m_1))) ∧
  (¬ (m_1.1 32 1 117) ≤ y_3 → ((y_2 = (-1) → ∀ x_11 : Int32, x_11 = y_3 + 1 → (K_4 y_3 x_11)) ∧
  (¬ y_2 = (-1) → w_X10_dutyAll y_3 m_1 (fun (r_12 : Int32) => w_X10_dutyAll y_2 m_1 (fun (r_14 : Int32) => ((r_12 ≤ r_14 → ∀ x_17 : Int32, x_17 = y_3 + 1 → (K_4 y_2 x_17)) ∧
  (¬ r_12 ≤ r_14 → ∀ x_18 : Int32, x_18 = y_3 + 1 → (K_4 y_3 x_18)))))))))
def w_X10_dearestEntry  (mm : Mm) (Q9 : Int32 → Mm → Prop) : Prop :=
  ∀ m_1 : Mm, m_1 = sI mm 30 1 0 0 → (∃ n, itr (α := Int32 × Int32) (fun K a => w_X10_dearestEntry_B9 Q9 m_1 (fun z0 z1 => K (z0, z1)) a.1 a.2) n ((-1), 0))
def rm_X10_dearestEntry : Room := { frames := 4, cells := 0, slots := 0, locals := 89 }
theorem hy_X10_dearestEntry : yX10_dearestEntry.cls = RX10 ∧ yX10_dearestEntry.cls ≠ "java/lang/invoke/MethodHandle" ∧ yX10_dearestEntry.cls ≠ "java/lang/invoke/VarHandle" ∧ (parseMethodDescriptor yX10_dearestEntry.desc).map (fun d => d.parameters.length) = some 0 := by decide +kernel
set_option maxRecDepth 100000 in
set_option maxHeartbeats 4000000 in
theorem c_X10_dearestEntry {l : Launch} {D : va_G} {cA : Nat → ClassId} {ad : Nat → Nat → Nat} {A : Nat → Prop} (ax : Ax ad GM A)  (mm : Mm) (Q9 : Int32 → Mm → Prop) (h : w_X10_dearestEntry mm Q9) : Met l yX10_dearestEntry (.code yX10_dearestEntry cX10_dearestEntry 3 (some .int) :: TG) rm_X10_dearestEntry (PcM TT D cA ad false GM (ZM) [.ref (ad 30 1)] mm) (AnsI TT D cA ad false GM A Q9) 0 0 A := by
  have zo := ZM_ok A
  unfold w_X10_dearestEntry at h
  refine enterI pl_X10 ⟨rfl, rfl⟩ rfl (Nat.le_of_ble_eq_true rfl) ?_
  intro p e s m args below meth c QQ X hK hZ hnm hE
  refine q_aload_n (j := 0) X dX10_dearestEntry_0 rfl rfl ?_
  refine q_iconst (v := 0) X dX10_dearestEntry_1 (by decide) ?_
  refine q_putI (k := 0) X ax hK rfl rfl (Nat.le_of_ble_eq_true rfl) inTX10 (gm (t := 30) (by decide) (ok1 (t := 30) (Nat.le_of_ble_eq_true rfl))) tyX10 tyX10_ok nmX10 kw_7_7 rfl rfl (tyX10_ok 0 (Nat.le_of_ble_eq_true rfl)) rfl dX10_dearestEntry_2 ?_
  refine q_nmP (fun m_1 em_1 => ?_)
  have h := h m_1 em_1
  refine q_iconst (v := (-1)) X dX10_dearestEntry_5 (by decide) ?_
  refine q_istore_n (lv' := [(1, .int (-1)), (0, .ref (ad 30 1))]) X dX10_dearestEntry_6 rfl (by decide) rfl ?_
  refine q_iconst (v := 0) X dX10_dearestEntry_7 (by decide) ?_
  refine q_istore_n (lv' := [(2, .int 0), (1, .int (-1)), (0, .ref (ad 30 1))]) X dX10_dearestEntry_8 rfl (by decide) rfl ?_
  refine q_sub [2, 1, 0] rfl ?_
  have L9 : ∀ (n : Nat) (y_2 : Int32) (y_3 : Int32), itr (α := Int32 × Int32) (fun K a => w_X10_dearestEntry_B9 Q9 m_1 (fun z0 z1 => K (z0, z1)) a.1 a.2) n (y_2, y_3) → V p l e rm_X10_dearestEntry s m args below meth c QQ 3 A 0 0 (Rep TT D cA ad false GM m_1) 9 [(0, .ref (ad 30 1)), (1, .int y_2), (2, .int y_3)] [] := by
    intro n
    induction n with
    | zero => intro y_2 y_3 h; exact h.elim
    | succ n ih_5 =>
      intro y_2 y_3 h
      have h : w_X10_dearestEntry_B9 Q9 m_1 (fun z0 z1 => itr (α := Int32 × Int32) (fun K a => w_X10_dearestEntry_B9 Q9 m_1 (fun z0 z1 => K (z0, z1)) a.1 a.2) n (z0, z1)) y_2 y_3 := h
      unfold w_X10_dearestEntry_B9 at h
      refine q_iload_n (j := 2) X dX10_dearestEntry_9 rfl rfl ?_
      refine q_aload_n (j := 0) X dX10_dearestEntry_10 rfl rfl ?_
      refine q_get (k := 3) (v := .ref (ad 32 1)) X hK rfl rfl (Nat.le_of_ble_eq_true rfl) inTX10 (gm (t := 30) (by decide) (ok1 (t := 30) (Nat.le_of_ble_eq_true rfl))) kw_7_10 rfl (rv_nn (a := ad 32) (r := 1) (ok1 (t := 32) (Nat.le_of_ble_eq_true rfl)).1) dX10_dearestEntry_11 ?_
      refine q_bipush (v := 117) X dX10_dearestEntry_14 (by decide) ?_
      refine q_iald (t := 32) (i := 1) (jn := 117) (v := .int (m_1.1 32 1 117)) X hK rfl rfl (gm (t := 32) (by decide) (ok1 (t := 32) (Nat.le_of_ble_eq_true rfl))) rfl (vpl (by decide +kernel)) (by decide +kernel) rfl dX10_dearestEntry_16 ?_
      refine q_icmp_ge (tgt := 50) X dX10_dearestEntry_17 (by decide) (fun c_6 => ?_) (fun c_6 => ?_)
      · have h := h.1 c_6
        refine q_iload_n (j := 1) X dX10_dearestEntry_50 rfl rfl ?_
        refine q_iconst (v := (-1)) X dX10_dearestEntry_51 (by decide) ?_
        refine q_icmp_ne (tgt := 59) X dX10_dearestEntry_52 (by decide) (fun c_7 => ?_) (fun c_7 => ?_)
        · have h := h.1 c_7
          refine q_aload_n (j := 0) X dX10_dearestEntry_59 rfl rfl ?_
          refine q_iload_n (j := 1) X dX10_dearestEntry_60 rfl rfl ?_
          refine q_iconst (v := 0) X dX10_dearestEntry_61 (by decide) ?_
          refine q_calli (q_runV X hK hZ zo (gm (t := 30) (by decide) (ok1 (t := 30) (Nat.le_of_ble_eq_true rfl))) rfl rfl [.int y_2, .int 0] [] rfl rfl (Nat.le_of_ble_eq_true rfl) dX10_dearestEntry_62 ⟨Nat.le_of_ble_eq_true rfl, Nat.le_of_ble_eq_true rfl⟩ (c_X10_of ax y_2 0 m_1 _ h) rfl rfl (gV kw_7_95 kw_7_97 ks_88 kw_1_11 kw_7_98) hy_X10_of ⟨Nat.le_of_ble_eq_true rfl, Nat.le_of_ble_eq_true rfl⟩) (fun r_8 m_9 h => ?_)
          obtain ⟨h, hm⟩ := h
          subst hm
          exact hE _ _ _ _ dX10_dearestEntry_65 h
        · have h := h.2 c_7
          refine q_iconst (v := (-1)) X dX10_dearestEntry_55 (by decide) ?_
          refine q_goto (tgt := 65) X dX10_dearestEntry_56 (by decide) ?_
          exact hE _ _ _ _ dX10_dearestEntry_65 h
      · have h := h.2 c_6
        refine q_iload_n (j := 1) X dX10_dearestEntry_20 rfl rfl ?_
        refine q_iconst (v := (-1)) X dX10_dearestEntry_21 (by decide) ?_
        refine q_icmp_eq (tgt := 38) X dX10_dearestEntry_22 (by decide) (fun c_10 => ?_) (fun c_10 => ?_)
        · have h := h.1 c_10
          refine q_iload_n (j := 2) X dX10_dearestEntry_38 rfl rfl ?_
          refine q_goto (tgt := 43) X dX10_dearestEntry_39 (by decide) ?_
          refine q_istore_n (lv' := [(1, .int y_3), (0, .ref (ad 30 1)), (2, .int y_3)]) X dX10_dearestEntry_43 rfl (by decide) rfl ?_
          obtain ⟨x_11, ex_11⟩ : ∃ z : Int32, z = y_3 + 1 := ⟨_, rfl⟩
          have h := h x_11 ex_11
          refine q_iinc (j := 2) (v := x_11) (lv' := [(2, .int x_11), (1, .int y_3), (0, .ref (ad 30 1))]) X dX10_dearestEntry_44 rfl (by rw [ex_11]; rfl) (by decide) rfl ?_
          refine q_goto (tgt := 9) X dX10_dearestEntry_47 (by decide) ?_
          refine q_sub [2, 1, 0] rfl ?_
          exact ih_5 y_3 x_11 h
        · have h := h.2 c_10
          refine q_aload_n (j := 0) X dX10_dearestEntry_25 rfl rfl ?_
          refine q_iload_n (j := 2) X dX10_dearestEntry_26 rfl rfl ?_
          refine q_calli (q_runV X hK hZ zo (gm (t := 30) (by decide) (ok1 (t := 30) (Nat.le_of_ble_eq_true rfl))) rfl rfl [.int y_3] [] rfl rfl (Nat.le_of_ble_eq_true rfl) dX10_dearestEntry_27 ⟨Nat.le_of_ble_eq_true rfl, Nat.le_of_ble_eq_true rfl⟩ (c_X10_dutyAll ax y_3 m_1 _ h) rfl rfl (gV kw_7_103 kw_7_105 ks_90 kw_1_11 kw_7_106) hy_X10_dutyAll ⟨Nat.le_of_ble_eq_true rfl, Nat.le_of_ble_eq_true rfl⟩) (fun r_12 m_13 h => ?_)
          obtain ⟨h, hm⟩ := h
          subst hm
          refine q_aload_n (j := 0) X dX10_dearestEntry_30 rfl rfl ?_
          refine q_iload_n (j := 1) X dX10_dearestEntry_31 rfl rfl ?_
          refine q_calli (q_runV X hK hZ zo (gm (t := 30) (by decide) (ok1 (t := 30) (Nat.le_of_ble_eq_true rfl))) rfl rfl [.int y_2] [.int r_12] rfl rfl (Nat.le_of_ble_eq_true rfl) dX10_dearestEntry_32 ⟨Nat.le_of_ble_eq_true rfl, Nat.le_of_ble_eq_true rfl⟩ (c_X10_dutyAll ax y_2 m_1 _ h) rfl rfl (gV kw_7_103 kw_7_105 ks_90 kw_1_11 kw_7_106) hy_X10_dutyAll ⟨Nat.le_of_ble_eq_true rfl, Nat.le_of_ble_eq_true rfl⟩) (fun r_14 m_15 h => ?_)
          obtain ⟨h, hm⟩ := h
          subst hm
          refine q_icmp_le (tgt := 42) X dX10_dearestEntry_35 (by decide) (fun c_16 => ?_) (fun c_16 => ?_)
          · have h := h.1 c_16
            refine q_iload_n (j := 1) X dX10_dearestEntry_42 rfl rfl ?_
            refine q_istore_n (lv' := [(1, .int y_2), (0, .ref (ad 30 1)), (2, .int y_3)]) X dX10_dearestEntry_43 rfl (by decide) rfl ?_
            obtain ⟨x_17, ex_17⟩ : ∃ z : Int32, z = y_3 + 1 := ⟨_, rfl⟩
            have h := h x_17 ex_17
            refine q_iinc (j := 2) (v := x_17) (lv' := [(2, .int x_17), (1, .int y_2), (0, .ref (ad 30 1))]) X dX10_dearestEntry_44 rfl (by rw [ex_17]; rfl) (by decide) rfl ?_
            refine q_goto (tgt := 9) X dX10_dearestEntry_47 (by decide) ?_
            refine q_sub [2, 1, 0] rfl ?_
            exact ih_5 y_2 x_17 h
          · have h := h.2 c_16
            refine q_iload_n (j := 2) X dX10_dearestEntry_38 rfl rfl ?_
            refine q_goto (tgt := 43) X dX10_dearestEntry_39 (by decide) ?_
            refine q_istore_n (lv' := [(1, .int y_3), (0, .ref (ad 30 1)), (2, .int y_3)]) X dX10_dearestEntry_43 rfl (by decide) rfl ?_
            obtain ⟨x_18, ex_18⟩ : ∃ z : Int32, z = y_3 + 1 := ⟨_, rfl⟩
            have h := h x_18 ex_18
            refine q_iinc (j := 2) (v := x_18) (lv' := [(2, .int x_18), (1, .int y_3), (0, .ref (ad 30 1))]) X dX10_dearestEntry_44 rfl (by rw [ex_18]; rfl) (by decide) rfl ?_
            refine q_goto (tgt := 9) X dX10_dearestEntry_47 (by decide) ?_
            refine q_sub [2, 1, 0] rfl ?_
            exact ih_5 y_3 x_18 h
  obtain ⟨n_19, h⟩ := h
  exact L9 n_19 (-1) 0 h
theorem dX10_append_0 : decode cX10_append 0 = .ok (.aload_n 0, 1) := by decide +kernel
theorem dX10_append_1 : decode cX10_append 1 = .ok (.iload_n 1, 1) := by decide +kernel
theorem dX10_append_2 : decode cX10_append 2 = .ok (.i2l, 1) := by decide +kernel
theorem dX10_append_3 : decode cX10_append 3 = .ok (.ldc2_w 256, 3) := by decide +kernel
theorem dX10_append_6 : decode cX10_append 6 = .ok (.ldc2_w 258, 3) := by decide +kernel
theorem dX10_append_9 : decode cX10_append 9 = .ok (.invokestatic 35, 3) := by decide +kernel
theorem dX10_append_12 : decode cX10_append 12 = .ok (.ifCond .ne 7, 3) := by decide +kernel
theorem dX10_append_15 : decode cX10_append 15 = .ok (.iconst 1, 1) := by decide +kernel
theorem dX10_append_16 : decode cX10_append 16 = .ok (.goto 17, 3) := by decide +kernel
theorem dX10_append_19 : decode cX10_append 19 = .ok (.aload_n 0, 1) := by decide +kernel
theorem dX10_append_20 : decode cX10_append 20 = .ok (.getfield 260, 3) := by decide +kernel
theorem dX10_append_23 : decode cX10_append 23 = .ok (.bipush 60, 2) := by decide +kernel
theorem dX10_append_25 : decode cX10_append 25 = .ok (.if_icmp .ne 7, 3) := by decide +kernel
theorem dX10_append_28 : decode cX10_append 28 = .ok (.iconst 2, 1) := by decide +kernel
theorem dX10_append_29 : decode cX10_append 29 = .ok (.goto 4, 3) := by decide +kernel
theorem dX10_append_32 : decode cX10_append 32 = .ok (.iconst 0, 1) := by decide +kernel
theorem dX10_append_33 : decode cX10_append 33 = .ok (.invokevirtual 147, 3) := by decide +kernel
theorem dX10_append_36 : decode cX10_append 36 = .ok (.ifCond .eq 5, 3) := by decide +kernel
theorem dX10_append_39 : decode cX10_append 39 = .ok (.iconst 0, 1) := by decide +kernel
theorem dX10_append_40 : decode cX10_append 40 = .ok (.ireturn, 1) := by decide +kernel
theorem dX10_append_41 : decode cX10_append 41 = .ok (.aload_n 0, 1) := by decide +kernel
theorem dX10_append_42 : decode cX10_append 42 = .ok (.getfield 7, 3) := by decide +kernel
theorem dX10_append_45 : decode cX10_append 45 = .ok (.aload_n 0, 1) := by decide +kernel
theorem dX10_append_46 : decode cX10_append 46 = .ok (.getfield 260, 3) := by decide +kernel
theorem dX10_append_49 : decode cX10_append 49 = .ok (.iload_n 1, 1) := by decide +kernel
theorem dX10_append_50 : decode cX10_append 50 = .ok (.iastore, 1) := by decide +kernel
theorem dX10_append_51 : decode cX10_append 51 = .ok (.aload_n 0, 1) := by decide +kernel
theorem dX10_append_52 : decode cX10_append 52 = .ok (.dup, 1) := by decide +kernel
theorem dX10_append_53 : decode cX10_append 53 = .ok (.getfield 260, 3) := by decide +kernel
theorem dX10_append_56 : decode cX10_append 56 = .ok (.iconst 1, 1) := by decide +kernel
theorem dX10_append_57 : decode cX10_append 57 = .ok (.iadd, 1) := by decide +kernel
theorem dX10_append_58 : decode cX10_append 58 = .ok (.putfield 260, 3) := by decide +kernel
theorem dX10_append_61 : decode cX10_append 61 = .ok (.aload_n 0, 1) := by decide +kernel
theorem dX10_append_62 : decode cX10_append 62 = .ok (.getfield 260, 3) := by decide +kernel
theorem dX10_append_65 : decode cX10_append 65 = .ok (.ireturn, 1) := by decide +kernel
def w_X10_append_J33 (p0 : Int32) (mm : Mm) (Q9 : Int32 → Mm → Prop) (y_3 : Int32) : Prop :=
  w_X10_refused y_3 mm (fun (r_4 : Int32) (m_5 : Mm) => ((r_4 = 0 → vp_in (m_5.1 30 1 2) 60 ∧ ∀ m_8 : Mm, m_8 = sI m_5 31 1 (m_5.1 30 1 2).toNatClampNeg p0 → (∀ m_9 : Mm, m_9 = sI m_8 30 1 2 ((m_8.1 30 1 2) + 1) → (Q9 (m_9.1 30 1 2) m_9))) ∧
  (¬ r_4 = 0 → Q9 0 m_5)))
def w_X10_append (p0 : Int32) (mm : Mm) (Q9 : Int32 → Mm → Prop) : Prop :=
  w_X10_in (Int32.toInt64 p0) (33 : Int64) (126 : Int64) mm (fun (r_1 : Int32) => ((¬ r_1 = 0 → ((¬ (mm.1 30 1 2) = 60 → w_X10_append_J33 p0 mm Q9 0) ∧
  ((mm.1 30 1 2) = 60 → w_X10_append_J33 p0 mm Q9 2))) ∧
  (r_1 = 0 → w_X10_append_J33 p0 mm Q9 1)))
def rm_X10_append : Room := { frames := 1, cells := 0, slots := 0, locals := 25 }
theorem hy_X10_append : yX10_append.cls = RX10 ∧ yX10_append.cls ≠ "java/lang/invoke/MethodHandle" ∧ yX10_append.cls ≠ "java/lang/invoke/VarHandle" ∧ (parseMethodDescriptor yX10_append.desc).map (fun d => d.parameters.length) = some 1 := by decide +kernel
set_option maxRecDepth 100000 in
set_option maxHeartbeats 4000000 in
theorem c_X10_append {l : Launch} {D : va_G} {cA : Nat → ClassId} {ad : Nat → Nat → Nat} {A : Nat → Prop} (ax : Ax ad GM A) (p0 : Int32) (mm : Mm) (Q9 : Int32 → Mm → Prop) (h : w_X10_append p0 mm Q9) : Met l yX10_append (.code yX10_append cX10_append 2 (some .int) :: TG) rm_X10_append (PcM TT D cA ad false GM (ZM) [.ref (ad 30 1), .int p0] mm) (AnsI TT D cA ad false GM A Q9) 0 0 A := by
  have zo := ZM_ok A
  unfold w_X10_append at h
  refine enterI pl_X10 ⟨rfl, rfl⟩ rfl (Nat.le_of_ble_eq_true rfl) ?_
  intro p e s m args below meth c QQ X hK hZ hnm hE
  refine q_aload_n (j := 0) X dX10_append_0 rfl rfl ?_
  refine q_iload_n (j := 1) X dX10_append_1 rfl rfl ?_
  refine q_i2l X dX10_append_2 ?_
  refine q_ldc2 (v := 33) X kw_9_135 dX10_append_3 ?_
  refine q_ldc2 (v := 126) X kw_9_136 dX10_append_6 ?_
  refine q_calli (q_runS X hK hZ zo [.long (Int32.toInt64 p0), .long (33 : Int64), .long (126 : Int64)] [.ref (ad 30 1)] rfl rfl (Nat.le_of_ble_eq_true rfl) dX10_append_9 ⟨Nat.le_of_ble_eq_true rfl, Nat.le_of_ble_eq_true rfl⟩ (c_X10_in ax (Int32.toInt64 p0) (33 : Int64) (126 : Int64) mm _ h) rfl rfl (gS kw_7_71 kw_7_72 kw_1_11 kw_7_73) hy_X10_in.2 ⟨Nat.le_of_ble_eq_true rfl, Nat.le_of_ble_eq_true rfl⟩) (fun r_1 m_2 h => ?_)
  obtain ⟨h, hm⟩ := h
  subst hm
  have J33 : ∀ (y_3 : Int32), w_X10_append_J33 p0 mm Q9 y_3 → V p l e rm_X10_append s m args below meth c QQ 2 A 0 0 (Rep TT D cA ad false GM mm) 33 [(0, .ref (ad 30 1)), (1, .int p0)] [.int y_3, .ref (ad 30 1)] := by
    intro y_3 h
    unfold w_X10_append_J33 at h
    refine q_calli (q_runV X hK hZ zo (gm (t := 30) (by decide) (ok1 (t := 30) (Nat.le_of_ble_eq_true rfl))) rfl rfl [.int y_3] [] rfl rfl (Nat.le_of_ble_eq_true rfl) dX10_append_33 ⟨Nat.le_of_ble_eq_true rfl, Nat.le_of_ble_eq_true rfl⟩ (c_X10_refused ax y_3 mm _ h) rfl rfl (gV kw_7_126 kw_7_128 ks_95 kw_1_11 kw_7_129) hy_X10_refused ⟨Nat.le_of_ble_eq_true rfl, Nat.le_of_ble_eq_true rfl⟩) (fun r_4 m_5 h => ?_)
    refine q_if_eq (tgt := 41) X dX10_append_36 (by decide) (fun c_6 => ?_) (fun c_6 => ?_)
    · have h := h.1 c_6
      refine q_aload_n (j := 0) X dX10_append_41 rfl rfl ?_
      refine q_get (k := 1) (v := .ref (ad 31 1)) X hK rfl rfl (Nat.le_of_ble_eq_true rfl) inTX10 (gm (t := 30) (by decide) (ok1 (t := 30) (Nat.le_of_ble_eq_true rfl))) kw_7_8 rfl (rv_nn (a := ad 31) (r := 1) (ok1 (t := 31) (Nat.le_of_ble_eq_true rfl)).1) dX10_append_42 ?_
      refine q_aload_n (j := 0) X dX10_append_45 rfl rfl ?_
      refine q_get (k := 2) (v := .int (m_5.1 30 1 2)) X hK rfl rfl (Nat.le_of_ble_eq_true rfl) inTX10 (gm (t := 30) (by decide) (ok1 (t := 30) (Nat.le_of_ble_eq_true rfl))) kw_7_9 rfl rfl dX10_append_46 ?_
      refine q_iload_n (j := 1) X dX10_append_49 rfl rfl ?_
      obtain ⟨b_7, h⟩ := h
      refine q_iast (t := 31) (i := 1) (jn := (m_5.1 30 1 2).toNatClampNeg) X ax hK rfl rfl (gm (t := 31) (by decide) (ok1 (t := 31) (Nat.le_of_ble_eq_true rfl))) rfl b_7 rfl rfl dX10_append_50 ?_
      refine q_nmP (fun m_8 em_8 => ?_)
      have h := h m_8 em_8
      refine q_aload_n (j := 0) X dX10_append_51 rfl rfl ?_
      refine q_dup X dX10_append_52 rfl ?_
      refine q_get (k := 2) (v := .int (m_8.1 30 1 2)) X hK rfl rfl (Nat.le_of_ble_eq_true rfl) inTX10 (gm (t := 30) (by decide) (ok1 (t := 30) (Nat.le_of_ble_eq_true rfl))) kw_7_9 rfl rfl dX10_append_53 ?_
      refine q_iconst (v := 1) X dX10_append_56 (by decide) ?_
      refine q_iadd X dX10_append_57 ?_
      refine q_putI (k := 2) X ax hK rfl rfl (Nat.le_of_ble_eq_true rfl) inTX10 (gm (t := 30) (by decide) (ok1 (t := 30) (Nat.le_of_ble_eq_true rfl))) tyX10 tyX10_ok nmX10 kw_7_9 rfl rfl (tyX10_ok 2 (Nat.le_of_ble_eq_true rfl)) rfl dX10_append_58 ?_
      refine q_nmP (fun m_9 em_9 => ?_)
      have h := h m_9 em_9
      refine q_aload_n (j := 0) X dX10_append_61 rfl rfl ?_
      refine q_get (k := 2) (v := .int (m_9.1 30 1 2)) X hK rfl rfl (Nat.le_of_ble_eq_true rfl) inTX10 (gm (t := 30) (by decide) (ok1 (t := 30) (Nat.le_of_ble_eq_true rfl))) kw_7_9 rfl rfl dX10_append_62 ?_
      exact hE _ _ _ _ dX10_append_65 h
    · have h := h.2 c_6
      refine q_iconst (v := 0) X dX10_append_39 (by decide) ?_
      exact hE _ _ _ _ dX10_append_40 h
  refine q_if_ne (tgt := 19) X dX10_append_12 (by decide) (fun c_10 => ?_) (fun c_10 => ?_)
  · have h := h.1 c_10
    refine q_aload_n (j := 0) X dX10_append_19 rfl rfl ?_
    refine q_get (k := 2) (v := .int (mm.1 30 1 2)) X hK rfl rfl (Nat.le_of_ble_eq_true rfl) inTX10 (gm (t := 30) (by decide) (ok1 (t := 30) (Nat.le_of_ble_eq_true rfl))) kw_7_9 rfl rfl dX10_append_20 ?_
    refine q_bipush (v := 60) X dX10_append_23 (by decide) ?_
    refine q_icmp_ne (tgt := 32) X dX10_append_25 (by decide) (fun c_11 => ?_) (fun c_11 => ?_)
    · have h := h.1 c_11
      refine q_iconst (v := 0) X dX10_append_32 (by decide) ?_
      refine q_sub [0, 1] rfl ?_
      exact J33 0 h
    · have h := h.2 c_11
      refine q_iconst (v := 2) X dX10_append_28 (by decide) ?_
      refine q_goto (tgt := 33) X dX10_append_29 (by decide) ?_
      refine q_sub [0, 1] rfl ?_
      exact J33 2 h
  · have h := h.2 c_10
    refine q_iconst (v := 1) X dX10_append_15 (by decide) ?_
    refine q_goto (tgt := 33) X dX10_append_16 (by decide) ?_
    refine q_sub [0, 1] rfl ?_
    exact J33 1 h
theorem dX10_clearText_0 : decode cX10_clearText 0 = .ok (.aload_n 0, 1) := by decide +kernel
theorem dX10_clearText_1 : decode cX10_clearText 1 = .ok (.iconst 0, 1) := by decide +kernel
theorem dX10_clearText_2 : decode cX10_clearText 2 = .ok (.putfield 29, 3) := by decide +kernel
theorem dX10_clearText_5 : decode cX10_clearText 5 = .ok (.aload_n 0, 1) := by decide +kernel
theorem dX10_clearText_6 : decode cX10_clearText 6 = .ok (.getfield 260, 3) := by decide +kernel
theorem dX10_clearText_9 : decode cX10_clearText 9 = .ok (.istore_n 1, 1) := by decide +kernel
theorem dX10_clearText_10 : decode cX10_clearText 10 = .ok (.aload_n 0, 1) := by decide +kernel
theorem dX10_clearText_11 : decode cX10_clearText 11 = .ok (.iconst 0, 1) := by decide +kernel
theorem dX10_clearText_12 : decode cX10_clearText 12 = .ok (.putfield 260, 3) := by decide +kernel
theorem dX10_clearText_15 : decode cX10_clearText 15 = .ok (.iload_n 1, 1) := by decide +kernel
theorem dX10_clearText_16 : decode cX10_clearText 16 = .ok (.ireturn, 1) := by decide +kernel
def w_X10_clearText  (mm : Mm) (Q9 : Int32 → Mm → Prop) : Prop :=
  ∀ m_1 : Mm, m_1 = sI mm 30 1 0 0 → (∀ x_2 : Int32, x_2 = (m_1.1 30 1 2) → (∀ m_3 : Mm, m_3 = sI m_1 30 1 2 0 → (Q9 x_2 m_3)))
def rm_X10_clearText : Room := { frames := 0, cells := 0, slots := 0, locals := 0 }
theorem hy_X10_clearText : yX10_clearText.cls = RX10 ∧ yX10_clearText.cls ≠ "java/lang/invoke/MethodHandle" ∧ yX10_clearText.cls ≠ "java/lang/invoke/VarHandle" ∧ (parseMethodDescriptor yX10_clearText.desc).map (fun d => d.parameters.length) = some 0 := by decide +kernel
set_option maxRecDepth 100000 in
set_option maxHeartbeats 4000000 in
theorem c_X10_clearText {l : Launch} {D : va_G} {cA : Nat → ClassId} {ad : Nat → Nat → Nat} {A : Nat → Prop} (ax : Ax ad GM A)  (mm : Mm) (Q9 : Int32 → Mm → Prop) (h : w_X10_clearText mm Q9) : Met l yX10_clearText (.code yX10_clearText cX10_clearText 2 (some .int) :: TG) rm_X10_clearText (PcM TT D cA ad false GM (ZM) [.ref (ad 30 1)] mm) (AnsI TT D cA ad false GM A Q9) 0 0 A := by
  have zo := ZM_ok A
  unfold w_X10_clearText at h
  refine enterI pl_X10 ⟨rfl, rfl⟩ rfl (Nat.le_of_ble_eq_true rfl) ?_
  intro p e s m args below meth c QQ X hK hZ hnm hE
  refine q_aload_n (j := 0) X dX10_clearText_0 rfl rfl ?_
  refine q_iconst (v := 0) X dX10_clearText_1 (by decide) ?_
  refine q_putI (k := 0) X ax hK rfl rfl (Nat.le_of_ble_eq_true rfl) inTX10 (gm (t := 30) (by decide) (ok1 (t := 30) (Nat.le_of_ble_eq_true rfl))) tyX10 tyX10_ok nmX10 kw_7_7 rfl rfl (tyX10_ok 0 (Nat.le_of_ble_eq_true rfl)) rfl dX10_clearText_2 ?_
  refine q_nmP (fun m_1 em_1 => ?_)
  have h := h m_1 em_1
  refine q_aload_n (j := 0) X dX10_clearText_5 rfl rfl ?_
  refine q_get (k := 2) (v := .int (m_1.1 30 1 2)) X hK rfl rfl (Nat.le_of_ble_eq_true rfl) inTX10 (gm (t := 30) (by decide) (ok1 (t := 30) (Nat.le_of_ble_eq_true rfl))) kw_7_9 rfl rfl dX10_clearText_6 ?_
  refine q_topi (fun x_2 ex_2 => ?_)
  have h := h x_2 ex_2
  refine q_istore_n (lv' := [(1, .int x_2), (0, .ref (ad 30 1))]) X dX10_clearText_9 rfl (by decide) rfl ?_
  refine q_aload_n (j := 1) X dX10_clearText_10 rfl rfl ?_
  refine q_iconst (v := 0) X dX10_clearText_11 (by decide) ?_
  refine q_putI (k := 2) X ax hK rfl rfl (Nat.le_of_ble_eq_true rfl) inTX10 (gm (t := 30) (by decide) (ok1 (t := 30) (Nat.le_of_ble_eq_true rfl))) tyX10 tyX10_ok nmX10 kw_7_9 rfl rfl (tyX10_ok 2 (Nat.le_of_ble_eq_true rfl)) rfl dX10_clearText_12 ?_
  refine q_nmP (fun m_3 em_3 => ?_)
  have h := h m_3 em_3
  refine q_iload_n (j := 0) X dX10_clearText_15 rfl rfl ?_
  exact hE _ _ _ _ dX10_clearText_16 h
theorem dX10_number_0 : decode cX10_number 0 = .ok (.aload_n 0, 1) := by decide +kernel
theorem dX10_number_1 : decode cX10_number 1 = .ok (.getfield 263, 3) := by decide +kernel
theorem dX10_number_4 : decode cX10_number 4 = .ok (.istore_n 3, 1) := by decide +kernel
theorem dX10_number_5 : decode cX10_number 5 = .ok (.aload_n 0, 1) := by decide +kernel
theorem dX10_number_6 : decode cX10_number 6 = .ok (.iconst 0, 1) := by decide +kernel
theorem dX10_number_7 : decode cX10_number 7 = .ok (.putfield 266, 3) := by decide +kernel
theorem dX10_number_10 : decode cX10_number 10 = .ok (.aload_n 0, 1) := by decide +kernel
theorem dX10_number_11 : decode cX10_number 11 = .ok (.getfield 263, 3) := by decide +kernel
theorem dX10_number_14 : decode cX10_number 14 = .ok (.aload_n 0, 1) := by decide +kernel
theorem dX10_number_15 : decode cX10_number 15 = .ok (.getfield 260, 3) := by decide +kernel
theorem dX10_number_18 : decode cX10_number 18 = .ok (.if_icmp .ge 122, 3) := by decide +kernel
theorem dX10_number_21 : decode cX10_number 21 = .ok (.aload_n 0, 1) := by decide +kernel
theorem dX10_number_22 : decode cX10_number 22 = .ok (.getfield 7, 3) := by decide +kernel
theorem dX10_number_25 : decode cX10_number 25 = .ok (.aload_n 0, 1) := by decide +kernel
theorem dX10_number_26 : decode cX10_number 26 = .ok (.getfield 263, 3) := by decide +kernel
theorem dX10_number_29 : decode cX10_number 29 = .ok (.iaload, 1) := by decide +kernel
theorem dX10_number_30 : decode cX10_number 30 = .ok (.i2l, 1) := by decide +kernel
theorem dX10_number_31 : decode cX10_number 31 = .ok (.ldc2_w 269, 3) := by decide +kernel
theorem dX10_number_34 : decode cX10_number 34 = .ok (.ldc2_w 271, 3) := by decide +kernel
theorem dX10_number_37 : decode cX10_number 37 = .ok (.invokestatic 35, 3) := by decide +kernel
theorem dX10_number_40 : decode cX10_number 40 = .ok (.ifCond .eq 100, 3) := by decide +kernel
theorem dX10_number_43 : decode cX10_number 43 = .ok (.aload_n 0, 1) := by decide +kernel
theorem dX10_number_44 : decode cX10_number 44 = .ok (.getfield 263, 3) := by decide +kernel
theorem dX10_number_47 : decode cX10_number 47 = .ok (.iload_n 3, 1) := by decide +kernel
theorem dX10_number_48 : decode cX10_number 48 = .ok (.if_icmp .ne 24, 3) := by decide +kernel
theorem dX10_number_51 : decode cX10_number 51 = .ok (.aload_n 0, 1) := by decide +kernel
theorem dX10_number_52 : decode cX10_number 52 = .ok (.getfield 7, 3) := by decide +kernel
theorem dX10_number_55 : decode cX10_number 55 = .ok (.aload_n 0, 1) := by decide +kernel
theorem dX10_number_56 : decode cX10_number 56 = .ok (.getfield 263, 3) := by decide +kernel
theorem dX10_number_59 : decode cX10_number 59 = .ok (.iaload, 1) := by decide +kernel
theorem dX10_number_60 : decode cX10_number 60 = .ok (.bipush 48, 2) := by decide +kernel
theorem dX10_number_62 : decode cX10_number 62 = .ok (.if_icmp .gt 17, 3) := by decide +kernel
theorem dX10_number_65 : decode cX10_number 65 = .ok (.iload_n 1, 1) := by decide +kernel
theorem dX10_number_66 : decode cX10_number 66 = .ok (.ifCond .ne 74, 3) := by decide +kernel
theorem dX10_number_69 : decode cX10_number 69 = .ok (.goto 10, 3) := by decide +kernel
theorem dX10_number_72 : decode cX10_number 72 = .ok (.aload_n 0, 1) := by decide +kernel
theorem dX10_number_73 : decode cX10_number 73 = .ok (.getfield 266, 3) := by decide +kernel
theorem dX10_number_76 : decode cX10_number 76 = .ok (.ifCond .le 64, 3) := by decide +kernel
theorem dX10_number_79 : decode cX10_number 79 = .ok (.bipush 10, 2) := by decide +kernel
theorem dX10_number_81 : decode cX10_number 81 = .ok (.aload_n 0, 1) := by decide +kernel
theorem dX10_number_82 : decode cX10_number 82 = .ok (.getfield 266, 3) := by decide +kernel
theorem dX10_number_85 : decode cX10_number 85 = .ok (.imul, 1) := by decide +kernel
theorem dX10_number_86 : decode cX10_number 86 = .ok (.aload_n 0, 1) := by decide +kernel
theorem dX10_number_87 : decode cX10_number 87 = .ok (.getfield 7, 3) := by decide +kernel
theorem dX10_number_90 : decode cX10_number 90 = .ok (.aload_n 0, 1) := by decide +kernel
theorem dX10_number_91 : decode cX10_number 91 = .ok (.getfield 263, 3) := by decide +kernel
theorem dX10_number_94 : decode cX10_number 94 = .ok (.iaload, 1) := by decide +kernel
theorem dX10_number_95 : decode cX10_number 95 = .ok (.iadd, 1) := by decide +kernel
theorem dX10_number_96 : decode cX10_number 96 = .ok (.bipush 48, 2) := by decide +kernel
theorem dX10_number_98 : decode cX10_number 98 = .ok (.isub, 1) := by decide +kernel
theorem dX10_number_99 : decode cX10_number 99 = .ok (.iload_n 2, 1) := by decide +kernel
theorem dX10_number_100 : decode cX10_number 100 = .ok (.if_icmp .gt 40, 3) := by decide +kernel
theorem dX10_number_103 : decode cX10_number 103 = .ok (.aload_n 0, 1) := by decide +kernel
theorem dX10_number_104 : decode cX10_number 104 = .ok (.bipush 10, 2) := by decide +kernel
theorem dX10_number_106 : decode cX10_number 106 = .ok (.aload_n 0, 1) := by decide +kernel
theorem dX10_number_107 : decode cX10_number 107 = .ok (.getfield 266, 3) := by decide +kernel
theorem dX10_number_110 : decode cX10_number 110 = .ok (.imul, 1) := by decide +kernel
theorem dX10_number_111 : decode cX10_number 111 = .ok (.aload_n 0, 1) := by decide +kernel
theorem dX10_number_112 : decode cX10_number 112 = .ok (.getfield 7, 3) := by decide +kernel
theorem dX10_number_115 : decode cX10_number 115 = .ok (.aload_n 0, 1) := by decide +kernel
theorem dX10_number_116 : decode cX10_number 116 = .ok (.getfield 263, 3) := by decide +kernel
theorem dX10_number_119 : decode cX10_number 119 = .ok (.iaload, 1) := by decide +kernel
theorem dX10_number_120 : decode cX10_number 120 = .ok (.iadd, 1) := by decide +kernel
theorem dX10_number_121 : decode cX10_number 121 = .ok (.bipush 48, 2) := by decide +kernel
theorem dX10_number_123 : decode cX10_number 123 = .ok (.isub, 1) := by decide +kernel
theorem dX10_number_124 : decode cX10_number 124 = .ok (.putfield 266, 3) := by decide +kernel
theorem dX10_number_127 : decode cX10_number 127 = .ok (.aload_n 0, 1) := by decide +kernel
theorem dX10_number_128 : decode cX10_number 128 = .ok (.dup, 1) := by decide +kernel
theorem dX10_number_129 : decode cX10_number 129 = .ok (.getfield 263, 3) := by decide +kernel
theorem dX10_number_132 : decode cX10_number 132 = .ok (.iconst 1, 1) := by decide +kernel
theorem dX10_number_133 : decode cX10_number 133 = .ok (.iadd, 1) := by decide +kernel
theorem dX10_number_134 : decode cX10_number 134 = .ok (.putfield 263, 3) := by decide +kernel
theorem dX10_number_137 : decode cX10_number 137 = .ok (.goto (-127), 3) := by decide +kernel
theorem dX10_number_140 : decode cX10_number 140 = .ok (.aload_n 0, 1) := by decide +kernel
theorem dX10_number_141 : decode cX10_number 141 = .ok (.getfield 263, 3) := by decide +kernel
theorem dX10_number_144 : decode cX10_number 144 = .ok (.iload_n 3, 1) := by decide +kernel
theorem dX10_number_145 : decode cX10_number 145 = .ok (.if_icmp .le 7, 3) := by decide +kernel
theorem dX10_number_148 : decode cX10_number 148 = .ok (.iconst 1, 1) := by decide +kernel
theorem dX10_number_149 : decode cX10_number 149 = .ok (.goto 4, 3) := by decide +kernel
theorem dX10_number_152 : decode cX10_number 152 = .ok (.iconst 0, 1) := by decide +kernel
theorem dX10_number_153 : decode cX10_number 153 = .ok (.ireturn, 1) := by decide +kernel
def w_X10_number_J79 (p1 : Int32) (Q9 : Int32 → Mm → Prop) (x_1 : Int32) (m_3 : Mm) (K_4 : Mm → Prop) : Prop :=
  ((p1 < (((10 * (m_3.1 30 1 10)) + (m_3.1 31 1 (m_3.1 30 1 9).toNatClampNeg)) - 48) → (((m_3.1 30 1 9) ≤ x_1 → Q9 0 m_3) ∧
  (¬ (m_3.1 30 1 9) ≤ x_1 → Q9 1 m_3))) ∧
  (¬ p1 < (((10 * (m_3.1 30 1 10)) + (m_3.1 31 1 (m_3.1 30 1 9).toNatClampNeg)) - 48) → ∀ m_15 : Mm, m_15 = sI m_3 30 1 10 (((10 * (m_3.1 30 1 10)) + (m_3.1 31 1 (m_3.1 30 1 9).toNatClampNeg)) - 48) → (∀ m_16 : Mm, m_16 = sI m_15 30 1 9 ((m_15.1 30 1 9) + 1) → (K_4 m_16))))
def w_X10_number_B10 (p0 : Int32) (p1 : Int32) (Q9 : Int32 → Mm → Prop) (x_1 : Int32) (K_4 : Mm → Prop) (m_3 : Mm) : Prop :=
  (((m_3.1 30 1 2) ≤ (m_3.1 30 1 9) → (((m_3.1 30 1 9) ≤ x_1 → Q9 0 m_3) ∧
  (¬ (m_3.1 30 1 9) ≤ x_1 → Q9 1 m_3))) ∧
  (¬ (m_3.1 30 1 2) ≤ (m_3.1 30 1 9) → vp_in (m_3.1 30 1 9) 60 ∧ (w_X10_in (Int32.toInt64 (m_3.1 31 1 (m_3.1 30 1 9).toNatClampNeg)) (48 : Int64) (57 : Int64) m_3 (fun (r_9 : Int32) => ((r_9 = 0 → (((m_3.1 30 1 9) ≤ x_1 → Q9 0 m_3) ∧
  (¬ (m_3.1 30 1 9) ≤ x_1 → Q9 1 m_3))) ∧
  (¬ r_9 = 0 → ((¬ (m_3.1 30 1 9) = x_1 → (((m_3.1 30 1 10) ≤ 0 → (((m_3.1 30 1 9) ≤ x_1 → Q9 0 m_3) ∧
  (¬ (m_3.1 30 1 9) ≤ x_1 → Q9 1 m_3))) ∧
  (¬ (m_3.1 30 1 10) ≤ 0 → w_X10_number_J79 p1 Q9 x_1 m_3 K_4))) ∧
  ((m_3.1 30 1 9) = x_1 → ((48 < (m_3.1 31 1 (m_3.1 30 1 9).toNatClampNeg) → w_X10_number_J79 p1 Q9 x_1 m_3 K_4) ∧
  (¬ 48 < (m_3.1 31 1 (m_3.1 30 1 9).toNatClampNeg) → ((¬ p0 = 0 → (((m_3.1 30 1 9) ≤ x_1 → Q9 0 m_3) ∧
  (¬ (m_3.1 30 1 9) ≤ x_1 → Q9 1 m_3))) ∧
  (p0 = 0 → w_X10_number_J79 p1 Q9 x_1 m_3 K_4))))))))))))
def w_X10_number (p0 : Int32) (p1 : Int32) (mm : Mm) (Q9 : Int32 → Mm → Prop) : Prop :=
  ∀ x_1 : Int32, x_1 = (mm.1 30 1 9) → (∀ m_2 : Mm, m_2 = sI mm 30 1 10 0 → (∃ n, itr (α := Mm) (fun K a => w_X10_number_B10 p0 p1 Q9 x_1 (fun z0 => K z0) a) n m_2))
def rm_X10_number : Room := { frames := 1, cells := 0, slots := 0, locals := 25 }
theorem hy_X10_number : yX10_number.cls = RX10 ∧ yX10_number.cls ≠ "java/lang/invoke/MethodHandle" ∧ yX10_number.cls ≠ "java/lang/invoke/VarHandle" ∧ (parseMethodDescriptor yX10_number.desc).map (fun d => d.parameters.length) = some 2 := by decide +kernel
set_option maxRecDepth 100000 in
set_option maxHeartbeats 4000000 in
theorem c_X10_number {l : Launch} {D : va_G} {cA : Nat → ClassId} {ad : Nat → Nat → Nat} {A : Nat → Prop} (ax : Ax ad GM A) (p0 : Int32) (p1 : Int32) (mm : Mm) (Q9 : Int32 → Mm → Prop) (h : w_X10_number p0 p1 mm Q9) : Met l yX10_number (.code yX10_number cX10_number 4 (some .boolean) :: TG) rm_X10_number (PcM TT D cA ad false GM (ZM) [.ref (ad 30 1), .int p0, .int p1] mm) (AnsI TT D cA ad false GM A Q9) 0 0 A := by
  have zo := ZM_ok A
  unfold w_X10_number at h
  refine enterZ pl_X10 ⟨rfl, rfl⟩ rfl (Nat.le_of_ble_eq_true rfl) ?_
  intro p e s m args below meth c QQ X hK hZ hnm hE
  refine q_aload_n (j := 0) X dX10_number_0 rfl rfl ?_
  refine q_get (k := 9) (v := .int (mm.1 30 1 9)) X hK rfl rfl (Nat.le_of_ble_eq_true rfl) inTX10 (gm (t := 30) (by decide) (ok1 (t := 30) (Nat.le_of_ble_eq_true rfl))) kw_7_16 rfl rfl dX10_number_1 ?_
  refine q_topi (fun x_1 ex_1 => ?_)
  have h := h x_1 ex_1
  refine q_istore_n (lv' := [(3, .int x_1), (0, .ref (ad 30 1)), (1, .int p0), (2, .int p1)]) X dX10_number_4 rfl (by decide) rfl ?_
  refine q_aload_n (j := 1) X dX10_number_5 rfl rfl ?_
  refine q_iconst (v := 0) X dX10_number_6 (by decide) ?_
  refine q_putI (k := 10) X ax hK rfl rfl (Nat.le_of_ble_eq_true rfl) inTX10 (gm (t := 30) (by decide) (ok1 (t := 30) (Nat.le_of_ble_eq_true rfl))) tyX10 tyX10_ok nmX10 kw_7_17 rfl rfl (tyX10_ok 10 (Nat.le_of_ble_eq_true rfl)) rfl dX10_number_7 ?_
  refine q_nmP (fun m_2 em_2 => ?_)
  have h := h m_2 em_2
  refine q_sub [1, 2, 3, 0] rfl ?_
  have L10 : ∀ (n : Nat) (m_3 : Mm), itr (α := Mm) (fun K a => w_X10_number_B10 p0 p1 Q9 x_1 (fun z0 => K z0) a) n m_3 → V p l e rm_X10_number s m args below meth c QQ 4 A 0 0 (Rep TT D cA ad false GM m_3) 10 [(0, .ref (ad 30 1)), (1, .int p0), (2, .int p1), (3, .int x_1)] [] := by
    intro n
    induction n with
    | zero => intro m_3 h; exact h.elim
    | succ n ih_5 =>
      intro m_3 h
      have h : w_X10_number_B10 p0 p1 Q9 x_1 (fun z0 => itr (α := Mm) (fun K a => w_X10_number_B10 p0 p1 Q9 x_1 (fun z0 => K z0) a) n z0) m_3 := h
      generalize hKe : (fun z0 => itr (α := Mm) (fun K a => w_X10_number_B10 p0 p1 Q9 x_1 (fun z0 => K z0) a) n z0) = K_4 at h
      have ih_5k : ∀ (m_3 : Mm), K_4 m_3 → V p l e rm_X10_number s m args below meth c QQ 4 A 0 0 (Rep TT D cA ad false GM m_3) 10 [(0, .ref (ad 30 1)), (1, .int p0), (2, .int p1), (3, .int x_1)] [] := fun m_3 h => ih_5 m_3 (by rw [← hKe] at h; exact h)
      unfold w_X10_number_B10 at h
      refine q_aload_n (j := 0) X dX10_number_10 rfl rfl ?_
      refine q_get (k := 9) (v := .int (m_3.1 30 1 9)) X hK rfl rfl (Nat.le_of_ble_eq_true rfl) inTX10 (gm (t := 30) (by decide) (ok1 (t := 30) (Nat.le_of_ble_eq_true rfl))) kw_7_16 rfl rfl dX10_number_11 ?_
      refine q_aload_n (j := 0) X dX10_number_14 rfl rfl ?_
      refine q_get (k := 2) (v := .int (m_3.1 30 1 2)) X hK rfl rfl (Nat.le_of_ble_eq_true rfl) inTX10 (gm (t := 30) (by decide) (ok1 (t := 30) (Nat.le_of_ble_eq_true rfl))) kw_7_9 rfl rfl dX10_number_15 ?_
      refine q_icmp_ge (tgt := 140) X dX10_number_18 (by decide) (fun c_6 => ?_) (fun c_6 => ?_)
      · have h := h.1 c_6
        refine q_aload_n (j := 0) X dX10_number_140 rfl rfl ?_
        refine q_get (k := 9) (v := .int (m_3.1 30 1 9)) X hK rfl rfl (Nat.le_of_ble_eq_true rfl) inTX10 (gm (t := 30) (by decide) (ok1 (t := 30) (Nat.le_of_ble_eq_true rfl))) kw_7_16 rfl rfl dX10_number_141 ?_
        refine q_iload_n (j := 3) X dX10_number_144 rfl rfl ?_
        refine q_icmp_le (tgt := 152) X dX10_number_145 (by decide) (fun c_7 => ?_) (fun c_7 => ?_)
        · have h := h.1 c_7
          refine q_iconst (v := 0) X dX10_number_152 (by decide) ?_
          exact hE _ _ _ _ dX10_number_153 (Or.inl rfl) h
        · have h := h.2 c_7
          refine q_iconst (v := 1) X dX10_number_148 (by decide) ?_
          refine q_goto (tgt := 153) X dX10_number_149 (by decide) ?_
          exact hE _ _ _ _ dX10_number_153 (Or.inr rfl) h
      · have h := h.2 c_6
        refine q_aload_n (j := 0) X dX10_number_21 rfl rfl ?_
        refine q_get (k := 1) (v := .ref (ad 31 1)) X hK rfl rfl (Nat.le_of_ble_eq_true rfl) inTX10 (gm (t := 30) (by decide) (ok1 (t := 30) (Nat.le_of_ble_eq_true rfl))) kw_7_8 rfl (rv_nn (a := ad 31) (r := 1) (ok1 (t := 31) (Nat.le_of_ble_eq_true rfl)).1) dX10_number_22 ?_
        refine q_aload_n (j := 0) X dX10_number_25 rfl rfl ?_
        refine q_get (k := 9) (v := .int (m_3.1 30 1 9)) X hK rfl rfl (Nat.le_of_ble_eq_true rfl) inTX10 (gm (t := 30) (by decide) (ok1 (t := 30) (Nat.le_of_ble_eq_true rfl))) kw_7_16 rfl rfl dX10_number_26 ?_
        obtain ⟨b_8, h⟩ := h
        refine q_iald (t := 31) (i := 1) (jn := (m_3.1 30 1 9).toNatClampNeg) (v := .int (m_3.1 31 1 (m_3.1 30 1 9).toNatClampNeg)) X hK rfl rfl (gm (t := 31) (by decide) (ok1 (t := 31) (Nat.le_of_ble_eq_true rfl))) rfl b_8 rfl rfl dX10_number_29 ?_
        refine q_i2l X dX10_number_30 ?_
        refine q_ldc2 (v := 48) X kw_9_168 dX10_number_31 ?_
        refine q_ldc2 (v := 57) X kw_9_169 dX10_number_34 ?_
        refine q_calli (q_runS X hK hZ zo [.long (Int32.toInt64 (m_3.1 31 1 (m_3.1 30 1 9).toNatClampNeg)), .long (48 : Int64), .long (57 : Int64)] [] rfl rfl (Nat.le_of_ble_eq_true rfl) dX10_number_37 ⟨Nat.le_of_ble_eq_true rfl, Nat.le_of_ble_eq_true rfl⟩ (c_X10_in ax (Int32.toInt64 (m_3.1 31 1 (m_3.1 30 1 9).toNatClampNeg)) (48 : Int64) (57 : Int64) m_3 _ h) rfl rfl (gS kw_7_71 kw_7_72 kw_1_11 kw_7_73) hy_X10_in.2 ⟨Nat.le_of_ble_eq_true rfl, Nat.le_of_ble_eq_true rfl⟩) (fun r_9 m_10 h => ?_)
        obtain ⟨h, hm⟩ := h
        subst hm
        refine q_if_eq (tgt := 140) X dX10_number_40 (by decide) (fun c_11 => ?_) (fun c_11 => ?_)
        · have h := h.1 c_11
          refine q_aload_n (j := 0) X dX10_number_140 rfl rfl ?_
          refine q_get (k := 9) (v := .int (m_3.1 30 1 9)) X hK rfl rfl (Nat.le_of_ble_eq_true rfl) inTX10 (gm (t := 30) (by decide) (ok1 (t := 30) (Nat.le_of_ble_eq_true rfl))) kw_7_16 rfl rfl dX10_number_141 ?_
          refine q_iload_n (j := 3) X dX10_number_144 rfl rfl ?_
          refine q_icmp_le (tgt := 152) X dX10_number_145 (by decide) (fun c_12 => ?_) (fun c_12 => ?_)
          · have h := h.1 c_12
            refine q_iconst (v := 0) X dX10_number_152 (by decide) ?_
            exact hE _ _ _ _ dX10_number_153 (Or.inl rfl) h
          · have h := h.2 c_12
            refine q_iconst (v := 1) X dX10_number_148 (by decide) ?_
            refine q_goto (tgt := 153) X dX10_number_149 (by decide) ?_
            exact hE _ _ _ _ dX10_number_153 (Or.inr rfl) h
        · have h := h.2 c_11
          refine q_aload_n (j := 0) X dX10_number_43 rfl rfl ?_
          refine q_get (k := 9) (v := .int (m_3.1 30 1 9)) X hK rfl rfl (Nat.le_of_ble_eq_true rfl) inTX10 (gm (t := 30) (by decide) (ok1 (t := 30) (Nat.le_of_ble_eq_true rfl))) kw_7_16 rfl rfl dX10_number_44 ?_
          refine q_iload_n (j := 3) X dX10_number_47 rfl rfl ?_
          have J79 : w_X10_number_J79 p1 Q9 x_1 m_3 K_4  → V p l e rm_X10_number s m args below meth c QQ 4 A 0 0 (Rep TT D cA ad false GM m_3) 79 [(0, .ref (ad 30 1)), (1, .int p0), (2, .int p1), (3, .int x_1)] [] := by
            intro  h
            unfold w_X10_number_J79 at h
            refine q_bipush (v := 10) X dX10_number_79 (by decide) ?_
            refine q_aload_n (j := 0) X dX10_number_81 rfl rfl ?_
            refine q_get (k := 10) (v := .int (m_3.1 30 1 10)) X hK rfl rfl (Nat.le_of_ble_eq_true rfl) inTX10 (gm (t := 30) (by decide) (ok1 (t := 30) (Nat.le_of_ble_eq_true rfl))) kw_7_17 rfl rfl dX10_number_82 ?_
            refine q_imul X dX10_number_85 ?_
            refine q_aload_n (j := 0) X dX10_number_86 rfl rfl ?_
            refine q_get (k := 1) (v := .ref (ad 31 1)) X hK rfl rfl (Nat.le_of_ble_eq_true rfl) inTX10 (gm (t := 30) (by decide) (ok1 (t := 30) (Nat.le_of_ble_eq_true rfl))) kw_7_8 rfl (rv_nn (a := ad 31) (r := 1) (ok1 (t := 31) (Nat.le_of_ble_eq_true rfl)).1) dX10_number_87 ?_
            refine q_aload_n (j := 0) X dX10_number_90 rfl rfl ?_
            refine q_get (k := 9) (v := .int (m_3.1 30 1 9)) X hK rfl rfl (Nat.le_of_ble_eq_true rfl) inTX10 (gm (t := 30) (by decide) (ok1 (t := 30) (Nat.le_of_ble_eq_true rfl))) kw_7_16 rfl rfl dX10_number_91 ?_
            refine q_iald (t := 31) (i := 1) (jn := (m_3.1 30 1 9).toNatClampNeg) (v := .int (m_3.1 31 1 (m_3.1 30 1 9).toNatClampNeg)) X hK rfl rfl (gm (t := 31) (by decide) (ok1 (t := 31) (Nat.le_of_ble_eq_true rfl))) rfl b_8 rfl rfl dX10_number_94 ?_
            refine q_iadd X dX10_number_95 ?_
            refine q_bipush (v := 48) X dX10_number_96 (by decide) ?_
            refine q_isub X dX10_number_98 ?_
            refine q_iload_n (j := 2) X dX10_number_99 rfl rfl ?_
            refine q_icmp_gt (tgt := 140) X dX10_number_100 (by decide) (fun c_13 => ?_) (fun c_13 => ?_)
            · have h := h.1 c_13
              refine q_aload_n (j := 0) X dX10_number_140 rfl rfl ?_
              refine q_get (k := 9) (v := .int (m_3.1 30 1 9)) X hK rfl rfl (Nat.le_of_ble_eq_true rfl) inTX10 (gm (t := 30) (by decide) (ok1 (t := 30) (Nat.le_of_ble_eq_true rfl))) kw_7_16 rfl rfl dX10_number_141 ?_
              refine q_iload_n (j := 3) X dX10_number_144 rfl rfl ?_
              refine q_icmp_le (tgt := 152) X dX10_number_145 (by decide) (fun c_14 => ?_) (fun c_14 => ?_)
              · have h := h.1 c_14
                refine q_iconst (v := 0) X dX10_number_152 (by decide) ?_
                exact hE _ _ _ _ dX10_number_153 (Or.inl rfl) h
              · have h := h.2 c_14
                refine q_iconst (v := 1) X dX10_number_148 (by decide) ?_
                refine q_goto (tgt := 153) X dX10_number_149 (by decide) ?_
                exact hE _ _ _ _ dX10_number_153 (Or.inr rfl) h
            · have h := h.2 c_13
              refine q_aload_n (j := 0) X dX10_number_103 rfl rfl ?_
              refine q_bipush (v := 10) X dX10_number_104 (by decide) ?_
              refine q_aload_n (j := 0) X dX10_number_106 rfl rfl ?_
              refine q_get (k := 10) (v := .int (m_3.1 30 1 10)) X hK rfl rfl (Nat.le_of_ble_eq_true rfl) inTX10 (gm (t := 30) (by decide) (ok1 (t := 30) (Nat.le_of_ble_eq_true rfl))) kw_7_17 rfl rfl dX10_number_107 ?_
              refine q_imul X dX10_number_110 ?_
              refine q_aload_n (j := 0) X dX10_number_111 rfl rfl ?_
              refine q_get (k := 1) (v := .ref (ad 31 1)) X hK rfl rfl (Nat.le_of_ble_eq_true rfl) inTX10 (gm (t := 30) (by decide) (ok1 (t := 30) (Nat.le_of_ble_eq_true rfl))) kw_7_8 rfl (rv_nn (a := ad 31) (r := 1) (ok1 (t := 31) (Nat.le_of_ble_eq_true rfl)).1) dX10_number_112 ?_
              refine q_aload_n (j := 0) X dX10_number_115 rfl rfl ?_
              refine q_get (k := 9) (v := .int (m_3.1 30 1 9)) X hK rfl rfl (Nat.le_of_ble_eq_true rfl) inTX10 (gm (t := 30) (by decide) (ok1 (t := 30) (Nat.le_of_ble_eq_true rfl))) kw_7_16 rfl rfl dX10_number_116 ?_
              refine q_iald (t := 31) (i := 1) (jn := (m_3.1 30 1 9).toNatClampNeg) (v := .int (m_3.1 31 1 (m_3.1 30 1 9).toNatClampNeg)) X hK rfl rfl (gm (t := 31) (by decide) (ok1 (t := 31) (Nat.le_of_ble_eq_true rfl))) rfl b_8 rfl rfl dX10_number_119 ?_
              refine q_iadd X dX10_number_120 ?_
              refine q_bipush (v := 48) X dX10_number_121 (by decide) ?_
              refine q_isub X dX10_number_123 ?_
              refine q_putI (k := 10) X ax hK rfl rfl (Nat.le_of_ble_eq_true rfl) inTX10 (gm (t := 30) (by decide) (ok1 (t := 30) (Nat.le_of_ble_eq_true rfl))) tyX10 tyX10_ok nmX10 kw_7_17 rfl rfl (tyX10_ok 10 (Nat.le_of_ble_eq_true rfl)) rfl dX10_number_124 ?_
              refine q_nmP (fun m_15 em_15 => ?_)
              have h := h m_15 em_15
              refine q_aload_n (j := 0) X dX10_number_127 rfl rfl ?_
              refine q_dup X dX10_number_128 rfl ?_
              refine q_get (k := 9) (v := .int (m_15.1 30 1 9)) X hK rfl rfl (Nat.le_of_ble_eq_true rfl) inTX10 (gm (t := 30) (by decide) (ok1 (t := 30) (Nat.le_of_ble_eq_true rfl))) kw_7_16 rfl rfl dX10_number_129 ?_
              refine q_iconst (v := 1) X dX10_number_132 (by decide) ?_
              refine q_iadd X dX10_number_133 ?_
              refine q_putI (k := 9) X ax hK rfl rfl (Nat.le_of_ble_eq_true rfl) inTX10 (gm (t := 30) (by decide) (ok1 (t := 30) (Nat.le_of_ble_eq_true rfl))) tyX10 tyX10_ok nmX10 kw_7_16 rfl rfl (tyX10_ok 9 (Nat.le_of_ble_eq_true rfl)) rfl dX10_number_134 ?_
              refine q_nmP (fun m_16 em_16 => ?_)
              have h := h m_16 em_16
              refine q_goto (tgt := 10) X dX10_number_137 (by decide) ?_
              refine q_sub [0, 1, 2, 3] rfl ?_
              exact ih_5k m_16 h
          refine q_icmp_ne (tgt := 72) X dX10_number_48 (by decide) (fun c_17 => ?_) (fun c_17 => ?_)
          · have h := h.1 c_17
            refine q_aload_n (j := 0) X dX10_number_72 rfl rfl ?_
            refine q_get (k := 10) (v := .int (m_3.1 30 1 10)) X hK rfl rfl (Nat.le_of_ble_eq_true rfl) inTX10 (gm (t := 30) (by decide) (ok1 (t := 30) (Nat.le_of_ble_eq_true rfl))) kw_7_17 rfl rfl dX10_number_73 ?_
            refine q_if_le (tgt := 140) X dX10_number_76 (by decide) (fun c_18 => ?_) (fun c_18 => ?_)
            · have h := h.1 c_18
              refine q_aload_n (j := 0) X dX10_number_140 rfl rfl ?_
              refine q_get (k := 9) (v := .int (m_3.1 30 1 9)) X hK rfl rfl (Nat.le_of_ble_eq_true rfl) inTX10 (gm (t := 30) (by decide) (ok1 (t := 30) (Nat.le_of_ble_eq_true rfl))) kw_7_16 rfl rfl dX10_number_141 ?_
              refine q_iload_n (j := 3) X dX10_number_144 rfl rfl ?_
              refine q_icmp_le (tgt := 152) X dX10_number_145 (by decide) (fun c_19 => ?_) (fun c_19 => ?_)
              · have h := h.1 c_19
                refine q_iconst (v := 0) X dX10_number_152 (by decide) ?_
                exact hE _ _ _ _ dX10_number_153 (Or.inl rfl) h
              · have h := h.2 c_19
                refine q_iconst (v := 1) X dX10_number_148 (by decide) ?_
                refine q_goto (tgt := 153) X dX10_number_149 (by decide) ?_
                exact hE _ _ _ _ dX10_number_153 (Or.inr rfl) h
            · have h := h.2 c_18
              refine q_sub [0, 1, 2, 3] rfl ?_
              exact J79  h
          · have h := h.2 c_17
            refine q_aload_n (j := 0) X dX10_number_51 rfl rfl ?_
            refine q_get (k := 1) (v := .ref (ad 31 1)) X hK rfl rfl (Nat.le_of_ble_eq_true rfl) inTX10 (gm (t := 30) (by decide) (ok1 (t := 30) (Nat.le_of_ble_eq_true rfl))) kw_7_8 rfl (rv_nn (a := ad 31) (r := 1) (ok1 (t := 31) (Nat.le_of_ble_eq_true rfl)).1) dX10_number_52 ?_
            refine q_aload_n (j := 0) X dX10_number_55 rfl rfl ?_
            refine q_get (k := 9) (v := .int (m_3.1 30 1 9)) X hK rfl rfl (Nat.le_of_ble_eq_true rfl) inTX10 (gm (t := 30) (by decide) (ok1 (t := 30) (Nat.le_of_ble_eq_true rfl))) kw_7_16 rfl rfl dX10_number_56 ?_
            refine q_iald (t := 31) (i := 1) (jn := (m_3.1 30 1 9).toNatClampNeg) (v := .int (m_3.1 31 1 (m_3.1 30 1 9).toNatClampNeg)) X hK rfl rfl (gm (t := 31) (by decide) (ok1 (t := 31) (Nat.le_of_ble_eq_true rfl))) rfl b_8 rfl rfl dX10_number_59 ?_
            refine q_bipush (v := 48) X dX10_number_60 (by decide) ?_
            refine q_icmp_gt (tgt := 79) X dX10_number_62 (by decide) (fun c_20 => ?_) (fun c_20 => ?_)
            · have h := h.1 c_20
              refine q_sub [0, 1, 2, 3] rfl ?_
              exact J79  h
            · have h := h.2 c_20
              refine q_iload_n (j := 1) X dX10_number_65 rfl rfl ?_
              refine q_if_ne (tgt := 140) X dX10_number_66 (by decide) (fun c_21 => ?_) (fun c_21 => ?_)
              · have h := h.1 c_21
                refine q_aload_n (j := 0) X dX10_number_140 rfl rfl ?_
                refine q_get (k := 9) (v := .int (m_3.1 30 1 9)) X hK rfl rfl (Nat.le_of_ble_eq_true rfl) inTX10 (gm (t := 30) (by decide) (ok1 (t := 30) (Nat.le_of_ble_eq_true rfl))) kw_7_16 rfl rfl dX10_number_141 ?_
                refine q_iload_n (j := 3) X dX10_number_144 rfl rfl ?_
                refine q_icmp_le (tgt := 152) X dX10_number_145 (by decide) (fun c_22 => ?_) (fun c_22 => ?_)
                · have h := h.1 c_22
                  refine q_iconst (v := 0) X dX10_number_152 (by decide) ?_
                  exact hE _ _ _ _ dX10_number_153 (Or.inl rfl) h
                · have h := h.2 c_22
                  refine q_iconst (v := 1) X dX10_number_148 (by decide) ?_
                  refine q_goto (tgt := 153) X dX10_number_149 (by decide) ?_
                  exact hE _ _ _ _ dX10_number_153 (Or.inr rfl) h
              · have h := h.2 c_21
                refine q_goto (tgt := 79) X dX10_number_69 (by decide) ?_
                refine q_sub [0, 1, 2, 3] rfl ?_
                exact J79  h
  obtain ⟨n_23, h⟩ := h
  exact L10 n_23 m_2 h
theorem dX10_goesOn_0 : decode cX10_goesOn 0 = .ok (.aload_n 0, 1) := by decide +kernel
theorem dX10_goesOn_1 : decode cX10_goesOn 1 = .ok (.getfield 263, 3) := by decide +kernel
theorem dX10_goesOn_4 : decode cX10_goesOn 4 = .ok (.aload_n 0, 1) := by decide +kernel
theorem dX10_goesOn_5 : decode cX10_goesOn 5 = .ok (.getfield 260, 3) := by decide +kernel
theorem dX10_goesOn_8 : decode cX10_goesOn 8 = .ok (.if_icmp .ge 20, 3) := by decide +kernel
theorem dX10_goesOn_11 : decode cX10_goesOn 11 = .ok (.aload_n 0, 1) := by decide +kernel
theorem dX10_goesOn_12 : decode cX10_goesOn 12 = .ok (.getfield 7, 3) := by decide +kernel
theorem dX10_goesOn_15 : decode cX10_goesOn 15 = .ok (.aload_n 0, 1) := by decide +kernel
theorem dX10_goesOn_16 : decode cX10_goesOn 16 = .ok (.getfield 263, 3) := by decide +kernel
theorem dX10_goesOn_19 : decode cX10_goesOn 19 = .ok (.iaload, 1) := by decide +kernel
theorem dX10_goesOn_20 : decode cX10_goesOn 20 = .ok (.iload_n 1, 1) := by decide +kernel
theorem dX10_goesOn_21 : decode cX10_goesOn 21 = .ok (.if_icmp .ne 7, 3) := by decide +kernel
theorem dX10_goesOn_24 : decode cX10_goesOn 24 = .ok (.iconst 1, 1) := by decide +kernel
theorem dX10_goesOn_25 : decode cX10_goesOn 25 = .ok (.goto 4, 3) := by decide +kernel
theorem dX10_goesOn_28 : decode cX10_goesOn 28 = .ok (.iconst 0, 1) := by decide +kernel
theorem dX10_goesOn_29 : decode cX10_goesOn 29 = .ok (.istore_n 2, 1) := by decide +kernel
theorem dX10_goesOn_30 : decode cX10_goesOn 30 = .ok (.aload_n 0, 1) := by decide +kernel
theorem dX10_goesOn_31 : decode cX10_goesOn 31 = .ok (.dup, 1) := by decide +kernel
theorem dX10_goesOn_32 : decode cX10_goesOn 32 = .ok (.getfield 263, 3) := by decide +kernel
theorem dX10_goesOn_35 : decode cX10_goesOn 35 = .ok (.iload_n 2, 1) := by decide +kernel
theorem dX10_goesOn_36 : decode cX10_goesOn 36 = .ok (.ifCond .eq 7, 3) := by decide +kernel
theorem dX10_goesOn_39 : decode cX10_goesOn 39 = .ok (.iconst 1, 1) := by decide +kernel
theorem dX10_goesOn_40 : decode cX10_goesOn 40 = .ok (.goto 4, 3) := by decide +kernel
theorem dX10_goesOn_43 : decode cX10_goesOn 43 = .ok (.iconst 0, 1) := by decide +kernel
theorem dX10_goesOn_44 : decode cX10_goesOn 44 = .ok (.iadd, 1) := by decide +kernel
theorem dX10_goesOn_45 : decode cX10_goesOn 45 = .ok (.putfield 263, 3) := by decide +kernel
theorem dX10_goesOn_48 : decode cX10_goesOn 48 = .ok (.iload_n 2, 1) := by decide +kernel
theorem dX10_goesOn_49 : decode cX10_goesOn 49 = .ok (.ireturn, 1) := by decide +kernel
def w_X10_goesOn_J29 (mm : Mm) (Q9 : Int32 → Mm → Prop) (y_1 : Int32) : Prop :=
  ((y_1 = 0 → ∀ m_3 : Mm, m_3 = sI mm 30 1 9 ((mm.1 30 1 9) + 0) → (isB y_1 ∧ Q9 y_1 m_3)) ∧
  (¬ y_1 = 0 → ∀ m_5 : Mm, m_5 = sI mm 30 1 9 ((mm.1 30 1 9) + 1) → (isB y_1 ∧ Q9 y_1 m_5)))
def w_X10_goesOn_J28 (mm : Mm) (Q9 : Int32 → Mm → Prop) : Prop :=
  w_X10_goesOn_J29 mm Q9 0
def w_X10_goesOn (p0 : Int32) (mm : Mm) (Q9 : Int32 → Mm → Prop) : Prop :=
  (((mm.1 30 1 2) ≤ (mm.1 30 1 9) → w_X10_goesOn_J28 mm Q9) ∧
  (¬ (mm.1 30 1 2) ≤ (mm.1 30 1 9) → vp_in (mm.1 30 1 9) 60 ∧ (((¬ (mm.1 31 1 (mm.1 30 1 9).toNatClampNeg) = p0 → w_X10_goesOn_J28 mm Q9) ∧
  ((mm.1 31 1 (mm.1 30 1 9).toNatClampNeg) = p0 → w_X10_goesOn_J29 mm Q9 1)))))
def rm_X10_goesOn : Room := { frames := 0, cells := 0, slots := 0, locals := 0 }
theorem hy_X10_goesOn : yX10_goesOn.cls = RX10 ∧ yX10_goesOn.cls ≠ "java/lang/invoke/MethodHandle" ∧ yX10_goesOn.cls ≠ "java/lang/invoke/VarHandle" ∧ (parseMethodDescriptor yX10_goesOn.desc).map (fun d => d.parameters.length) = some 1 := by decide +kernel
set_option maxRecDepth 100000 in
set_option maxHeartbeats 4000000 in
theorem c_X10_goesOn {l : Launch} {D : va_G} {cA : Nat → ClassId} {ad : Nat → Nat → Nat} {A : Nat → Prop} (ax : Ax ad GM A) (p0 : Int32) (mm : Mm) (Q9 : Int32 → Mm → Prop) (h : w_X10_goesOn p0 mm Q9) : Met l yX10_goesOn (.code yX10_goesOn cX10_goesOn 3 (some .boolean) :: TG) rm_X10_goesOn (PcM TT D cA ad false GM (ZM) [.ref (ad 30 1), .int p0] mm) (AnsI TT D cA ad false GM A Q9) 0 0 A := by
  have zo := ZM_ok A
  unfold w_X10_goesOn at h
  refine enterZ pl_X10 ⟨rfl, rfl⟩ rfl (Nat.le_of_ble_eq_true rfl) ?_
  intro p e s m args below meth c QQ X hK hZ hnm hE
  refine q_aload_n (j := 0) X dX10_goesOn_0 rfl rfl ?_
  refine q_get (k := 9) (v := .int (mm.1 30 1 9)) X hK rfl rfl (Nat.le_of_ble_eq_true rfl) inTX10 (gm (t := 30) (by decide) (ok1 (t := 30) (Nat.le_of_ble_eq_true rfl))) kw_7_16 rfl rfl dX10_goesOn_1 ?_
  refine q_aload_n (j := 0) X dX10_goesOn_4 rfl rfl ?_
  refine q_get (k := 2) (v := .int (mm.1 30 1 2)) X hK rfl rfl (Nat.le_of_ble_eq_true rfl) inTX10 (gm (t := 30) (by decide) (ok1 (t := 30) (Nat.le_of_ble_eq_true rfl))) kw_7_9 rfl rfl dX10_goesOn_5 ?_
  have J29 : ∀ (y_1 : Int32), w_X10_goesOn_J29 mm Q9 y_1 → V p l e rm_X10_goesOn s m args below meth c QQ 3 A 0 0 (Rep TT D cA ad false GM mm) 29 [(0, .ref (ad 30 1))] [.int y_1] := by
    intro y_1 h
    unfold w_X10_goesOn_J29 at h
    refine q_istore_n (lv' := [(2, .int y_1), (0, .ref (ad 30 1))]) X dX10_goesOn_29 rfl (by decide) rfl ?_
    refine q_aload_n (j := 1) X dX10_goesOn_30 rfl rfl ?_
    refine q_dup X dX10_goesOn_31 rfl ?_
    refine q_get (k := 9) (v := .int (mm.1 30 1 9)) X hK rfl rfl (Nat.le_of_ble_eq_true rfl) inTX10 (gm (t := 30) (by decide) (ok1 (t := 30) (Nat.le_of_ble_eq_true rfl))) kw_7_16 rfl rfl dX10_goesOn_32 ?_
    refine q_iload_n (j := 0) X dX10_goesOn_35 rfl rfl ?_
    refine q_if_eq (tgt := 43) X dX10_goesOn_36 (by decide) (fun c_2 => ?_) (fun c_2 => ?_)
    · have h := h.1 c_2
      refine q_iconst (v := 0) X dX10_goesOn_43 (by decide) ?_
      refine q_iadd X dX10_goesOn_44 ?_
      refine q_putI (k := 9) X ax hK rfl rfl (Nat.le_of_ble_eq_true rfl) inTX10 (gm (t := 30) (by decide) (ok1 (t := 30) (Nat.le_of_ble_eq_true rfl))) tyX10 tyX10_ok nmX10 kw_7_16 rfl rfl (tyX10_ok 9 (Nat.le_of_ble_eq_true rfl)) rfl dX10_goesOn_45 ?_
      refine q_nmP (fun m_3 em_3 => ?_)
      have h := h m_3 em_3
      refine q_iload_n (j := 0) X dX10_goesOn_48 rfl rfl ?_
      obtain ⟨b_4, h⟩ := h
      exact hE _ _ _ _ dX10_goesOn_49 b_4 h
    · have h := h.2 c_2
      refine q_iconst (v := 1) X dX10_goesOn_39 (by decide) ?_
      refine q_goto (tgt := 44) X dX10_goesOn_40 (by decide) ?_
      refine q_iadd X dX10_goesOn_44 ?_
      refine q_putI (k := 9) X ax hK rfl rfl (Nat.le_of_ble_eq_true rfl) inTX10 (gm (t := 30) (by decide) (ok1 (t := 30) (Nat.le_of_ble_eq_true rfl))) tyX10 tyX10_ok nmX10 kw_7_16 rfl rfl (tyX10_ok 9 (Nat.le_of_ble_eq_true rfl)) rfl dX10_goesOn_45 ?_
      refine q_nmP (fun m_5 em_5 => ?_)
      have h := h m_5 em_5
      refine q_iload_n (j := 0) X dX10_goesOn_48 rfl rfl ?_
      obtain ⟨b_6, h⟩ := h
      exact hE _ _ _ _ dX10_goesOn_49 b_6 h
  have J28 : w_X10_goesOn_J28 mm Q9  → V p l e rm_X10_goesOn s m args below meth c QQ 3 A 0 0 (Rep TT D cA ad false GM mm) 28 [(0, .ref (ad 30 1))] [] := by
    intro  h
    unfold w_X10_goesOn_J28 at h
    refine q_iconst (v := 0) X dX10_goesOn_28 (by decide) ?_
    refine q_sub [0] rfl ?_
    exact J29 0 h
  refine q_icmp_ge (tgt := 28) X dX10_goesOn_8 (by decide) (fun c_7 => ?_) (fun c_7 => ?_)
  · have h := h.1 c_7
    refine q_sub [0] rfl ?_
    exact J28  h
  · have h := h.2 c_7
    refine q_aload_n (j := 0) X dX10_goesOn_11 rfl rfl ?_
    refine q_get (k := 1) (v := .ref (ad 31 1)) X hK rfl rfl (Nat.le_of_ble_eq_true rfl) inTX10 (gm (t := 30) (by decide) (ok1 (t := 30) (Nat.le_of_ble_eq_true rfl))) kw_7_8 rfl (rv_nn (a := ad 31) (r := 1) (ok1 (t := 31) (Nat.le_of_ble_eq_true rfl)).1) dX10_goesOn_12 ?_
    refine q_aload_n (j := 0) X dX10_goesOn_15 rfl rfl ?_
    refine q_get (k := 9) (v := .int (mm.1 30 1 9)) X hK rfl rfl (Nat.le_of_ble_eq_true rfl) inTX10 (gm (t := 30) (by decide) (ok1 (t := 30) (Nat.le_of_ble_eq_true rfl))) kw_7_16 rfl rfl dX10_goesOn_16 ?_
    obtain ⟨b_8, h⟩ := h
    refine q_iald (t := 31) (i := 1) (jn := (mm.1 30 1 9).toNatClampNeg) (v := .int (mm.1 31 1 (mm.1 30 1 9).toNatClampNeg)) X hK rfl rfl (gm (t := 31) (by decide) (ok1 (t := 31) (Nat.le_of_ble_eq_true rfl))) rfl b_8 rfl rfl dX10_goesOn_19 ?_
    refine q_iload_n (j := 1) X dX10_goesOn_20 rfl rfl ?_
    refine q_icmp_ne (tgt := 28) X dX10_goesOn_21 (by decide) (fun c_9 => ?_) (fun c_9 => ?_)
    · have h := h.1 c_9
      refine q_sub [0] rfl ?_
      exact J28  h
    · have h := h.2 c_9
      refine q_iconst (v := 1) X dX10_goesOn_24 (by decide) ?_
      refine q_goto (tgt := 29) X dX10_goesOn_25 (by decide) ?_
      refine q_sub [0] rfl ?_
      exact J29 1 h
theorem dX10_pair_0 : decode cX10_pair 0 = .ok (.aload_n 0, 1) := by decide +kernel
theorem dX10_pair_1 : decode cX10_pair 1 = .ok (.iconst 0, 1) := by decide +kernel
theorem dX10_pair_2 : decode cX10_pair 2 = .ok (.iload_n 1, 1) := by decide +kernel
theorem dX10_pair_3 : decode cX10_pair 3 = .ok (.invokevirtual 273, 3) := by decide +kernel
theorem dX10_pair_6 : decode cX10_pair 6 = .ok (.ifCond .ne 5, 3) := by decide +kernel
theorem dX10_pair_9 : decode cX10_pair 9 = .ok (.iconst 0, 1) := by decide +kernel
theorem dX10_pair_10 : decode cX10_pair 10 = .ok (.ireturn, 1) := by decide +kernel
theorem dX10_pair_11 : decode cX10_pair 11 = .ok (.aload_n 0, 1) := by decide +kernel
theorem dX10_pair_12 : decode cX10_pair 12 = .ok (.aload_n 0, 1) := by decide +kernel
theorem dX10_pair_13 : decode cX10_pair 13 = .ok (.getfield 266, 3) := by decide +kernel
theorem dX10_pair_16 : decode cX10_pair 16 = .ok (.putfield 276, 3) := by decide +kernel
theorem dX10_pair_19 : decode cX10_pair 19 = .ok (.aload_n 0, 1) := by decide +kernel
theorem dX10_pair_20 : decode cX10_pair 20 = .ok (.iload_n 2, 1) := by decide +kernel
theorem dX10_pair_21 : decode cX10_pair 21 = .ok (.invokevirtual 279, 3) := by decide +kernel
theorem dX10_pair_24 : decode cX10_pair 24 = .ok (.ifCond .eq 13, 3) := by decide +kernel
theorem dX10_pair_27 : decode cX10_pair 27 = .ok (.aload_n 0, 1) := by decide +kernel
theorem dX10_pair_28 : decode cX10_pair 28 = .ok (.iload_n 3, 1) := by decide +kernel
theorem dX10_pair_29 : decode cX10_pair 29 = .ok (.iload 4, 2) := by decide +kernel
theorem dX10_pair_31 : decode cX10_pair 31 = .ok (.invokevirtual 273, 3) := by decide +kernel
theorem dX10_pair_34 : decode cX10_pair 34 = .ok (.ifCond .ne 5, 3) := by decide +kernel
theorem dX10_pair_37 : decode cX10_pair 37 = .ok (.iconst 0, 1) := by decide +kernel
theorem dX10_pair_38 : decode cX10_pair 38 = .ok (.ireturn, 1) := by decide +kernel
theorem dX10_pair_39 : decode cX10_pair 39 = .ok (.aload_n 0, 1) := by decide +kernel
theorem dX10_pair_40 : decode cX10_pair 40 = .ok (.aload_n 0, 1) := by decide +kernel
theorem dX10_pair_41 : decode cX10_pair 41 = .ok (.getfield 266, 3) := by decide +kernel
theorem dX10_pair_44 : decode cX10_pair 44 = .ok (.putfield 282, 3) := by decide +kernel
theorem dX10_pair_47 : decode cX10_pair 47 = .ok (.iconst 1, 1) := by decide +kernel
theorem dX10_pair_48 : decode cX10_pair 48 = .ok (.ireturn, 1) := by decide +kernel
def w_X10_pair (p0 : Int32) (p1 : Int32) (p2 : Int32) (p3 : Int32) (mm : Mm) (Q9 : Int32 → Mm → Prop) : Prop :=
  w_X10_number 0 p0 mm (fun (r_1 : Int32) (m_2 : Mm) => ((¬ r_1 = 0 → ∀ m_4 : Mm, m_4 = sI m_2 30 1 11 (m_2.1 30 1 10) → (w_X10_goesOn p1 m_4 (fun (r_5 : Int32) (m_6 : Mm) => ((r_5 = 0 → Q9 0 m_6) ∧
  (¬ r_5 = 0 → w_X10_number p2 p3 m_6 (fun (r_8 : Int32) (m_9 : Mm) => ((¬ r_8 = 0 → ∀ m_11 : Mm, m_11 = sI m_9 30 1 12 (m_9.1 30 1 10) → (Q9 1 m_11)) ∧
  (r_8 = 0 → Q9 0 m_9)))))))) ∧
  (r_1 = 0 → Q9 0 m_2)))
def rm_X10_pair : Room := { frames := 2, cells := 0, slots := 0, locals := 48 }
theorem hy_X10_pair : yX10_pair.cls = RX10 ∧ yX10_pair.cls ≠ "java/lang/invoke/MethodHandle" ∧ yX10_pair.cls ≠ "java/lang/invoke/VarHandle" ∧ (parseMethodDescriptor yX10_pair.desc).map (fun d => d.parameters.length) = some 4 := by decide +kernel
set_option maxRecDepth 100000 in
set_option maxHeartbeats 4000000 in
theorem c_X10_pair {l : Launch} {D : va_G} {cA : Nat → ClassId} {ad : Nat → Nat → Nat} {A : Nat → Prop} (ax : Ax ad GM A) (p0 : Int32) (p1 : Int32) (p2 : Int32) (p3 : Int32) (mm : Mm) (Q9 : Int32 → Mm → Prop) (h : w_X10_pair p0 p1 p2 p3 mm Q9) : Met l yX10_pair (.code yX10_pair cX10_pair 5 (some .boolean) :: TG) rm_X10_pair (PcM TT D cA ad false GM (ZM) [.ref (ad 30 1), .int p0, .int p1, .int p2, .int p3] mm) (AnsI TT D cA ad false GM A Q9) 0 0 A := by
  have zo := ZM_ok A
  unfold w_X10_pair at h
  refine enterZ pl_X10 ⟨rfl, rfl⟩ rfl (Nat.le_of_ble_eq_true rfl) ?_
  intro p e s m args below meth c QQ X hK hZ hnm hE
  refine q_aload_n (j := 0) X dX10_pair_0 rfl rfl ?_
  refine q_iconst (v := 0) X dX10_pair_1 (by decide) ?_
  refine q_iload_n (j := 1) X dX10_pair_2 rfl rfl ?_
  refine q_calli (q_runV X hK hZ zo (gm (t := 30) (by decide) (ok1 (t := 30) (Nat.le_of_ble_eq_true rfl))) rfl rfl [.int 0, .int p0] [] rfl rfl (Nat.le_of_ble_eq_true rfl) dX10_pair_3 ⟨Nat.le_of_ble_eq_true rfl, Nat.le_of_ble_eq_true rfl⟩ (c_X10_number ax 0 p0 mm _ h) rfl rfl (gV kw_9_164 kw_9_166 ks_143 kw_1_11 kw_9_167) hy_X10_number ⟨Nat.le_of_ble_eq_true rfl, Nat.le_of_ble_eq_true rfl⟩) (fun r_1 m_2 h => ?_)
  refine q_if_ne (tgt := 11) X dX10_pair_6 (by decide) (fun c_3 => ?_) (fun c_3 => ?_)
  · have h := h.1 c_3
    refine q_aload_n (j := 0) X dX10_pair_11 rfl rfl ?_
    refine q_aload_n (j := 0) X dX10_pair_12 rfl rfl ?_
    refine q_get (k := 10) (v := .int (m_2.1 30 1 10)) X hK rfl rfl (Nat.le_of_ble_eq_true rfl) inTX10 (gm (t := 30) (by decide) (ok1 (t := 30) (Nat.le_of_ble_eq_true rfl))) kw_7_17 rfl rfl dX10_pair_13 ?_
    refine q_putI (k := 11) X ax hK rfl rfl (Nat.le_of_ble_eq_true rfl) inTX10 (gm (t := 30) (by decide) (ok1 (t := 30) (Nat.le_of_ble_eq_true rfl))) tyX10 tyX10_ok nmX10 kw_7_18 rfl rfl (tyX10_ok 11 (Nat.le_of_ble_eq_true rfl)) rfl dX10_pair_16 ?_
    refine q_nmP (fun m_4 em_4 => ?_)
    have h := h m_4 em_4
    refine q_aload_n (j := 0) X dX10_pair_19 rfl rfl ?_
    refine q_iload_n (j := 2) X dX10_pair_20 rfl rfl ?_
    refine q_calli (q_runV X hK hZ zo (gm (t := 30) (by decide) (ok1 (t := 30) (Nat.le_of_ble_eq_true rfl))) rfl rfl [.int p1] [] rfl rfl (Nat.le_of_ble_eq_true rfl) dX10_pair_21 ⟨Nat.le_of_ble_eq_true rfl, Nat.le_of_ble_eq_true rfl⟩ (c_X10_goesOn ax p1 m_4 _ h) rfl rfl (gV kw_9_170 kw_9_172 ks_144 kw_1_11 kw_9_173) hy_X10_goesOn ⟨Nat.le_of_ble_eq_true rfl, Nat.le_of_ble_eq_true rfl⟩) (fun r_5 m_6 h => ?_)
    refine q_if_eq (tgt := 37) X dX10_pair_24 (by decide) (fun c_7 => ?_) (fun c_7 => ?_)
    · have h := h.1 c_7
      refine q_iconst (v := 0) X dX10_pair_37 (by decide) ?_
      exact hE _ _ _ _ dX10_pair_38 (Or.inl rfl) h
    · have h := h.2 c_7
      refine q_aload_n (j := 0) X dX10_pair_27 rfl rfl ?_
      refine q_iload_n (j := 3) X dX10_pair_28 rfl rfl ?_
      refine q_iload (j := 4) X dX10_pair_29 rfl ?_
      refine q_calli (q_runV X hK hZ zo (gm (t := 30) (by decide) (ok1 (t := 30) (Nat.le_of_ble_eq_true rfl))) rfl rfl [.int p2, .int p3] [] rfl rfl (Nat.le_of_ble_eq_true rfl) dX10_pair_31 ⟨Nat.le_of_ble_eq_true rfl, Nat.le_of_ble_eq_true rfl⟩ (c_X10_number ax p2 p3 m_6 _ h) rfl rfl (gV kw_9_164 kw_9_166 ks_143 kw_1_11 kw_9_167) hy_X10_number ⟨Nat.le_of_ble_eq_true rfl, Nat.le_of_ble_eq_true rfl⟩) (fun r_8 m_9 h => ?_)
      refine q_if_ne (tgt := 39) X dX10_pair_34 (by decide) (fun c_10 => ?_) (fun c_10 => ?_)
      · have h := h.1 c_10
        refine q_aload_n (j := 0) X dX10_pair_39 rfl rfl ?_
        refine q_aload_n (j := 0) X dX10_pair_40 rfl rfl ?_
        refine q_get (k := 10) (v := .int (m_9.1 30 1 10)) X hK rfl rfl (Nat.le_of_ble_eq_true rfl) inTX10 (gm (t := 30) (by decide) (ok1 (t := 30) (Nat.le_of_ble_eq_true rfl))) kw_7_17 rfl rfl dX10_pair_41 ?_
        refine q_putI (k := 12) X ax hK rfl rfl (Nat.le_of_ble_eq_true rfl) inTX10 (gm (t := 30) (by decide) (ok1 (t := 30) (Nat.le_of_ble_eq_true rfl))) tyX10 tyX10_ok nmX10 kw_7_19 rfl rfl (tyX10_ok 12 (Nat.le_of_ble_eq_true rfl)) rfl dX10_pair_44 ?_
        refine q_nmP (fun m_11 em_11 => ?_)
        have h := h m_11 em_11
        refine q_iconst (v := 1) X dX10_pair_47 (by decide) ?_
        exact hE _ _ _ _ dX10_pair_48 (Or.inr rfl) h
      · have h := h.2 c_10
        refine q_iconst (v := 0) X dX10_pair_37 (by decide) ?_
        exact hE _ _ _ _ dX10_pair_38 (Or.inl rfl) h
  · have h := h.2 c_3
    refine q_iconst (v := 0) X dX10_pair_9 (by decide) ?_
    exact hE _ _ _ _ dX10_pair_10 (Or.inl rfl) h
theorem dX10_entering_0 : decode cX10_entering 0 = .ok (.aload_n 0, 1) := by decide +kernel
theorem dX10_entering_1 : decode cX10_entering 1 = .ok (.iconst 5, 1) := by decide +kernel
theorem dX10_entering_2 : decode cX10_entering 2 = .ok (.bipush 42, 2) := by decide +kernel
theorem dX10_entering_4 : decode cX10_entering 4 = .ok (.iconst 1, 1) := by decide +kernel
theorem dX10_entering_5 : decode cX10_entering 5 = .ok (.sipush 999, 3) := by decide +kernel
theorem dX10_entering_8 : decode cX10_entering 8 = .ok (.invokevirtual 285, 3) := by decide +kernel
theorem dX10_entering_11 : decode cX10_entering 11 = .ok (.ifCond .eq 23, 3) := by decide +kernel
theorem dX10_entering_14 : decode cX10_entering 14 = .ok (.aload_n 0, 1) := by decide +kernel
theorem dX10_entering_15 : decode cX10_entering 15 = .ok (.bipush 42, 2) := by decide +kernel
theorem dX10_entering_17 : decode cX10_entering 17 = .ok (.invokevirtual 279, 3) := by decide +kernel
theorem dX10_entering_20 : decode cX10_entering 20 = .ok (.ifCond .eq 14, 3) := by decide +kernel
theorem dX10_entering_23 : decode cX10_entering 23 = .ok (.aload_n 0, 1) := by decide +kernel
theorem dX10_entering_24 : decode cX10_entering 24 = .ok (.iconst 1, 1) := by decide +kernel
theorem dX10_entering_25 : decode cX10_entering 25 = .ok (.sipush 9999, 3) := by decide +kernel
theorem dX10_entering_28 : decode cX10_entering 28 = .ok (.invokevirtual 273, 3) := by decide +kernel
theorem dX10_entering_31 : decode cX10_entering 31 = .ok (.ifCond .ne 5, 3) := by decide +kernel
theorem dX10_entering_34 : decode cX10_entering 34 = .ok (.iconst 0, 1) := by decide +kernel
theorem dX10_entering_35 : decode cX10_entering 35 = .ok (.ireturn, 1) := by decide +kernel
theorem dX10_entering_36 : decode cX10_entering 36 = .ok (.aload_n 0, 1) := by decide +kernel
theorem dX10_entering_37 : decode cX10_entering 37 = .ok (.aload_n 0, 1) := by decide +kernel
theorem dX10_entering_38 : decode cX10_entering 38 = .ok (.getfield 266, 3) := by decide +kernel
theorem dX10_entering_41 : decode cX10_entering 41 = .ok (.putfield 288, 3) := by decide +kernel
theorem dX10_entering_44 : decode cX10_entering 44 = .ok (.aload_n 0, 1) := by decide +kernel
theorem dX10_entering_45 : decode cX10_entering 45 = .ok (.bipush 62, 2) := by decide +kernel
theorem dX10_entering_47 : decode cX10_entering 47 = .ok (.invokevirtual 279, 3) := by decide +kernel
theorem dX10_entering_50 : decode cX10_entering 50 = .ok (.ifCond .eq 16, 3) := by decide +kernel
theorem dX10_entering_53 : decode cX10_entering 53 = .ok (.aload_n 0, 1) := by decide +kernel
theorem dX10_entering_54 : decode cX10_entering 54 = .ok (.iconst 0, 1) := by decide +kernel
theorem dX10_entering_55 : decode cX10_entering 55 = .ok (.iconst 4, 1) := by decide +kernel
theorem dX10_entering_56 : decode cX10_entering 56 = .ok (.invokevirtual 273, 3) := by decide +kernel
theorem dX10_entering_59 : decode cX10_entering 59 = .ok (.ifCond .eq 7, 3) := by decide +kernel
theorem dX10_entering_62 : decode cX10_entering 62 = .ok (.iconst 1, 1) := by decide +kernel
theorem dX10_entering_63 : decode cX10_entering 63 = .ok (.goto 4, 3) := by decide +kernel
theorem dX10_entering_66 : decode cX10_entering 66 = .ok (.iconst 0, 1) := by decide +kernel
theorem dX10_entering_67 : decode cX10_entering 67 = .ok (.ireturn, 1) := by decide +kernel
def w_X10_entering  (mm : Mm) (Q9 : Int32 → Mm → Prop) : Prop :=
  w_X10_pair 5 42 1 999 mm (fun (r_1 : Int32) (m_2 : Mm) => ((r_1 = 0 → Q9 0 m_2) ∧
  (¬ r_1 = 0 → w_X10_goesOn 42 m_2 (fun (r_4 : Int32) (m_5 : Mm) => ((r_4 = 0 → Q9 0 m_5) ∧
  (¬ r_4 = 0 → w_X10_number 1 9999 m_5 (fun (r_7 : Int32) (m_8 : Mm) => ((¬ r_7 = 0 → ∀ m_10 : Mm, m_10 = sI m_8 30 1 13 (m_8.1 30 1 10) → (w_X10_goesOn 62 m_10 (fun (r_11 : Int32) (m_12 : Mm) => ((r_11 = 0 → Q9 0 m_12) ∧
  (¬ r_11 = 0 → w_X10_number 0 4 m_12 (fun (r_14 : Int32) (m_15 : Mm) => ((r_14 = 0 → Q9 0 m_15) ∧
  (¬ r_14 = 0 → Q9 1 m_15)))))))) ∧
  (r_7 = 0 → Q9 0 m_8)))))))))
def rm_X10_entering : Room := { frames := 3, cells := 0, slots := 0, locals := 72 }
theorem hy_X10_entering : yX10_entering.cls = RX10 ∧ yX10_entering.cls ≠ "java/lang/invoke/MethodHandle" ∧ yX10_entering.cls ≠ "java/lang/invoke/VarHandle" ∧ (parseMethodDescriptor yX10_entering.desc).map (fun d => d.parameters.length) = some 0 := by decide +kernel
set_option maxRecDepth 100000 in
set_option maxHeartbeats 4000000 in
theorem c_X10_entering {l : Launch} {D : va_G} {cA : Nat → ClassId} {ad : Nat → Nat → Nat} {A : Nat → Prop} (ax : Ax ad GM A)  (mm : Mm) (Q9 : Int32 → Mm → Prop) (h : w_X10_entering mm Q9) : Met l yX10_entering (.code yX10_entering cX10_entering 1 (some .boolean) :: TG) rm_X10_entering (PcM TT D cA ad false GM (ZM) [.ref (ad 30 1)] mm) (AnsI TT D cA ad false GM A Q9) 0 0 A := by
  have zo := ZM_ok A
  unfold w_X10_entering at h
  refine enterZ pl_X10 ⟨rfl, rfl⟩ rfl (Nat.le_of_ble_eq_true rfl) ?_
  intro p e s m args below meth c QQ X hK hZ hnm hE
  refine q_aload_n (j := 0) X dX10_entering_0 rfl rfl ?_
  refine q_iconst (v := 5) X dX10_entering_1 (by decide) ?_
  refine q_bipush (v := 42) X dX10_entering_2 (by decide) ?_
  refine q_iconst (v := 1) X dX10_entering_4 (by decide) ?_
  refine q_sipush (v := 999) X dX10_entering_5 (by decide) ?_
  refine q_calli (q_runV X hK hZ zo (gm (t := 30) (by decide) (ok1 (t := 30) (Nat.le_of_ble_eq_true rfl))) rfl rfl [.int 5, .int 42, .int 1, .int 999] [] rfl rfl (Nat.le_of_ble_eq_true rfl) dX10_entering_8 ⟨Nat.le_of_ble_eq_true rfl, Nat.le_of_ble_eq_true rfl⟩ (c_X10_pair ax 5 42 1 999 mm _ h) rfl rfl (gV kw_9_160 kw_9_162 ks_142 kw_1_11 kw_9_163) hy_X10_pair ⟨Nat.le_of_ble_eq_true rfl, Nat.le_of_ble_eq_true rfl⟩) (fun r_1 m_2 h => ?_)
  refine q_if_eq (tgt := 34) X dX10_entering_11 (by decide) (fun c_3 => ?_) (fun c_3 => ?_)
  · have h := h.1 c_3
    refine q_iconst (v := 0) X dX10_entering_34 (by decide) ?_
    exact hE _ _ _ _ dX10_entering_35 (Or.inl rfl) h
  · have h := h.2 c_3
    refine q_aload_n (j := 0) X dX10_entering_14 rfl rfl ?_
    refine q_bipush (v := 42) X dX10_entering_15 (by decide) ?_
    refine q_calli (q_runV X hK hZ zo (gm (t := 30) (by decide) (ok1 (t := 30) (Nat.le_of_ble_eq_true rfl))) rfl rfl [.int 42] [] rfl rfl (Nat.le_of_ble_eq_true rfl) dX10_entering_17 ⟨Nat.le_of_ble_eq_true rfl, Nat.le_of_ble_eq_true rfl⟩ (c_X10_goesOn ax 42 m_2 _ h) rfl rfl (gV kw_9_170 kw_9_172 ks_144 kw_1_11 kw_9_173) hy_X10_goesOn ⟨Nat.le_of_ble_eq_true rfl, Nat.le_of_ble_eq_true rfl⟩) (fun r_4 m_5 h => ?_)
    refine q_if_eq (tgt := 34) X dX10_entering_20 (by decide) (fun c_6 => ?_) (fun c_6 => ?_)
    · have h := h.1 c_6
      refine q_iconst (v := 0) X dX10_entering_34 (by decide) ?_
      exact hE _ _ _ _ dX10_entering_35 (Or.inl rfl) h
    · have h := h.2 c_6
      refine q_aload_n (j := 0) X dX10_entering_23 rfl rfl ?_
      refine q_iconst (v := 1) X dX10_entering_24 (by decide) ?_
      refine q_sipush (v := 9999) X dX10_entering_25 (by decide) ?_
      refine q_calli (q_runV X hK hZ zo (gm (t := 30) (by decide) (ok1 (t := 30) (Nat.le_of_ble_eq_true rfl))) rfl rfl [.int 1, .int 9999] [] rfl rfl (Nat.le_of_ble_eq_true rfl) dX10_entering_28 ⟨Nat.le_of_ble_eq_true rfl, Nat.le_of_ble_eq_true rfl⟩ (c_X10_number ax 1 9999 m_5 _ h) rfl rfl (gV kw_9_164 kw_9_166 ks_143 kw_1_11 kw_9_167) hy_X10_number ⟨Nat.le_of_ble_eq_true rfl, Nat.le_of_ble_eq_true rfl⟩) (fun r_7 m_8 h => ?_)
      refine q_if_ne (tgt := 36) X dX10_entering_31 (by decide) (fun c_9 => ?_) (fun c_9 => ?_)
      · have h := h.1 c_9
        refine q_aload_n (j := 0) X dX10_entering_36 rfl rfl ?_
        refine q_aload_n (j := 0) X dX10_entering_37 rfl rfl ?_
        refine q_get (k := 10) (v := .int (m_8.1 30 1 10)) X hK rfl rfl (Nat.le_of_ble_eq_true rfl) inTX10 (gm (t := 30) (by decide) (ok1 (t := 30) (Nat.le_of_ble_eq_true rfl))) kw_7_17 rfl rfl dX10_entering_38 ?_
        refine q_putI (k := 13) X ax hK rfl rfl (Nat.le_of_ble_eq_true rfl) inTX10 (gm (t := 30) (by decide) (ok1 (t := 30) (Nat.le_of_ble_eq_true rfl))) tyX10 tyX10_ok nmX10 kw_7_20 rfl rfl (tyX10_ok 13 (Nat.le_of_ble_eq_true rfl)) rfl dX10_entering_41 ?_
        refine q_nmP (fun m_10 em_10 => ?_)
        have h := h m_10 em_10
        refine q_aload_n (j := 0) X dX10_entering_44 rfl rfl ?_
        refine q_bipush (v := 62) X dX10_entering_45 (by decide) ?_
        refine q_calli (q_runV X hK hZ zo (gm (t := 30) (by decide) (ok1 (t := 30) (Nat.le_of_ble_eq_true rfl))) rfl rfl [.int 62] [] rfl rfl (Nat.le_of_ble_eq_true rfl) dX10_entering_47 ⟨Nat.le_of_ble_eq_true rfl, Nat.le_of_ble_eq_true rfl⟩ (c_X10_goesOn ax 62 m_10 _ h) rfl rfl (gV kw_9_170 kw_9_172 ks_144 kw_1_11 kw_9_173) hy_X10_goesOn ⟨Nat.le_of_ble_eq_true rfl, Nat.le_of_ble_eq_true rfl⟩) (fun r_11 m_12 h => ?_)
        refine q_if_eq (tgt := 66) X dX10_entering_50 (by decide) (fun c_13 => ?_) (fun c_13 => ?_)
        · have h := h.1 c_13
          refine q_iconst (v := 0) X dX10_entering_66 (by decide) ?_
          exact hE _ _ _ _ dX10_entering_67 (Or.inl rfl) h
        · have h := h.2 c_13
          refine q_aload_n (j := 0) X dX10_entering_53 rfl rfl ?_
          refine q_iconst (v := 0) X dX10_entering_54 (by decide) ?_
          refine q_iconst (v := 4) X dX10_entering_55 (by decide) ?_
          refine q_calli (q_runV X hK hZ zo (gm (t := 30) (by decide) (ok1 (t := 30) (Nat.le_of_ble_eq_true rfl))) rfl rfl [.int 0, .int 4] [] rfl rfl (Nat.le_of_ble_eq_true rfl) dX10_entering_56 ⟨Nat.le_of_ble_eq_true rfl, Nat.le_of_ble_eq_true rfl⟩ (c_X10_number ax 0 4 m_12 _ h) rfl rfl (gV kw_9_164 kw_9_166 ks_143 kw_1_11 kw_9_167) hy_X10_number ⟨Nat.le_of_ble_eq_true rfl, Nat.le_of_ble_eq_true rfl⟩) (fun r_14 m_15 h => ?_)
          refine q_if_eq (tgt := 66) X dX10_entering_59 (by decide) (fun c_16 => ?_) (fun c_16 => ?_)
          · have h := h.1 c_16
            refine q_iconst (v := 0) X dX10_entering_66 (by decide) ?_
            exact hE _ _ _ _ dX10_entering_67 (Or.inl rfl) h
          · have h := h.2 c_16
            refine q_iconst (v := 1) X dX10_entering_62 (by decide) ?_
            refine q_goto (tgt := 67) X dX10_entering_63 (by decide) ?_
            exact hE _ _ _ _ dX10_entering_67 (Or.inr rfl) h
      · have h := h.2 c_9
        refine q_iconst (v := 0) X dX10_entering_34 (by decide) ?_
        exact hE _ _ _ _ dX10_entering_35 (Or.inl rfl) h
theorem dX10_line_0 : decode cX10_line 0 = .ok (.iload_n 1, 1) := by decide +kernel
theorem dX10_line_1 : decode cX10_line 1 = .ok (.tableswitch 158 100 120 #[141, 99, 158, 117, 158, 158, 158, 158, 158, 130, 158, 158, 158, 158, 158, 158, 150, 158, 158, 104, 104], 99) := by decide +kernel
theorem dX10_line_100 : decode cX10_line 100 = .ok (.aload_n 0, 1) := by decide +kernel
theorem dX10_line_101 : decode cX10_line 101 = .ok (.invokevirtual 291, 3) := by decide +kernel
theorem dX10_line_104 : decode cX10_line 104 = .ok (.ireturn, 1) := by decide +kernel
theorem dX10_line_105 : decode cX10_line 105 = .ok (.aload_n 0, 1) := by decide +kernel
theorem dX10_line_106 : decode cX10_line 106 = .ok (.bipush 59, 2) := by decide +kernel
theorem dX10_line_108 : decode cX10_line 108 = .ok (.bipush 42, 2) := by decide +kernel
theorem dX10_line_110 : decode cX10_line 110 = .ok (.iconst 1, 1) := by decide +kernel
theorem dX10_line_111 : decode cX10_line 111 = .ok (.sipush 999, 3) := by decide +kernel
theorem dX10_line_114 : decode cX10_line 114 = .ok (.invokevirtual 285, 3) := by decide +kernel
theorem dX10_line_117 : decode cX10_line 117 = .ok (.ireturn, 1) := by decide +kernel
theorem dX10_line_118 : decode cX10_line 118 = .ok (.aload_n 0, 1) := by decide +kernel
theorem dX10_line_119 : decode cX10_line 119 = .ok (.bipush 59, 2) := by decide +kernel
theorem dX10_line_121 : decode cX10_line 121 = .ok (.bipush 42, 2) := by decide +kernel
theorem dX10_line_123 : decode cX10_line 123 = .ok (.iconst 0, 1) := by decide +kernel
theorem dX10_line_124 : decode cX10_line 124 = .ok (.sipush 999, 3) := by decide +kernel
theorem dX10_line_127 : decode cX10_line 127 = .ok (.invokevirtual 285, 3) := by decide +kernel
theorem dX10_line_130 : decode cX10_line 130 = .ok (.ireturn, 1) := by decide +kernel
theorem dX10_line_131 : decode cX10_line 131 = .ok (.aload_n 0, 1) := by decide +kernel
theorem dX10_line_132 : decode cX10_line 132 = .ok (.bipush 59, 2) := by decide +kernel
theorem dX10_line_134 : decode cX10_line 134 = .ok (.bipush 62, 2) := by decide +kernel
theorem dX10_line_136 : decode cX10_line 136 = .ok (.iconst 0, 1) := by decide +kernel
theorem dX10_line_137 : decode cX10_line 137 = .ok (.iconst 4, 1) := by decide +kernel
theorem dX10_line_138 : decode cX10_line 138 = .ok (.invokevirtual 285, 3) := by decide +kernel
theorem dX10_line_141 : decode cX10_line 141 = .ok (.ireturn, 1) := by decide +kernel
theorem dX10_line_142 : decode cX10_line 142 = .ok (.aload_n 0, 1) := by decide +kernel
theorem dX10_line_143 : decode cX10_line 143 = .ok (.iconst 1, 1) := by decide +kernel
theorem dX10_line_144 : decode cX10_line 144 = .ok (.sipush 9999, 3) := by decide +kernel
theorem dX10_line_147 : decode cX10_line 147 = .ok (.invokevirtual 273, 3) := by decide +kernel
theorem dX10_line_150 : decode cX10_line 150 = .ok (.ireturn, 1) := by decide +kernel
theorem dX10_line_151 : decode cX10_line 151 = .ok (.aload_n 0, 1) := by decide +kernel
theorem dX10_line_152 : decode cX10_line 152 = .ok (.iconst 1, 1) := by decide +kernel
theorem dX10_line_153 : decode cX10_line 153 = .ok (.bipush 100, 2) := by decide +kernel
theorem dX10_line_155 : decode cX10_line 155 = .ok (.invokevirtual 273, 3) := by decide +kernel
theorem dX10_line_158 : decode cX10_line 158 = .ok (.ireturn, 1) := by decide +kernel
theorem dX10_line_159 : decode cX10_line 159 = .ok (.aload_n 0, 1) := by decide +kernel
theorem dX10_line_160 : decode cX10_line 160 = .ok (.iconst 0, 1) := by decide +kernel
theorem dX10_line_161 : decode cX10_line 161 = .ok (.iconst 4, 1) := by decide +kernel
theorem dX10_line_162 : decode cX10_line 162 = .ok (.invokevirtual 273, 3) := by decide +kernel
theorem dX10_line_165 : decode cX10_line 165 = .ok (.ireturn, 1) := by decide +kernel
def w_X10_line (p0 : Int32) (mm : Mm) (Q9 : Int32 → Mm → Prop) : Prop :=
  ((p0 = 100 → w_X10_number 1 9999 mm (fun (r_2 : Int32) (m_3 : Mm) => isB r_2 ∧ Q9 r_2 m_3)) ∧
  (p0 = 101 → w_X10_entering mm (fun (r_5 : Int32) (m_6 : Mm) => isB r_5 ∧ Q9 r_5 m_6)) ∧
  (p0 = 103 → w_X10_pair 59 42 0 999 mm (fun (r_8 : Int32) (m_9 : Mm) => isB r_8 ∧ Q9 r_8 m_9)) ∧
  (p0 = 109 → w_X10_pair 59 62 0 4 mm (fun (r_11 : Int32) (m_12 : Mm) => isB r_11 ∧ Q9 r_11 m_12)) ∧
  (p0 = 116 → w_X10_number 1 100 mm (fun (r_14 : Int32) (m_15 : Mm) => isB r_14 ∧ Q9 r_14 m_15)) ∧
  (p0 = 119 → w_X10_pair 59 42 1 999 mm (fun (r_17 : Int32) (m_18 : Mm) => isB r_17 ∧ Q9 r_17 m_18)) ∧
  (p0 = 120 → w_X10_pair 59 42 1 999 mm (fun (r_20 : Int32) (m_21 : Mm) => isB r_20 ∧ Q9 r_20 m_21)) ∧
  (¬ p0 = 100 → ¬ p0 = 101 → ¬ p0 = 103 → ¬ p0 = 109 → ¬ p0 = 116 → ¬ p0 = 119 → ¬ p0 = 120 → w_X10_number 0 4 mm (fun (r_23 : Int32) (m_24 : Mm) => isB r_23 ∧ Q9 r_23 m_24)))
def rm_X10_line : Room := { frames := 4, cells := 0, slots := 0, locals := 92 }
theorem hy_X10_line : yX10_line.cls = RX10 ∧ yX10_line.cls ≠ "java/lang/invoke/MethodHandle" ∧ yX10_line.cls ≠ "java/lang/invoke/VarHandle" ∧ (parseMethodDescriptor yX10_line.desc).map (fun d => d.parameters.length) = some 1 := by decide +kernel
set_option maxRecDepth 100000 in
set_option maxHeartbeats 4000000 in
theorem c_X10_line {l : Launch} {D : va_G} {cA : Nat → ClassId} {ad : Nat → Nat → Nat} {A : Nat → Prop} (ax : Ax ad GM A) (p0 : Int32) (mm : Mm) (Q9 : Int32 → Mm → Prop) (h : w_X10_line p0 mm Q9) : Met l yX10_line (.code yX10_line cX10_line 2 (some .boolean) :: TG) rm_X10_line (PcM TT D cA ad false GM (ZM) [.ref (ad 30 1), .int p0] mm) (AnsI TT D cA ad false GM A Q9) 0 0 A := by
  have zo := ZM_ok A
  unfold w_X10_line at h
  refine enterZ pl_X10 ⟨rfl, rfl⟩ rfl (Nat.le_of_ble_eq_true rfl) ?_
  intro p e s m args below meth c QQ X hK hZ hnm hE
  refine q_iload_n (j := 1) X dX10_line_0 rfl rfl ?_
  by_cases c_1 : p0 = 100
  · have h := h.1 c_1
    refine q_tabI (k := 100) (tgt := 142) X dX10_line_1 c_1 (by decide) (by decide) rfl (by decide) ?_
    refine q_aload_n (j := 0) X dX10_line_142 rfl rfl ?_
    refine q_iconst (v := 1) X dX10_line_143 (by decide) ?_
    refine q_sipush (v := 9999) X dX10_line_144 (by decide) ?_
    refine q_calli (q_runV X hK hZ zo (gm (t := 30) (by decide) (ok1 (t := 30) (Nat.le_of_ble_eq_true rfl))) rfl rfl [.int 1, .int 9999] [] rfl rfl (Nat.le_of_ble_eq_true rfl) dX10_line_147 ⟨Nat.le_of_ble_eq_true rfl, Nat.le_of_ble_eq_true rfl⟩ (c_X10_number ax 1 9999 mm _ h) rfl rfl (gV kw_9_164 kw_9_166 ks_143 kw_1_11 kw_9_167) hy_X10_number ⟨Nat.le_of_ble_eq_true rfl, Nat.le_of_ble_eq_true rfl⟩) (fun r_2 m_3 h => ?_)
    obtain ⟨b_4, h⟩ := h
    exact hE _ _ _ _ dX10_line_150 b_4 h
  have h := h.2
  have nc_1_100 := c_1
  by_cases c_1 : p0 = 101
  · have h := h.1 c_1
    refine q_tabI (k := 101) (tgt := 100) X dX10_line_1 c_1 (by decide) (by decide) rfl (by decide) ?_
    refine q_aload_n (j := 0) X dX10_line_100 rfl rfl ?_
    refine q_calli (q_runV X hK hZ zo (gm (t := 30) (by decide) (ok1 (t := 30) (Nat.le_of_ble_eq_true rfl))) rfl rfl [] [] rfl rfl (Nat.le_of_ble_eq_true rfl) dX10_line_101 ⟨Nat.le_of_ble_eq_true rfl, Nat.le_of_ble_eq_true rfl⟩ (c_X10_entering ax mm _ h) rfl rfl (gV kw_9_156 kw_9_158 ks_141 kw_1_11 kw_9_159) hy_X10_entering ⟨Nat.le_of_ble_eq_true rfl, Nat.le_of_ble_eq_true rfl⟩) (fun r_5 m_6 h => ?_)
    obtain ⟨b_7, h⟩ := h
    exact hE _ _ _ _ dX10_line_104 b_7 h
  have h := h.2
  have nc_1_101 := c_1
  by_cases c_1 : p0 = 103
  · have h := h.1 c_1
    refine q_tabI (k := 103) (tgt := 118) X dX10_line_1 c_1 (by decide) (by decide) rfl (by decide) ?_
    refine q_aload_n (j := 0) X dX10_line_118 rfl rfl ?_
    refine q_bipush (v := 59) X dX10_line_119 (by decide) ?_
    refine q_bipush (v := 42) X dX10_line_121 (by decide) ?_
    refine q_iconst (v := 0) X dX10_line_123 (by decide) ?_
    refine q_sipush (v := 999) X dX10_line_124 (by decide) ?_
    refine q_calli (q_runV X hK hZ zo (gm (t := 30) (by decide) (ok1 (t := 30) (Nat.le_of_ble_eq_true rfl))) rfl rfl [.int 59, .int 42, .int 0, .int 999] [] rfl rfl (Nat.le_of_ble_eq_true rfl) dX10_line_127 ⟨Nat.le_of_ble_eq_true rfl, Nat.le_of_ble_eq_true rfl⟩ (c_X10_pair ax 59 42 0 999 mm _ h) rfl rfl (gV kw_9_160 kw_9_162 ks_142 kw_1_11 kw_9_163) hy_X10_pair ⟨Nat.le_of_ble_eq_true rfl, Nat.le_of_ble_eq_true rfl⟩) (fun r_8 m_9 h => ?_)
    obtain ⟨b_10, h⟩ := h
    exact hE _ _ _ _ dX10_line_130 b_10 h
  have h := h.2
  have nc_1_103 := c_1
  by_cases c_1 : p0 = 109
  · have h := h.1 c_1
    refine q_tabI (k := 109) (tgt := 131) X dX10_line_1 c_1 (by decide) (by decide) rfl (by decide) ?_
    refine q_aload_n (j := 0) X dX10_line_131 rfl rfl ?_
    refine q_bipush (v := 59) X dX10_line_132 (by decide) ?_
    refine q_bipush (v := 62) X dX10_line_134 (by decide) ?_
    refine q_iconst (v := 0) X dX10_line_136 (by decide) ?_
    refine q_iconst (v := 4) X dX10_line_137 (by decide) ?_
    refine q_calli (q_runV X hK hZ zo (gm (t := 30) (by decide) (ok1 (t := 30) (Nat.le_of_ble_eq_true rfl))) rfl rfl [.int 59, .int 62, .int 0, .int 4] [] rfl rfl (Nat.le_of_ble_eq_true rfl) dX10_line_138 ⟨Nat.le_of_ble_eq_true rfl, Nat.le_of_ble_eq_true rfl⟩ (c_X10_pair ax 59 62 0 4 mm _ h) rfl rfl (gV kw_9_160 kw_9_162 ks_142 kw_1_11 kw_9_163) hy_X10_pair ⟨Nat.le_of_ble_eq_true rfl, Nat.le_of_ble_eq_true rfl⟩) (fun r_11 m_12 h => ?_)
    obtain ⟨b_13, h⟩ := h
    exact hE _ _ _ _ dX10_line_141 b_13 h
  have h := h.2
  have nc_1_109 := c_1
  by_cases c_1 : p0 = 116
  · have h := h.1 c_1
    refine q_tabI (k := 116) (tgt := 151) X dX10_line_1 c_1 (by decide) (by decide) rfl (by decide) ?_
    refine q_aload_n (j := 0) X dX10_line_151 rfl rfl ?_
    refine q_iconst (v := 1) X dX10_line_152 (by decide) ?_
    refine q_bipush (v := 100) X dX10_line_153 (by decide) ?_
    refine q_calli (q_runV X hK hZ zo (gm (t := 30) (by decide) (ok1 (t := 30) (Nat.le_of_ble_eq_true rfl))) rfl rfl [.int 1, .int 100] [] rfl rfl (Nat.le_of_ble_eq_true rfl) dX10_line_155 ⟨Nat.le_of_ble_eq_true rfl, Nat.le_of_ble_eq_true rfl⟩ (c_X10_number ax 1 100 mm _ h) rfl rfl (gV kw_9_164 kw_9_166 ks_143 kw_1_11 kw_9_167) hy_X10_number ⟨Nat.le_of_ble_eq_true rfl, Nat.le_of_ble_eq_true rfl⟩) (fun r_14 m_15 h => ?_)
    obtain ⟨b_16, h⟩ := h
    exact hE _ _ _ _ dX10_line_158 b_16 h
  have h := h.2
  have nc_1_116 := c_1
  by_cases c_1 : p0 = 119
  · have h := h.1 c_1
    refine q_tabI (k := 119) (tgt := 105) X dX10_line_1 c_1 (by decide) (by decide) rfl (by decide) ?_
    refine q_aload_n (j := 0) X dX10_line_105 rfl rfl ?_
    refine q_bipush (v := 59) X dX10_line_106 (by decide) ?_
    refine q_bipush (v := 42) X dX10_line_108 (by decide) ?_
    refine q_iconst (v := 1) X dX10_line_110 (by decide) ?_
    refine q_sipush (v := 999) X dX10_line_111 (by decide) ?_
    refine q_calli (q_runV X hK hZ zo (gm (t := 30) (by decide) (ok1 (t := 30) (Nat.le_of_ble_eq_true rfl))) rfl rfl [.int 59, .int 42, .int 1, .int 999] [] rfl rfl (Nat.le_of_ble_eq_true rfl) dX10_line_114 ⟨Nat.le_of_ble_eq_true rfl, Nat.le_of_ble_eq_true rfl⟩ (c_X10_pair ax 59 42 1 999 mm _ h) rfl rfl (gV kw_9_160 kw_9_162 ks_142 kw_1_11 kw_9_163) hy_X10_pair ⟨Nat.le_of_ble_eq_true rfl, Nat.le_of_ble_eq_true rfl⟩) (fun r_17 m_18 h => ?_)
    obtain ⟨b_19, h⟩ := h
    exact hE _ _ _ _ dX10_line_117 b_19 h
  have h := h.2
  have nc_1_119 := c_1
  by_cases c_1 : p0 = 120
  · have h := h.1 c_1
    refine q_tabI (k := 120) (tgt := 105) X dX10_line_1 c_1 (by decide) (by decide) rfl (by decide) ?_
    refine q_aload_n (j := 0) X dX10_line_105 rfl rfl ?_
    refine q_bipush (v := 59) X dX10_line_106 (by decide) ?_
    refine q_bipush (v := 42) X dX10_line_108 (by decide) ?_
    refine q_iconst (v := 1) X dX10_line_110 (by decide) ?_
    refine q_sipush (v := 999) X dX10_line_111 (by decide) ?_
    refine q_calli (q_runV X hK hZ zo (gm (t := 30) (by decide) (ok1 (t := 30) (Nat.le_of_ble_eq_true rfl))) rfl rfl [.int 59, .int 42, .int 1, .int 999] [] rfl rfl (Nat.le_of_ble_eq_true rfl) dX10_line_114 ⟨Nat.le_of_ble_eq_true rfl, Nat.le_of_ble_eq_true rfl⟩ (c_X10_pair ax 59 42 1 999 mm _ h) rfl rfl (gV kw_9_160 kw_9_162 ks_142 kw_1_11 kw_9_163) hy_X10_pair ⟨Nat.le_of_ble_eq_true rfl, Nat.le_of_ble_eq_true rfl⟩) (fun r_20 m_21 h => ?_)
    obtain ⟨b_22, h⟩ := h
    exact hE _ _ _ _ dX10_line_117 b_22 h
  have h := h.2
  have nc_1_120 := c_1
  have h := h nc_1_100 nc_1_101 nc_1_103 nc_1_109 nc_1_116 nc_1_119 nc_1_120
  refine q_tabD (ks := [100, 101, 103, 109, 116, 119, 120]) (tgt := 159) X dX10_line_1 (by intro k hk; simp only [List.mem_cons, List.not_mem_nil, or_false] at hk; rcases hk with rfl | rfl | rfl | rfl | rfl | rfl | rfl <;> assumption) (by decide +kernel) (by decide) ?_
  refine q_aload_n (j := 0) X dX10_line_159 rfl rfl ?_
  refine q_iconst (v := 0) X dX10_line_160 (by decide) ?_
  refine q_iconst (v := 4) X dX10_line_161 (by decide) ?_
  refine q_calli (q_runV X hK hZ zo (gm (t := 30) (by decide) (ok1 (t := 30) (Nat.le_of_ble_eq_true rfl))) rfl rfl [.int 0, .int 4] [] rfl rfl (Nat.le_of_ble_eq_true rfl) dX10_line_162 ⟨Nat.le_of_ble_eq_true rfl, Nat.le_of_ble_eq_true rfl⟩ (c_X10_number ax 0 4 mm _ h) rfl rfl (gV kw_9_164 kw_9_166 ks_143 kw_1_11 kw_9_167) hy_X10_number ⟨Nat.le_of_ble_eq_true rfl, Nat.le_of_ble_eq_true rfl⟩) (fun r_23 m_24 h => ?_)
  obtain ⟨b_25, h⟩ := h
  exact hE _ _ _ _ dX10_line_165 b_25 h
theorem dX10_isSign_0 : decode cX10_isSign 0 = .ok (.iload_n 0, 1) := by decide +kernel
theorem dX10_isSign_1 : decode cX10_isSign 1 = .ok (.bipush 101, 2) := by decide +kernel
theorem dX10_isSign_3 : decode cX10_isSign 3 = .ok (.if_icmp .eq 57, 3) := by decide +kernel
theorem dX10_isSign_6 : decode cX10_isSign 6 = .ok (.iload_n 0, 1) := by decide +kernel
theorem dX10_isSign_7 : decode cX10_isSign 7 = .ok (.bipush 119, 2) := by decide +kernel
theorem dX10_isSign_9 : decode cX10_isSign 9 = .ok (.if_icmp .eq 51, 3) := by decide +kernel
theorem dX10_isSign_12 : decode cX10_isSign 12 = .ok (.iload_n 0, 1) := by decide +kernel
theorem dX10_isSign_13 : decode cX10_isSign 13 = .ok (.bipush 120, 2) := by decide +kernel
theorem dX10_isSign_15 : decode cX10_isSign 15 = .ok (.if_icmp .eq 45, 3) := by decide +kernel
theorem dX10_isSign_18 : decode cX10_isSign 18 = .ok (.iload_n 0, 1) := by decide +kernel
theorem dX10_isSign_19 : decode cX10_isSign 19 = .ok (.bipush 103, 2) := by decide +kernel
theorem dX10_isSign_21 : decode cX10_isSign 21 = .ok (.if_icmp .eq 39, 3) := by decide +kernel
theorem dX10_isSign_24 : decode cX10_isSign 24 = .ok (.iload_n 0, 1) := by decide +kernel
theorem dX10_isSign_25 : decode cX10_isSign 25 = .ok (.bipush 109, 2) := by decide +kernel
theorem dX10_isSign_27 : decode cX10_isSign 27 = .ok (.if_icmp .eq 33, 3) := by decide +kernel
theorem dX10_isSign_30 : decode cX10_isSign 30 = .ok (.iload_n 0, 1) := by decide +kernel
theorem dX10_isSign_31 : decode cX10_isSign 31 = .ok (.bipush 108, 2) := by decide +kernel
theorem dX10_isSign_33 : decode cX10_isSign 33 = .ok (.if_icmp .eq 27, 3) := by decide +kernel
theorem dX10_isSign_36 : decode cX10_isSign 36 = .ok (.iload_n 0, 1) := by decide +kernel
theorem dX10_isSign_37 : decode cX10_isSign 37 = .ok (.bipush 111, 2) := by decide +kernel
theorem dX10_isSign_39 : decode cX10_isSign 39 = .ok (.if_icmp .eq 21, 3) := by decide +kernel
theorem dX10_isSign_42 : decode cX10_isSign 42 = .ok (.iload_n 0, 1) := by decide +kernel
theorem dX10_isSign_43 : decode cX10_isSign 43 = .ok (.bipush 98, 2) := by decide +kernel
theorem dX10_isSign_45 : decode cX10_isSign 45 = .ok (.if_icmp .eq 15, 3) := by decide +kernel
theorem dX10_isSign_48 : decode cX10_isSign 48 = .ok (.iload_n 0, 1) := by decide +kernel
theorem dX10_isSign_49 : decode cX10_isSign 49 = .ok (.bipush 100, 2) := by decide +kernel
theorem dX10_isSign_51 : decode cX10_isSign 51 = .ok (.if_icmp .eq 9, 3) := by decide +kernel
theorem dX10_isSign_54 : decode cX10_isSign 54 = .ok (.iload_n 0, 1) := by decide +kernel
theorem dX10_isSign_55 : decode cX10_isSign 55 = .ok (.bipush 116, 2) := by decide +kernel
theorem dX10_isSign_57 : decode cX10_isSign 57 = .ok (.if_icmp .ne 7, 3) := by decide +kernel
theorem dX10_isSign_60 : decode cX10_isSign 60 = .ok (.iconst 1, 1) := by decide +kernel
theorem dX10_isSign_61 : decode cX10_isSign 61 = .ok (.goto 4, 3) := by decide +kernel
theorem dX10_isSign_64 : decode cX10_isSign 64 = .ok (.iconst 0, 1) := by decide +kernel
theorem dX10_isSign_65 : decode cX10_isSign 65 = .ok (.ireturn, 1) := by decide +kernel
def w_X10_isSign (p0 : Int32) (mm : Mm) (Q9 : Int32 → Prop) : Prop :=
  ((p0 = 101 → Q9 1) ∧
  (¬ p0 = 101 → ((p0 = 119 → Q9 1) ∧
  (¬ p0 = 119 → ((p0 = 120 → Q9 1) ∧
  (¬ p0 = 120 → ((p0 = 103 → Q9 1) ∧
  (¬ p0 = 103 → ((p0 = 109 → Q9 1) ∧
  (¬ p0 = 109 → ((p0 = 108 → Q9 1) ∧
  (¬ p0 = 108 → ((p0 = 111 → Q9 1) ∧
  (¬ p0 = 111 → ((p0 = 98 → Q9 1) ∧
  (¬ p0 = 98 → ((p0 = 100 → Q9 1) ∧
  (¬ p0 = 100 → ((¬ p0 = 116 → Q9 0) ∧
  (p0 = 116 → Q9 1))))))))))))))))))))
def rm_X10_isSign : Room := { frames := 0, cells := 0, slots := 0, locals := 0 }
theorem hy_X10_isSign : yX10_isSign.cls = RX10 ∧ yX10_isSign.cls ≠ "java/lang/invoke/MethodHandle" ∧ yX10_isSign.cls ≠ "java/lang/invoke/VarHandle" ∧ (parseMethodDescriptor yX10_isSign.desc).map (fun d => d.parameters.length) = some 1 := by decide +kernel
set_option maxRecDepth 100000 in
set_option maxHeartbeats 4000000 in
theorem c_X10_isSign {l : Launch} {D : va_G} {cA : Nat → ClassId} {ad : Nat → Nat → Nat} {A : Nat → Prop} (ax : Ax ad GM A) (p0 : Int32) (mm : Mm) (Q9 : Int32 → Prop) (h : w_X10_isSign p0 mm Q9) : Met l yX10_isSign (.code yX10_isSign cX10_isSign 1 (some .boolean) :: TG) rm_X10_isSign (PcM TT D cA ad false GM (ZM) [.int p0] mm) (AnsI TT D cA ad false GM A (fun r mm' => Q9 r ∧ mm = mm')) 0 0 A := by
  have zo := ZM_ok A
  unfold w_X10_isSign at h
  refine enterZ pl_X10 ⟨rfl, rfl⟩ rfl (Nat.le_of_ble_eq_true rfl) ?_
  intro p e s m args below meth c QQ X hK hZ hnm hE
  refine q_iload_n (j := 0) X dX10_isSign_0 rfl rfl ?_
  refine q_bipush (v := 101) X dX10_isSign_1 (by decide) ?_
  refine q_icmp_eq (tgt := 60) X dX10_isSign_3 (by decide) (fun c_1 => ?_) (fun c_1 => ?_)
  · have h := h.1 c_1
    refine q_iconst (v := 1) X dX10_isSign_60 (by decide) ?_
    refine q_goto (tgt := 65) X dX10_isSign_61 (by decide) ?_
    exact hE _ _ _ _ dX10_isSign_65 (Or.inr rfl) ⟨h, rfl⟩
  · have h := h.2 c_1
    refine q_iload_n (j := 0) X dX10_isSign_6 rfl rfl ?_
    refine q_bipush (v := 119) X dX10_isSign_7 (by decide) ?_
    refine q_icmp_eq (tgt := 60) X dX10_isSign_9 (by decide) (fun c_2 => ?_) (fun c_2 => ?_)
    · have h := h.1 c_2
      refine q_iconst (v := 1) X dX10_isSign_60 (by decide) ?_
      refine q_goto (tgt := 65) X dX10_isSign_61 (by decide) ?_
      exact hE _ _ _ _ dX10_isSign_65 (Or.inr rfl) ⟨h, rfl⟩
    · have h := h.2 c_2
      refine q_iload_n (j := 0) X dX10_isSign_12 rfl rfl ?_
      refine q_bipush (v := 120) X dX10_isSign_13 (by decide) ?_
      refine q_icmp_eq (tgt := 60) X dX10_isSign_15 (by decide) (fun c_3 => ?_) (fun c_3 => ?_)
      · have h := h.1 c_3
        refine q_iconst (v := 1) X dX10_isSign_60 (by decide) ?_
        refine q_goto (tgt := 65) X dX10_isSign_61 (by decide) ?_
        exact hE _ _ _ _ dX10_isSign_65 (Or.inr rfl) ⟨h, rfl⟩
      · have h := h.2 c_3
        refine q_iload_n (j := 0) X dX10_isSign_18 rfl rfl ?_
        refine q_bipush (v := 103) X dX10_isSign_19 (by decide) ?_
        refine q_icmp_eq (tgt := 60) X dX10_isSign_21 (by decide) (fun c_4 => ?_) (fun c_4 => ?_)
        · have h := h.1 c_4
          refine q_iconst (v := 1) X dX10_isSign_60 (by decide) ?_
          refine q_goto (tgt := 65) X dX10_isSign_61 (by decide) ?_
          exact hE _ _ _ _ dX10_isSign_65 (Or.inr rfl) ⟨h, rfl⟩
        · have h := h.2 c_4
          refine q_iload_n (j := 0) X dX10_isSign_24 rfl rfl ?_
          refine q_bipush (v := 109) X dX10_isSign_25 (by decide) ?_
          refine q_icmp_eq (tgt := 60) X dX10_isSign_27 (by decide) (fun c_5 => ?_) (fun c_5 => ?_)
          · have h := h.1 c_5
            refine q_iconst (v := 1) X dX10_isSign_60 (by decide) ?_
            refine q_goto (tgt := 65) X dX10_isSign_61 (by decide) ?_
            exact hE _ _ _ _ dX10_isSign_65 (Or.inr rfl) ⟨h, rfl⟩
          · have h := h.2 c_5
            refine q_iload_n (j := 0) X dX10_isSign_30 rfl rfl ?_
            refine q_bipush (v := 108) X dX10_isSign_31 (by decide) ?_
            refine q_icmp_eq (tgt := 60) X dX10_isSign_33 (by decide) (fun c_6 => ?_) (fun c_6 => ?_)
            · have h := h.1 c_6
              refine q_iconst (v := 1) X dX10_isSign_60 (by decide) ?_
              refine q_goto (tgt := 65) X dX10_isSign_61 (by decide) ?_
              exact hE _ _ _ _ dX10_isSign_65 (Or.inr rfl) ⟨h, rfl⟩
            · have h := h.2 c_6
              refine q_iload_n (j := 0) X dX10_isSign_36 rfl rfl ?_
              refine q_bipush (v := 111) X dX10_isSign_37 (by decide) ?_
              refine q_icmp_eq (tgt := 60) X dX10_isSign_39 (by decide) (fun c_7 => ?_) (fun c_7 => ?_)
              · have h := h.1 c_7
                refine q_iconst (v := 1) X dX10_isSign_60 (by decide) ?_
                refine q_goto (tgt := 65) X dX10_isSign_61 (by decide) ?_
                exact hE _ _ _ _ dX10_isSign_65 (Or.inr rfl) ⟨h, rfl⟩
              · have h := h.2 c_7
                refine q_iload_n (j := 0) X dX10_isSign_42 rfl rfl ?_
                refine q_bipush (v := 98) X dX10_isSign_43 (by decide) ?_
                refine q_icmp_eq (tgt := 60) X dX10_isSign_45 (by decide) (fun c_8 => ?_) (fun c_8 => ?_)
                · have h := h.1 c_8
                  refine q_iconst (v := 1) X dX10_isSign_60 (by decide) ?_
                  refine q_goto (tgt := 65) X dX10_isSign_61 (by decide) ?_
                  exact hE _ _ _ _ dX10_isSign_65 (Or.inr rfl) ⟨h, rfl⟩
                · have h := h.2 c_8
                  refine q_iload_n (j := 0) X dX10_isSign_48 rfl rfl ?_
                  refine q_bipush (v := 100) X dX10_isSign_49 (by decide) ?_
                  refine q_icmp_eq (tgt := 60) X dX10_isSign_51 (by decide) (fun c_9 => ?_) (fun c_9 => ?_)
                  · have h := h.1 c_9
                    refine q_iconst (v := 1) X dX10_isSign_60 (by decide) ?_
                    refine q_goto (tgt := 65) X dX10_isSign_61 (by decide) ?_
                    exact hE _ _ _ _ dX10_isSign_65 (Or.inr rfl) ⟨h, rfl⟩
                  · have h := h.2 c_9
                    refine q_iload_n (j := 0) X dX10_isSign_54 rfl rfl ?_
                    refine q_bipush (v := 116) X dX10_isSign_55 (by decide) ?_
                    refine q_icmp_ne (tgt := 64) X dX10_isSign_57 (by decide) (fun c_10 => ?_) (fun c_10 => ?_)
                    · have h := h.1 c_10
                      refine q_iconst (v := 0) X dX10_isSign_64 (by decide) ?_
                      exact hE _ _ _ _ dX10_isSign_65 (Or.inl rfl) ⟨h, rfl⟩
                    · have h := h.2 c_10
                      refine q_iconst (v := 1) X dX10_isSign_60 (by decide) ?_
                      refine q_goto (tgt := 65) X dX10_isSign_61 (by decide) ?_
                      exact hE _ _ _ _ dX10_isSign_65 (Or.inr rfl) ⟨h, rfl⟩
theorem dX10_doesEntry_0 : decode cX10_doesEntry 0 = .ok (.aload_n 0, 1) := by decide +kernel
theorem dX10_doesEntry_1 : decode cX10_doesEntry 1 = .ok (.aload_n 0, 1) := by decide +kernel
theorem dX10_doesEntry_2 : decode cX10_doesEntry 2 = .ok (.getfield 276, 3) := by decide +kernel
theorem dX10_doesEntry_5 : decode cX10_doesEntry 5 = .ok (.invokevirtual 156, 3) := by decide +kernel
theorem dX10_doesEntry_8 : decode cX10_doesEntry 8 = .ok (.istore_n 2, 1) := by decide +kernel
theorem dX10_doesEntry_9 : decode cX10_doesEntry 9 = .ok (.iload_n 2, 1) := by decide +kernel
theorem dX10_doesEntry_10 : decode cX10_doesEntry 10 = .ok (.iconst (-1), 1) := by decide +kernel
theorem dX10_doesEntry_11 : decode cX10_doesEntry 11 = .ok (.if_icmp .ne 5, 3) := by decide +kernel
theorem dX10_doesEntry_14 : decode cX10_doesEntry 14 = .ok (.iconst 0, 1) := by decide +kernel
theorem dX10_doesEntry_15 : decode cX10_doesEntry 15 = .ok (.ireturn, 1) := by decide +kernel
theorem dX10_doesEntry_16 : decode cX10_doesEntry 16 = .ok (.iload_n 1, 1) := by decide +kernel
theorem dX10_doesEntry_17 : decode cX10_doesEntry 17 = .ok (.lookupswitch 139 #[(103, 95), (119, 35), (120, 65)], 35) := by decide +kernel
theorem dX10_doesEntry_52 : decode cX10_doesEntry 52 = .ok (.aload_n 0, 1) := by decide +kernel
theorem dX10_doesEntry_53 : decode cX10_doesEntry 53 = .ok (.iload_n 2, 1) := by decide +kernel
theorem dX10_doesEntry_54 : decode cX10_doesEntry 54 = .ok (.aload_n 0, 1) := by decide +kernel
theorem dX10_doesEntry_55 : decode cX10_doesEntry 55 = .ok (.getfield 282, 3) := by decide +kernel
theorem dX10_doesEntry_58 : decode cX10_doesEntry 58 = .ok (.invokevirtual 159, 3) := by decide +kernel
theorem dX10_doesEntry_61 : decode cX10_doesEntry 61 = .ok (.ifCond .ne 19, 3) := by decide +kernel
theorem dX10_doesEntry_64 : decode cX10_doesEntry 64 = .ok (.aload_n 0, 1) := by decide +kernel
theorem dX10_doesEntry_65 : decode cX10_doesEntry 65 = .ok (.iload_n 2, 1) := by decide +kernel
theorem dX10_doesEntry_66 : decode cX10_doesEntry 66 = .ok (.aload_n 0, 1) := by decide +kernel
theorem dX10_doesEntry_67 : decode cX10_doesEntry 67 = .ok (.getfield 282, 3) := by decide +kernel
theorem dX10_doesEntry_70 : decode cX10_doesEntry 70 = .ok (.invokevirtual 162, 3) := by decide +kernel
theorem dX10_doesEntry_73 : decode cX10_doesEntry 73 = .ok (.ifCond .lt 7, 3) := by decide +kernel
theorem dX10_doesEntry_76 : decode cX10_doesEntry 76 = .ok (.iconst 1, 1) := by decide +kernel
theorem dX10_doesEntry_77 : decode cX10_doesEntry 77 = .ok (.goto 4, 3) := by decide +kernel
theorem dX10_doesEntry_80 : decode cX10_doesEntry 80 = .ok (.iconst 0, 1) := by decide +kernel
theorem dX10_doesEntry_81 : decode cX10_doesEntry 81 = .ok (.ireturn, 1) := by decide +kernel
theorem dX10_doesEntry_82 : decode cX10_doesEntry 82 = .ok (.aload_n 0, 1) := by decide +kernel
theorem dX10_doesEntry_83 : decode cX10_doesEntry 83 = .ok (.iload_n 2, 1) := by decide +kernel
theorem dX10_doesEntry_84 : decode cX10_doesEntry 84 = .ok (.aload_n 0, 1) := by decide +kernel
theorem dX10_doesEntry_85 : decode cX10_doesEntry 85 = .ok (.getfield 282, 3) := by decide +kernel
theorem dX10_doesEntry_88 : decode cX10_doesEntry 88 = .ok (.invokevirtual 165, 3) := by decide +kernel
theorem dX10_doesEntry_91 : decode cX10_doesEntry 91 = .ok (.ifCond .ne 19, 3) := by decide +kernel
theorem dX10_doesEntry_94 : decode cX10_doesEntry 94 = .ok (.aload_n 0, 1) := by decide +kernel
theorem dX10_doesEntry_95 : decode cX10_doesEntry 95 = .ok (.iload_n 2, 1) := by decide +kernel
theorem dX10_doesEntry_96 : decode cX10_doesEntry 96 = .ok (.aload_n 0, 1) := by decide +kernel
theorem dX10_doesEntry_97 : decode cX10_doesEntry 97 = .ok (.getfield 282, 3) := by decide +kernel
theorem dX10_doesEntry_100 : decode cX10_doesEntry 100 = .ok (.invokevirtual 168, 3) := by decide +kernel
theorem dX10_doesEntry_103 : decode cX10_doesEntry 103 = .ok (.ifCond .lt 7, 3) := by decide +kernel
theorem dX10_doesEntry_106 : decode cX10_doesEntry 106 = .ok (.iconst 1, 1) := by decide +kernel
theorem dX10_doesEntry_107 : decode cX10_doesEntry 107 = .ok (.goto 4, 3) := by decide +kernel
theorem dX10_doesEntry_110 : decode cX10_doesEntry 110 = .ok (.iconst 0, 1) := by decide +kernel
theorem dX10_doesEntry_111 : decode cX10_doesEntry 111 = .ok (.ireturn, 1) := by decide +kernel
theorem dX10_doesEntry_112 : decode cX10_doesEntry 112 = .ok (.aload_n 0, 1) := by decide +kernel
theorem dX10_doesEntry_113 : decode cX10_doesEntry 113 = .ok (.getfield 282, 3) := by decide +kernel
theorem dX10_doesEntry_116 : decode cX10_doesEntry 116 = .ok (.aload_n 0, 1) := by decide +kernel
theorem dX10_doesEntry_117 : decode cX10_doesEntry 117 = .ok (.iload_n 2, 1) := by decide +kernel
theorem dX10_doesEntry_118 : decode cX10_doesEntry 118 = .ok (.iconst 2, 1) := by decide +kernel
theorem dX10_doesEntry_119 : decode cX10_doesEntry 119 = .ok (.invokevirtual 41, 3) := by decide +kernel
theorem dX10_doesEntry_122 : decode cX10_doesEntry 122 = .ok (.if_icmp .gt 32, 3) := by decide +kernel
theorem dX10_doesEntry_125 : decode cX10_doesEntry 125 = .ok (.aload_n 0, 1) := by decide +kernel
theorem dX10_doesEntry_126 : decode cX10_doesEntry 126 = .ok (.aload_n 0, 1) := by decide +kernel
theorem dX10_doesEntry_127 : decode cX10_doesEntry 127 = .ok (.iload_n 2, 1) := by decide +kernel
theorem dX10_doesEntry_128 : decode cX10_doesEntry 128 = .ok (.iconst 4, 1) := by decide +kernel
theorem dX10_doesEntry_129 : decode cX10_doesEntry 129 = .ok (.invokevirtual 41, 3) := by decide +kernel
theorem dX10_doesEntry_132 : decode cX10_doesEntry 132 = .ok (.invokevirtual 117, 3) := by decide +kernel
theorem dX10_doesEntry_135 : decode cX10_doesEntry 135 = .ok (.ifCond .ne 19, 3) := by decide +kernel
theorem dX10_doesEntry_138 : decode cX10_doesEntry 138 = .ok (.aload_n 0, 1) := by decide +kernel
theorem dX10_doesEntry_139 : decode cX10_doesEntry 139 = .ok (.iload_n 2, 1) := by decide +kernel
theorem dX10_doesEntry_140 : decode cX10_doesEntry 140 = .ok (.aload_n 0, 1) := by decide +kernel
theorem dX10_doesEntry_141 : decode cX10_doesEntry 141 = .ok (.getfield 282, 3) := by decide +kernel
theorem dX10_doesEntry_144 : decode cX10_doesEntry 144 = .ok (.invokevirtual 192, 3) := by decide +kernel
theorem dX10_doesEntry_147 : decode cX10_doesEntry 147 = .ok (.ifCond .lt 7, 3) := by decide +kernel
theorem dX10_doesEntry_150 : decode cX10_doesEntry 150 = .ok (.iconst 1, 1) := by decide +kernel
theorem dX10_doesEntry_151 : decode cX10_doesEntry 151 = .ok (.goto 4, 3) := by decide +kernel
theorem dX10_doesEntry_154 : decode cX10_doesEntry 154 = .ok (.iconst 0, 1) := by decide +kernel
theorem dX10_doesEntry_155 : decode cX10_doesEntry 155 = .ok (.ireturn, 1) := by decide +kernel
theorem dX10_doesEntry_156 : decode cX10_doesEntry 156 = .ok (.aload_n 0, 1) := by decide +kernel
theorem dX10_doesEntry_157 : decode cX10_doesEntry 157 = .ok (.iload_n 2, 1) := by decide +kernel
theorem dX10_doesEntry_158 : decode cX10_doesEntry 158 = .ok (.aload_n 0, 1) := by decide +kernel
theorem dX10_doesEntry_159 : decode cX10_doesEntry 159 = .ok (.getfield 282, 3) := by decide +kernel
theorem dX10_doesEntry_162 : decode cX10_doesEntry 162 = .ok (.invokevirtual 180, 3) := by decide +kernel
theorem dX10_doesEntry_165 : decode cX10_doesEntry 165 = .ok (.ifCond .ne 19, 3) := by decide +kernel
theorem dX10_doesEntry_168 : decode cX10_doesEntry 168 = .ok (.aload_n 0, 1) := by decide +kernel
theorem dX10_doesEntry_169 : decode cX10_doesEntry 169 = .ok (.iload_n 2, 1) := by decide +kernel
theorem dX10_doesEntry_170 : decode cX10_doesEntry 170 = .ok (.aload_n 0, 1) := by decide +kernel
theorem dX10_doesEntry_171 : decode cX10_doesEntry 171 = .ok (.getfield 282, 3) := by decide +kernel
theorem dX10_doesEntry_174 : decode cX10_doesEntry 174 = .ok (.invokevirtual 183, 3) := by decide +kernel
theorem dX10_doesEntry_177 : decode cX10_doesEntry 177 = .ok (.ifCond .lt 7, 3) := by decide +kernel
theorem dX10_doesEntry_180 : decode cX10_doesEntry 180 = .ok (.iconst 1, 1) := by decide +kernel
theorem dX10_doesEntry_181 : decode cX10_doesEntry 181 = .ok (.goto 4, 3) := by decide +kernel
theorem dX10_doesEntry_184 : decode cX10_doesEntry 184 = .ok (.iconst 0, 1) := by decide +kernel
theorem dX10_doesEntry_185 : decode cX10_doesEntry 185 = .ok (.ireturn, 1) := by decide +kernel
def w_X10_doesEntry (p0 : Int32) (mm : Mm) (Q9 : Int32 → Mm → Prop) : Prop :=
  w_X10_find (mm.1 30 1 11) mm (fun (r_1 : Int32) => ((¬ r_1 = (-1) → ((p0 = 103 → w_X10_of r_1 2 mm (fun (r_5 : Int32) => ((r_5 < (mm.1 30 1 12) → Q9 0 mm) ∧
  (¬ r_5 < (mm.1 30 1 12) → w_X10_of r_1 4 mm (fun (r_8 : Int32) => w_X10_isShut r_8 mm (fun (r_10 : Int32) => ((¬ r_10 = 0 → Q9 0 mm) ∧
  (r_10 = 0 → w_X10_weighOn r_1 (mm.1 30 1 12) mm (fun (r_13 : Int32) (m_14 : Mm) => ((r_13 < 0 → Q9 0 m_14) ∧
  (¬ r_13 < 0 → Q9 1 m_14))))))))))) ∧
  (p0 = 119 → w_X10_noWithdrawal r_1 (mm.1 30 1 12) mm (fun (r_16 : Int32) => ((¬ r_16 = 0 → Q9 0 mm) ∧
  (r_16 = 0 → w_X10_withdrawOn r_1 (mm.1 30 1 12) mm (fun (r_19 : Int32) (m_20 : Mm) => ((r_19 < 0 → Q9 0 m_20) ∧
  (¬ r_19 < 0 → Q9 1 m_20))))))) ∧
  (p0 = 120 → w_X10_noExport r_1 (mm.1 30 1 12) mm (fun (r_22 : Int32) => ((¬ r_22 = 0 → Q9 0 mm) ∧
  (r_22 = 0 → w_X10_sendOn r_1 (mm.1 30 1 12) mm (fun (r_25 : Int32) (m_26 : Mm) => ((r_25 < 0 → Q9 0 m_26) ∧
  (¬ r_25 < 0 → Q9 1 m_26))))))) ∧
  (¬ p0 = 103 → ¬ p0 = 119 → ¬ p0 = 120 → w_X10_noMove r_1 (mm.1 30 1 12) mm (fun (r_28 : Int32) => ((¬ r_28 = 0 → Q9 0 mm) ∧
  (r_28 = 0 → w_X10_moveOn r_1 (mm.1 30 1 12) mm (fun (r_31 : Int32) (m_32 : Mm) => ((r_31 < 0 → Q9 0 m_32) ∧
  (¬ r_31 < 0 → Q9 1 m_32))))))))) ∧
  (r_1 = (-1) → Q9 0 mm)))
def rm_X10_doesEntry : Room := { frames := 5, cells := 0, slots := 0, locals := 118 }
theorem hy_X10_doesEntry : yX10_doesEntry.cls = RX10 ∧ yX10_doesEntry.cls ≠ "java/lang/invoke/MethodHandle" ∧ yX10_doesEntry.cls ≠ "java/lang/invoke/VarHandle" ∧ (parseMethodDescriptor yX10_doesEntry.desc).map (fun d => d.parameters.length) = some 1 := by decide +kernel
set_option maxRecDepth 100000 in
set_option maxHeartbeats 4000000 in
theorem c_X10_doesEntry {l : Launch} {D : va_G} {cA : Nat → ClassId} {ad : Nat → Nat → Nat} {A : Nat → Prop} (ax : Ax ad GM A) (p0 : Int32) (mm : Mm) (Q9 : Int32 → Mm → Prop) (h : w_X10_doesEntry p0 mm Q9) : Met l yX10_doesEntry (.code yX10_doesEntry cX10_doesEntry 3 (some .boolean) :: TG) rm_X10_doesEntry (PcM TT D cA ad false GM (ZM) [.ref (ad 30 1), .int p0] mm) (AnsI TT D cA ad false GM A Q9) 0 0 A := by
  have zo := ZM_ok A
  unfold w_X10_doesEntry at h
  refine enterZ pl_X10 ⟨rfl, rfl⟩ rfl (Nat.le_of_ble_eq_true rfl) ?_
  intro p e s m args below meth c QQ X hK hZ hnm hE
  refine q_aload_n (j := 0) X dX10_doesEntry_0 rfl rfl ?_
  refine q_aload_n (j := 0) X dX10_doesEntry_1 rfl rfl ?_
  refine q_get (k := 11) (v := .int (mm.1 30 1 11)) X hK rfl rfl (Nat.le_of_ble_eq_true rfl) inTX10 (gm (t := 30) (by decide) (ok1 (t := 30) (Nat.le_of_ble_eq_true rfl))) kw_7_18 rfl rfl dX10_doesEntry_2 ?_
  refine q_calli (q_runV X hK hZ zo (gm (t := 30) (by decide) (ok1 (t := 30) (Nat.le_of_ble_eq_true rfl))) rfl rfl [.int (mm.1 30 1 11)] [] rfl rfl (Nat.le_of_ble_eq_true rfl) dX10_doesEntry_5 ⟨Nat.le_of_ble_eq_true rfl, Nat.le_of_ble_eq_true rfl⟩ (c_X10_find ax (mm.1 30 1 11) mm _ h) rfl rfl (gV kw_7_157 kw_7_159 ks_101 kw_1_11 kw_7_160) hy_X10_find ⟨Nat.le_of_ble_eq_true rfl, Nat.le_of_ble_eq_true rfl⟩) (fun r_1 m_2 h => ?_)
  obtain ⟨h, hm⟩ := h
  subst hm
  refine q_istore_n (lv' := [(2, .int r_1), (0, .ref (ad 30 1)), (1, .int p0)]) X dX10_doesEntry_8 rfl (by decide) rfl ?_
  refine q_iload_n (j := 0) X dX10_doesEntry_9 rfl rfl ?_
  refine q_iconst (v := (-1)) X dX10_doesEntry_10 (by decide) ?_
  refine q_icmp_ne (tgt := 16) X dX10_doesEntry_11 (by decide) (fun c_3 => ?_) (fun c_3 => ?_)
  · have h := h.1 c_3
    refine q_iload_n (j := 2) X dX10_doesEntry_16 rfl rfl ?_
    by_cases c_4 : p0 = 103
    · have h := h.1 c_4
      refine q_lookI (k := 103) (tgt := 112) X dX10_doesEntry_17 c_4 (by decide +kernel) (by decide +kernel) ?_
      refine q_aload_n (j := 1) X dX10_doesEntry_112 rfl rfl ?_
      refine q_get (k := 12) (v := .int (mm.1 30 1 12)) X hK rfl rfl (Nat.le_of_ble_eq_true rfl) inTX10 (gm (t := 30) (by decide) (ok1 (t := 30) (Nat.le_of_ble_eq_true rfl))) kw_7_19 rfl rfl dX10_doesEntry_113 ?_
      refine q_aload_n (j := 1) X dX10_doesEntry_116 rfl rfl ?_
      refine q_iload_n (j := 0) X dX10_doesEntry_117 rfl rfl ?_
      refine q_iconst (v := 2) X dX10_doesEntry_118 (by decide) ?_
      refine q_calli (q_runV X hK hZ zo (gm (t := 30) (by decide) (ok1 (t := 30) (Nat.le_of_ble_eq_true rfl))) rfl rfl [.int r_1, .int 2] [.int (mm.1 30 1 12)] rfl rfl (Nat.le_of_ble_eq_true rfl) dX10_doesEntry_119 ⟨Nat.le_of_ble_eq_true rfl, Nat.le_of_ble_eq_true rfl⟩ (c_X10_of ax r_1 2 mm _ h) rfl rfl (gV kw_7_95 kw_7_97 ks_88 kw_1_11 kw_7_98) hy_X10_of ⟨Nat.le_of_ble_eq_true rfl, Nat.le_of_ble_eq_true rfl⟩) (fun r_5 m_6 h => ?_)
      obtain ⟨h, hm⟩ := h
      subst hm
      refine q_icmp_gt (tgt := 154) X dX10_doesEntry_122 (by decide) (fun c_7 => ?_) (fun c_7 => ?_)
      · have h := h.1 c_7
        refine q_iconst (v := 0) X dX10_doesEntry_154 (by decide) ?_
        exact hE _ _ _ _ dX10_doesEntry_155 (Or.inl rfl) h
      · have h := h.2 c_7
        refine q_aload_n (j := 1) X dX10_doesEntry_125 rfl rfl ?_
        refine q_aload_n (j := 1) X dX10_doesEntry_126 rfl rfl ?_
        refine q_iload_n (j := 0) X dX10_doesEntry_127 rfl rfl ?_
        refine q_iconst (v := 4) X dX10_doesEntry_128 (by decide) ?_
        refine q_calli (q_runV X hK hZ zo (gm (t := 30) (by decide) (ok1 (t := 30) (Nat.le_of_ble_eq_true rfl))) rfl rfl [.int r_1, .int 4] [.ref (ad 30 1)] rfl rfl (Nat.le_of_ble_eq_true rfl) dX10_doesEntry_129 ⟨Nat.le_of_ble_eq_true rfl, Nat.le_of_ble_eq_true rfl⟩ (c_X10_of ax r_1 4 mm _ h) rfl rfl (gV kw_7_95 kw_7_97 ks_88 kw_1_11 kw_7_98) hy_X10_of ⟨Nat.le_of_ble_eq_true rfl, Nat.le_of_ble_eq_true rfl⟩) (fun r_8 m_9 h => ?_)
        obtain ⟨h, hm⟩ := h
        subst hm
        refine q_calli (q_runV X hK hZ zo (gm (t := 30) (by decide) (ok1 (t := 30) (Nat.le_of_ble_eq_true rfl))) rfl rfl [.int r_8] [] rfl rfl (Nat.le_of_ble_eq_true rfl) dX10_doesEntry_132 ⟨Nat.le_of_ble_eq_true rfl, Nat.le_of_ble_eq_true rfl⟩ (c_X10_isShut ax r_8 mm _ h) rfl rfl (gV kw_7_87 kw_7_89 ks_86 kw_1_11 kw_7_90) hy_X10_isShut ⟨Nat.le_of_ble_eq_true rfl, Nat.le_of_ble_eq_true rfl⟩) (fun r_10 m_11 h => ?_)
        obtain ⟨h, hm⟩ := h
        subst hm
        refine q_if_ne (tgt := 154) X dX10_doesEntry_135 (by decide) (fun c_12 => ?_) (fun c_12 => ?_)
        · have h := h.1 c_12
          refine q_iconst (v := 0) X dX10_doesEntry_154 (by decide) ?_
          exact hE _ _ _ _ dX10_doesEntry_155 (Or.inl rfl) h
        · have h := h.2 c_12
          refine q_aload_n (j := 1) X dX10_doesEntry_138 rfl rfl ?_
          refine q_iload_n (j := 0) X dX10_doesEntry_139 rfl rfl ?_
          refine q_aload_n (j := 1) X dX10_doesEntry_140 rfl rfl ?_
          refine q_get (k := 12) (v := .int (mm.1 30 1 12)) X hK rfl rfl (Nat.le_of_ble_eq_true rfl) inTX10 (gm (t := 30) (by decide) (ok1 (t := 30) (Nat.le_of_ble_eq_true rfl))) kw_7_19 rfl rfl dX10_doesEntry_141 ?_
          refine q_calli (q_runV X hK hZ zo (gm (t := 30) (by decide) (ok1 (t := 30) (Nat.le_of_ble_eq_true rfl))) rfl rfl [.int r_1, .int (mm.1 30 1 12)] [] rfl rfl (Nat.le_of_ble_eq_true rfl) dX10_doesEntry_144 ⟨Nat.le_of_ble_eq_true rfl, Nat.le_of_ble_eq_true rfl⟩ (c_X10_weighOn ax r_1 (mm.1 30 1 12) mm _ h) rfl rfl (gV kw_8_10 kw_8_12 ks_118 kw_1_11 kw_8_13) hy_X10_weighOn ⟨Nat.le_of_ble_eq_true rfl, Nat.le_of_ble_eq_true rfl⟩) (fun r_13 m_14 h => ?_)
          refine q_if_lt (tgt := 154) X dX10_doesEntry_147 (by decide) (fun c_15 => ?_) (fun c_15 => ?_)
          · have h := h.1 c_15
            refine q_iconst (v := 0) X dX10_doesEntry_154 (by decide) ?_
            exact hE _ _ _ _ dX10_doesEntry_155 (Or.inl rfl) h
          · have h := h.2 c_15
            refine q_iconst (v := 1) X dX10_doesEntry_150 (by decide) ?_
            refine q_goto (tgt := 155) X dX10_doesEntry_151 (by decide) ?_
            exact hE _ _ _ _ dX10_doesEntry_155 (Or.inr rfl) h
    have h := h.2
    have nc_4_103 := c_4
    by_cases c_4 : p0 = 119
    · have h := h.1 c_4
      refine q_lookI (k := 119) (tgt := 52) X dX10_doesEntry_17 c_4 (by decide +kernel) (by decide +kernel) ?_
      refine q_aload_n (j := 1) X dX10_doesEntry_52 rfl rfl ?_
      refine q_iload_n (j := 0) X dX10_doesEntry_53 rfl rfl ?_
      refine q_aload_n (j := 1) X dX10_doesEntry_54 rfl rfl ?_
      refine q_get (k := 12) (v := .int (mm.1 30 1 12)) X hK rfl rfl (Nat.le_of_ble_eq_true rfl) inTX10 (gm (t := 30) (by decide) (ok1 (t := 30) (Nat.le_of_ble_eq_true rfl))) kw_7_19 rfl rfl dX10_doesEntry_55 ?_
      refine q_calli (q_runV X hK hZ zo (gm (t := 30) (by decide) (ok1 (t := 30) (Nat.le_of_ble_eq_true rfl))) rfl rfl [.int r_1, .int (mm.1 30 1 12)] [] rfl rfl (Nat.le_of_ble_eq_true rfl) dX10_doesEntry_58 ⟨Nat.le_of_ble_eq_true rfl, Nat.le_of_ble_eq_true rfl⟩ (c_X10_noWithdrawal ax r_1 (mm.1 30 1 12) mm _ h) rfl rfl (gV kw_7_161 kw_7_163 ks_102 kw_1_11 kw_7_164) hy_X10_noWithdrawal ⟨Nat.le_of_ble_eq_true rfl, Nat.le_of_ble_eq_true rfl⟩) (fun r_16 m_17 h => ?_)
      obtain ⟨h, hm⟩ := h
      subst hm
      refine q_if_ne (tgt := 80) X dX10_doesEntry_61 (by decide) (fun c_18 => ?_) (fun c_18 => ?_)
      · have h := h.1 c_18
        refine q_iconst (v := 0) X dX10_doesEntry_80 (by decide) ?_
        exact hE _ _ _ _ dX10_doesEntry_81 (Or.inl rfl) h
      · have h := h.2 c_18
        refine q_aload_n (j := 1) X dX10_doesEntry_64 rfl rfl ?_
        refine q_iload_n (j := 0) X dX10_doesEntry_65 rfl rfl ?_
        refine q_aload_n (j := 1) X dX10_doesEntry_66 rfl rfl ?_
        refine q_get (k := 12) (v := .int (mm.1 30 1 12)) X hK rfl rfl (Nat.le_of_ble_eq_true rfl) inTX10 (gm (t := 30) (by decide) (ok1 (t := 30) (Nat.le_of_ble_eq_true rfl))) kw_7_19 rfl rfl dX10_doesEntry_67 ?_
        refine q_calli (q_runV X hK hZ zo (gm (t := 30) (by decide) (ok1 (t := 30) (Nat.le_of_ble_eq_true rfl))) rfl rfl [.int r_1, .int (mm.1 30 1 12)] [] rfl rfl (Nat.le_of_ble_eq_true rfl) dX10_doesEntry_70 ⟨Nat.le_of_ble_eq_true rfl, Nat.le_of_ble_eq_true rfl⟩ (c_X10_withdrawOn ax r_1 (mm.1 30 1 12) mm _ h) rfl rfl (gV kw_7_169 kw_7_171 ks_104 kw_1_11 kw_7_172) hy_X10_withdrawOn ⟨Nat.le_of_ble_eq_true rfl, Nat.le_of_ble_eq_true rfl⟩) (fun r_19 m_20 h => ?_)
        refine q_if_lt (tgt := 80) X dX10_doesEntry_73 (by decide) (fun c_21 => ?_) (fun c_21 => ?_)
        · have h := h.1 c_21
          refine q_iconst (v := 0) X dX10_doesEntry_80 (by decide) ?_
          exact hE _ _ _ _ dX10_doesEntry_81 (Or.inl rfl) h
        · have h := h.2 c_21
          refine q_iconst (v := 1) X dX10_doesEntry_76 (by decide) ?_
          refine q_goto (tgt := 81) X dX10_doesEntry_77 (by decide) ?_
          exact hE _ _ _ _ dX10_doesEntry_81 (Or.inr rfl) h
    have h := h.2
    have nc_4_119 := c_4
    by_cases c_4 : p0 = 120
    · have h := h.1 c_4
      refine q_lookI (k := 120) (tgt := 82) X dX10_doesEntry_17 c_4 (by decide +kernel) (by decide +kernel) ?_
      refine q_aload_n (j := 1) X dX10_doesEntry_82 rfl rfl ?_
      refine q_iload_n (j := 0) X dX10_doesEntry_83 rfl rfl ?_
      refine q_aload_n (j := 1) X dX10_doesEntry_84 rfl rfl ?_
      refine q_get (k := 12) (v := .int (mm.1 30 1 12)) X hK rfl rfl (Nat.le_of_ble_eq_true rfl) inTX10 (gm (t := 30) (by decide) (ok1 (t := 30) (Nat.le_of_ble_eq_true rfl))) kw_7_19 rfl rfl dX10_doesEntry_85 ?_
      refine q_calli (q_runV X hK hZ zo (gm (t := 30) (by decide) (ok1 (t := 30) (Nat.le_of_ble_eq_true rfl))) rfl rfl [.int r_1, .int (mm.1 30 1 12)] [] rfl rfl (Nat.le_of_ble_eq_true rfl) dX10_doesEntry_88 ⟨Nat.le_of_ble_eq_true rfl, Nat.le_of_ble_eq_true rfl⟩ (c_X10_noExport ax r_1 (mm.1 30 1 12) mm _ h) rfl rfl (gV kw_7_189 kw_7_191 ks_108 kw_1_11 kw_7_192) hy_X10_noExport ⟨Nat.le_of_ble_eq_true rfl, Nat.le_of_ble_eq_true rfl⟩) (fun r_22 m_23 h => ?_)
      obtain ⟨h, hm⟩ := h
      subst hm
      refine q_if_ne (tgt := 110) X dX10_doesEntry_91 (by decide) (fun c_24 => ?_) (fun c_24 => ?_)
      · have h := h.1 c_24
        refine q_iconst (v := 0) X dX10_doesEntry_110 (by decide) ?_
        exact hE _ _ _ _ dX10_doesEntry_111 (Or.inl rfl) h
      · have h := h.2 c_24
        refine q_aload_n (j := 1) X dX10_doesEntry_94 rfl rfl ?_
        refine q_iload_n (j := 0) X dX10_doesEntry_95 rfl rfl ?_
        refine q_aload_n (j := 1) X dX10_doesEntry_96 rfl rfl ?_
        refine q_get (k := 12) (v := .int (mm.1 30 1 12)) X hK rfl rfl (Nat.le_of_ble_eq_true rfl) inTX10 (gm (t := 30) (by decide) (ok1 (t := 30) (Nat.le_of_ble_eq_true rfl))) kw_7_19 rfl rfl dX10_doesEntry_97 ?_
        refine q_calli (q_runV X hK hZ zo (gm (t := 30) (by decide) (ok1 (t := 30) (Nat.le_of_ble_eq_true rfl))) rfl rfl [.int r_1, .int (mm.1 30 1 12)] [] rfl rfl (Nat.le_of_ble_eq_true rfl) dX10_doesEntry_100 ⟨Nat.le_of_ble_eq_true rfl, Nat.le_of_ble_eq_true rfl⟩ (c_X10_sendOn ax r_1 (mm.1 30 1 12) mm _ h) rfl rfl (gV kw_7_193 kw_7_195 ks_109 kw_1_11 kw_7_196) hy_X10_sendOn ⟨Nat.le_of_ble_eq_true rfl, Nat.le_of_ble_eq_true rfl⟩) (fun r_25 m_26 h => ?_)
        refine q_if_lt (tgt := 110) X dX10_doesEntry_103 (by decide) (fun c_27 => ?_) (fun c_27 => ?_)
        · have h := h.1 c_27
          refine q_iconst (v := 0) X dX10_doesEntry_110 (by decide) ?_
          exact hE _ _ _ _ dX10_doesEntry_111 (Or.inl rfl) h
        · have h := h.2 c_27
          refine q_iconst (v := 1) X dX10_doesEntry_106 (by decide) ?_
          refine q_goto (tgt := 111) X dX10_doesEntry_107 (by decide) ?_
          exact hE _ _ _ _ dX10_doesEntry_111 (Or.inr rfl) h
    have h := h.2
    have nc_4_120 := c_4
    have h := h nc_4_103 nc_4_119 nc_4_120
    refine q_lookD (ks := [103, 119, 120]) (tgt := 156) X dX10_doesEntry_17 (by intro k hk; simp only [List.mem_cons, List.not_mem_nil, or_false] at hk; rcases hk with rfl | rfl | rfl <;> assumption) (by decide +kernel) (by decide +kernel) (by decide) ?_
    refine q_aload_n (j := 1) X dX10_doesEntry_156 rfl rfl ?_
    refine q_iload_n (j := 0) X dX10_doesEntry_157 rfl rfl ?_
    refine q_aload_n (j := 1) X dX10_doesEntry_158 rfl rfl ?_
    refine q_get (k := 12) (v := .int (mm.1 30 1 12)) X hK rfl rfl (Nat.le_of_ble_eq_true rfl) inTX10 (gm (t := 30) (by decide) (ok1 (t := 30) (Nat.le_of_ble_eq_true rfl))) kw_7_19 rfl rfl dX10_doesEntry_159 ?_
    refine q_calli (q_runV X hK hZ zo (gm (t := 30) (by decide) (ok1 (t := 30) (Nat.le_of_ble_eq_true rfl))) rfl rfl [.int r_1, .int (mm.1 30 1 12)] [] rfl rfl (Nat.le_of_ble_eq_true rfl) dX10_doesEntry_162 ⟨Nat.le_of_ble_eq_true rfl, Nat.le_of_ble_eq_true rfl⟩ (c_X10_noMove ax r_1 (mm.1 30 1 12) mm _ h) rfl rfl (gV kw_7_225 kw_7_227 ks_115 kw_1_11 kw_7_228) hy_X10_noMove ⟨Nat.le_of_ble_eq_true rfl, Nat.le_of_ble_eq_true rfl⟩) (fun r_28 m_29 h => ?_)
    obtain ⟨h, hm⟩ := h
    subst hm
    refine q_if_ne (tgt := 184) X dX10_doesEntry_165 (by decide) (fun c_30 => ?_) (fun c_30 => ?_)
    · have h := h.1 c_30
      refine q_iconst (v := 0) X dX10_doesEntry_184 (by decide) ?_
      exact hE _ _ _ _ dX10_doesEntry_185 (Or.inl rfl) h
    · have h := h.2 c_30
      refine q_aload_n (j := 1) X dX10_doesEntry_168 rfl rfl ?_
      refine q_iload_n (j := 0) X dX10_doesEntry_169 rfl rfl ?_
      refine q_aload_n (j := 1) X dX10_doesEntry_170 rfl rfl ?_
      refine q_get (k := 12) (v := .int (mm.1 30 1 12)) X hK rfl rfl (Nat.le_of_ble_eq_true rfl) inTX10 (gm (t := 30) (by decide) (ok1 (t := 30) (Nat.le_of_ble_eq_true rfl))) kw_7_19 rfl rfl dX10_doesEntry_171 ?_
      refine q_calli (q_runV X hK hZ zo (gm (t := 30) (by decide) (ok1 (t := 30) (Nat.le_of_ble_eq_true rfl))) rfl rfl [.int r_1, .int (mm.1 30 1 12)] [] rfl rfl (Nat.le_of_ble_eq_true rfl) dX10_doesEntry_174 ⟨Nat.le_of_ble_eq_true rfl, Nat.le_of_ble_eq_true rfl⟩ (c_X10_moveOn ax r_1 (mm.1 30 1 12) mm _ h) rfl rfl (gV kw_7_229 kw_7_231 ks_116 kw_1_11 kw_7_232) hy_X10_moveOn ⟨Nat.le_of_ble_eq_true rfl, Nat.le_of_ble_eq_true rfl⟩) (fun r_31 m_32 h => ?_)
      refine q_if_lt (tgt := 184) X dX10_doesEntry_177 (by decide) (fun c_33 => ?_) (fun c_33 => ?_)
      · have h := h.1 c_33
        refine q_iconst (v := 0) X dX10_doesEntry_184 (by decide) ?_
        exact hE _ _ _ _ dX10_doesEntry_185 (Or.inl rfl) h
      · have h := h.2 c_33
        refine q_iconst (v := 1) X dX10_doesEntry_180 (by decide) ?_
        refine q_goto (tgt := 185) X dX10_doesEntry_181 (by decide) ?_
        exact hE _ _ _ _ dX10_doesEntry_185 (Or.inr rfl) h
  · have h := h.2 c_3
    refine q_iconst (v := 0) X dX10_doesEntry_14 (by decide) ?_
    exact hE _ _ _ _ dX10_doesEntry_15 (Or.inl rfl) h
