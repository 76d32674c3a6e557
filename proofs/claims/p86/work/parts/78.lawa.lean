theorem kw_3_88 : Jvm.Cond.methodLink "BondWarehouseLaw" (393 : Nat) ({ cls := "BondWarehouseLaw", name := "call", desc := "(LBondWarehouse;IIII)I" } : Jvm.MethodName) ∈ TG := tg_3 88 rfl rfl
theorem kw_3_89 : Jvm.Cond.static ({ cls := "BondWarehouseLaw", name := "call", desc := "(LBondWarehouse;IIII)I" } : Jvm.MethodName) ∈ TG := tg_3 89 rfl rfl
theorem kw_3_90 : Jvm.Cond.code ({ cls := "BondWarehouseLaw", name := "call", desc := "(LBondWarehouse;IIII)I" } : Jvm.MethodName) method_64_code (5 : Nat) (Option.some Jvm.ClassFile.FieldType.int) ∈ TG := tg_3 90 rfl rfl
theorem kw_7_10 : Jvm.Cond.methodLink "BondWarehouseLaw" (480 : Nat) ({ cls := "BondWarehouseLaw", name := "thrown", desc := "(I)Z" } : Jvm.MethodName) ∈ TG := tg_7 10 rfl rfl
theorem kw_7_11 : Jvm.Cond.static ({ cls := "BondWarehouseLaw", name := "thrown", desc := "(I)Z" } : Jvm.MethodName) ∈ TG := tg_7 11 rfl rfl
theorem kw_7_12 : Jvm.Cond.code ({ cls := "BondWarehouseLaw", name := "thrown", desc := "(I)Z" } : Jvm.MethodName) method_66_code (1 : Nat) (Option.some Jvm.ClassFile.FieldType.boolean) ∈ TG := tg_7 12 rfl rfl
theorem kw_6_130 : Jvm.Cond.methodLink "BondWarehouseLaw" (397 : Nat) ({ cls := "BondWarehouse", name := "entries", desc := "()I" } : Jvm.MethodName) ∈ TG := tg_6 130 rfl rfl
theorem kw_6_131 : Jvm.Cond.instanceMethod ({ cls := "BondWarehouse", name := "entries", desc := "()I" } : Jvm.MethodName) ∈ TG := tg_6 131 rfl rfl
theorem kw_6_132 : Jvm.Cond.selects "BondWarehouse" ({ cls := "BondWarehouse", name := "entries", desc := "()I" } : Jvm.MethodName) ({ cls := "BondWarehouse", name := "entries", desc := "()I" } : Jvm.MethodName) ∈ TG := tg_6 132 rfl rfl
theorem kw_6_133 : Jvm.Cond.code ({ cls := "BondWarehouse", name := "entries", desc := "()I" } : Jvm.MethodName) prog_1_method_19_code (1 : Nat) (Option.some Jvm.ClassFile.FieldType.int) ∈ TG := tg_6 133 rfl rfl
theorem kw_2_140 : Jvm.Cond.methodLink "BondWarehouseLaw" (390 : Nat) ({ cls := "BondWarehouseLaw", name := "enter", desc := "(LBondWarehouse;IIII)I" } : Jvm.MethodName) ∈ TG := tg_2 140 rfl rfl
theorem kw_2_141 : Jvm.Cond.static ({ cls := "BondWarehouseLaw", name := "enter", desc := "(LBondWarehouse;IIII)I" } : Jvm.MethodName) ∈ TG := tg_2 141 rfl rfl
theorem kw_2_142 : Jvm.Cond.codeWith ({ cls := "BondWarehouseLaw", name := "enter", desc := "(LBondWarehouse;IIII)I" } : Jvm.MethodName) method_2_code (6 : Nat) (Option.some Jvm.ClassFile.FieldType.int) [((0 : Nat), (9 : Nat), (10 : Nat), (13 : Nat)), ((0 : Nat), (9 : Nat), (15 : Nat), (16 : Nat))] ∈ TG := tg_2 142 rfl rfl
theorem kw_6_129 : Jvm.Cond.constant "BondWarehouseLaw" (396 : Nat) (50001 : Int32) ∈ TG := tg_6 129 rfl rfl
theorem dL_thrown_0 : decode cL_thrown 0 = .ok (.iload_n 0, 1) := by decide +kernel
theorem dL_thrown_1 : decode cL_thrown 1 = .ok (.ldc 28, 2) := by decide +kernel
theorem dL_thrown_3 : decode cL_thrown 3 = .ok (.if_icmp .eq 15, 3) := by decide +kernel
theorem dL_thrown_6 : decode cL_thrown 6 = .ok (.iload_n 0, 1) := by decide +kernel
theorem dL_thrown_7 : decode cL_thrown 7 = .ok (.ldc 15, 2) := by decide +kernel
theorem dL_thrown_9 : decode cL_thrown 9 = .ok (.if_icmp .eq 9, 3) := by decide +kernel
theorem dL_thrown_12 : decode cL_thrown 12 = .ok (.iload_n 0, 1) := by decide +kernel
theorem dL_thrown_13 : decode cL_thrown 13 = .ok (.ldc 18, 2) := by decide +kernel
theorem dL_thrown_15 : decode cL_thrown 15 = .ok (.if_icmp .ne 7, 3) := by decide +kernel
theorem dL_thrown_18 : decode cL_thrown 18 = .ok (.iconst 1, 1) := by decide +kernel
theorem dL_thrown_19 : decode cL_thrown 19 = .ok (.goto 4, 3) := by decide +kernel
theorem dL_thrown_22 : decode cL_thrown 22 = .ok (.iconst 0, 1) := by decide +kernel
theorem dL_thrown_23 : decode cL_thrown 23 = .ok (.ireturn, 1) := by decide +kernel
def w_L_thrown (p0 : Int32) (g : Gh) (Q9 : Int32 → Gh → Prop) : Prop :=
  ((p0 = -9999001 → Q9 1 g) ∧
  (¬ p0 = -9999001 → ((p0 = -9999002 → Q9 1 g) ∧
  (¬ p0 = -9999002 → ((¬ p0 = -9999003 → Q9 0 g) ∧
  (p0 = -9999003 → Q9 1 g))))))
def rm_L_thrown : Room := { frames := 0, cells := 0, slots := 0, locals := 0 }
theorem hy_L_thrown : yL_thrown.cls = RL ∧ yL_thrown.cls ≠ "java/lang/invoke/MethodHandle" ∧ yL_thrown.cls ≠ "java/lang/invoke/VarHandle" ∧ (parseMethodDescriptor yL_thrown.desc).map (fun d => d.parameters.length) = some 1 := by decide +kernel
set_option maxRecDepth 100000 in
set_option maxHeartbeats 4000000 in
theorem c_L_thrown {l : Launch} {D : va_G} {cA : Nat → ClassId} {ad : Bool → Nat → Nat → Nat} {A : Bool → Nat → Prop} (ha : AG ad A) (hst : l.stackTraces = false) (p0 : Int32) (g : Gh) (Q9 : Int32 → Gh → Prop) (h : w_L_thrown p0 g Q9) : Met l yL_thrown (.code yL_thrown cL_thrown 1 (some .boolean) :: TG) rm_L_thrown (PcG D cA ad A [.int p0] g) (QcG D cA ad A Q9) 0 0 (AU A) := by
  unfold w_L_thrown at h
  refine enterGZ pl_L rfl (Nat.le_of_ble_eq_true rfl) ?_
  intro p e s m args below meth c QQ X hW hZ hE
  refine q_iload_n (j := 0) X dL_thrown_0 rfl rfl ?_
  refine q_ldc (v := -9999001) X kw_3_145 dL_thrown_1 ?_
  refine q_icmp_eq (tgt := 18) X dL_thrown_3 (by decide) (fun c_1 => ?_) (fun c_1 => ?_)
  · have h := h.1 c_1
    refine q_iconst (v := 1) X dL_thrown_18 (by decide) ?_
    refine q_goto (tgt := 23) X dL_thrown_19 (by decide) ?_
    exact hE _ _ _ _ _ _ dL_thrown_23 (by omega) (by omega) (Or.inr rfl) h
  · have h := h.2 c_1
    refine q_iload_n (j := 0) X dL_thrown_6 rfl rfl ?_
    refine q_ldc (v := -9999002) X kw_3_86 dL_thrown_7 ?_
    refine q_icmp_eq (tgt := 18) X dL_thrown_9 (by decide) (fun c_2 => ?_) (fun c_2 => ?_)
    · have h := h.1 c_2
      refine q_iconst (v := 1) X dL_thrown_18 (by decide) ?_
      refine q_goto (tgt := 23) X dL_thrown_19 (by decide) ?_
      exact hE _ _ _ _ _ _ dL_thrown_23 (by omega) (by omega) (Or.inr rfl) h
    · have h := h.2 c_2
      refine q_iload_n (j := 0) X dL_thrown_12 rfl rfl ?_
      refine q_ldc (v := -9999003) X kw_3_87 dL_thrown_13 ?_
      refine q_icmp_ne (tgt := 22) X dL_thrown_15 (by decide) (fun c_3 => ?_) (fun c_3 => ?_)
      · have h := h.1 c_3
        refine q_iconst (v := 0) X dL_thrown_22 (by decide) ?_
        exact hE _ _ _ _ _ _ dL_thrown_23 (by omega) (by omega) (Or.inl rfl) h
      · have h := h.2 c_3
        refine q_iconst (v := 1) X dL_thrown_18 (by decide) ?_
        refine q_goto (tgt := 23) X dL_thrown_19 (by decide) ?_
        exact hE _ _ _ _ _ _ dL_thrown_23 (by omega) (by omega) (Or.inr rfl) h
theorem dL_undoes_0 : decode cL_undoes 0 = .ok (.iconst 1, 1) := by decide +kernel
theorem dL_undoes_1 : decode cL_undoes 1 = .ok (.istore_n 3, 1) := by decide +kernel
theorem dL_undoes_2 : decode cL_undoes 2 = .ok (.iconst 0, 1) := by decide +kernel
theorem dL_undoes_3 : decode cL_undoes 3 = .ok (.istore 4, 2) := by decide +kernel
theorem dL_undoes_5 : decode cL_undoes 5 = .ok (.iload 4, 2) := by decide +kernel
theorem dL_undoes_7 : decode cL_undoes 7 = .ok (.iload_n 2, 1) := by decide +kernel
theorem dL_undoes_8 : decode cL_undoes 8 = .ok (.if_icmp .ge 49, 3) := by decide +kernel
theorem dL_undoes_11 : decode cL_undoes 11 = .ok (.iload_n 3, 1) := by decide +kernel
theorem dL_undoes_12 : decode cL_undoes 12 = .ok (.ifCond .eq 45, 3) := by decide +kernel
theorem dL_undoes_15 : decode cL_undoes 15 = .ok (.aload_n 0, 1) := by decide +kernel
theorem dL_undoes_16 : decode cL_undoes 16 = .ok (.bipush 53, 2) := by decide +kernel
theorem dL_undoes_18 : decode cL_undoes 18 = .ok (.iconst 0, 1) := by decide +kernel
theorem dL_undoes_19 : decode cL_undoes 19 = .ok (.iconst 0, 1) := by decide +kernel
theorem dL_undoes_20 : decode cL_undoes 20 = .ok (.iconst 0, 1) := by decide +kernel
theorem dL_undoes_21 : decode cL_undoes 21 = .ok (.invokestatic 393, 3) := by decide +kernel
theorem dL_undoes_24 : decode cL_undoes 24 = .ok (.invokestatic 480, 3) := by decide +kernel
theorem dL_undoes_27 : decode cL_undoes 27 = .ok (.ifCond .ne 22, 3) := by decide +kernel
theorem dL_undoes_30 : decode cL_undoes 30 = .ok (.aload_n 1, 1) := by decide +kernel
theorem dL_undoes_31 : decode cL_undoes 31 = .ok (.bipush 53, 2) := by decide +kernel
theorem dL_undoes_33 : decode cL_undoes 33 = .ok (.iconst 0, 1) := by decide +kernel
theorem dL_undoes_34 : decode cL_undoes 34 = .ok (.iconst 0, 1) := by decide +kernel
theorem dL_undoes_35 : decode cL_undoes 35 = .ok (.iconst 0, 1) := by decide +kernel
theorem dL_undoes_36 : decode cL_undoes 36 = .ok (.invokestatic 393, 3) := by decide +kernel
theorem dL_undoes_39 : decode cL_undoes 39 = .ok (.invokestatic 480, 3) := by decide +kernel
theorem dL_undoes_42 : decode cL_undoes 42 = .ok (.ifCond .ne 7, 3) := by decide +kernel
theorem dL_undoes_45 : decode cL_undoes 45 = .ok (.iconst 1, 1) := by decide +kernel
theorem dL_undoes_46 : decode cL_undoes 46 = .ok (.goto 4, 3) := by decide +kernel
theorem dL_undoes_49 : decode cL_undoes 49 = .ok (.iconst 0, 1) := by decide +kernel
theorem dL_undoes_50 : decode cL_undoes 50 = .ok (.istore_n 3, 1) := by decide +kernel
theorem dL_undoes_51 : decode cL_undoes 51 = .ok (.iinc 4 1, 3) := by decide +kernel
theorem dL_undoes_54 : decode cL_undoes 54 = .ok (.goto (-49), 3) := by decide +kernel
theorem dL_undoes_57 : decode cL_undoes 57 = .ok (.iload_n 3, 1) := by decide +kernel
theorem dL_undoes_58 : decode cL_undoes 58 = .ok (.ireturn, 1) := by decide +kernel
def w_L_undoes_B5 (o : Bool) (q : Bool) (p2 : Int32) (Q9 : Int32 → Gh → Prop) (K_5 : Int32 → Int32 → Gh → Prop) (y_2 : Int32) (y_3 : Int32) (m_4 : Gh) : Prop :=
  ((p2 ≤ y_3 → isB y_2 ∧ Q9 y_2 m_4) ∧
  (¬ p2 ≤ y_3 → ((y_2 = 0 → isB y_2 ∧ Q9 y_2 m_4) ∧
  (¬ y_2 = 0 → m_4.2 + 1 ≤ 2400 ∧ ∀ r_11 : Int32, r_11 = (z_tryUndo (m_4.1 o)).1 → ∀ g_13 : Gh, g_13 = gz m_4 o (z_tryUndo (m_4.1 o)).2 → GI g_13 → (w_L_thrown r_11 g_13 (fun (r_14 : Int32) (g_15 : Gh) => ((¬ r_14 = 0 → ∀ x_17 : Int32, x_17 = y_3 + 1 → (K_5 0 x_17 g_15)) ∧
  (r_14 = 0 → g_15.2 + 1 ≤ 2400 ∧ ∀ r_18 : Int32, r_18 = (z_tryUndo (g_15.1 q)).1 → ∀ g_20 : Gh, g_20 = gz g_15 q (z_tryUndo (g_15.1 q)).2 → GI g_20 → (w_L_thrown r_18 g_20 (fun (r_21 : Int32) (g_22 : Gh) => ((¬ r_21 = 0 → ∀ x_24 : Int32, x_24 = y_3 + 1 → (K_5 0 x_24 g_22)) ∧
  (r_21 = 0 → ∀ x_25 : Int32, x_25 = y_3 + 1 → (K_5 1 x_25 g_22)))))))))))))
def w_L_undoes (o : Bool) (q : Bool) (p2 : Int32) (g : Gh) (Q9 : Int32 → Gh → Prop) : Prop :=
  itr (α := Int32 × Int32 × Gh) (fun K a => w_L_undoes_B5 o q p2 Q9 (fun z0 z1 z2 => K (z0, z1, z2)) a.1 a.2.1 a.2.2) 3 (1, 0, g)
def rm_L_undoes : Room := { frames := 11, cells := 12, slots := 72, locals := 207 }
theorem hy_L_undoes : yL_undoes.cls = RL ∧ yL_undoes.cls ≠ "java/lang/invoke/MethodHandle" ∧ yL_undoes.cls ≠ "java/lang/invoke/VarHandle" ∧ (parseMethodDescriptor yL_undoes.desc).map (fun d => d.parameters.length) = some 3 := by decide +kernel
set_option maxRecDepth 100000 in
set_option maxHeartbeats 4000000 in
theorem c_L_undoes {l : Launch} {D : va_G} {cA : Nat → ClassId} {ad : Bool → Nat → Nat → Nat} {A : Bool → Nat → Prop} (ha : AG ad A) (hst : l.stackTraces = false) (o : Bool) (q : Bool) (p2 : Int32) (g : Gh) (Q9 : Int32 → Gh → Prop) (h : w_L_undoes o q p2 g Q9) : Met l yL_undoes (.code yL_undoes cL_undoes 5 (some .boolean) :: TG) rm_L_undoes (PcG D cA ad A [.ref (ad o 0 1), .ref (ad q 0 1), .int p2] g) (QcG D cA ad A Q9) 12 72 (AU A) := by
  unfold w_L_undoes at h
  refine enterGZ pl_L rfl (Nat.le_of_ble_eq_true rfl) ?_
  intro p e s m args below meth c QQ X hW hZ hE
  refine q_iconst (v := 1) X dL_undoes_0 (by decide) ?_
  refine q_istore_n (lv' := [(3, .int 1), (0, .ref (ad o 0 1)), (1, .ref (ad q 0 1)), (2, .int p2)]) X dL_undoes_1 rfl (by decide) rfl ?_
  refine q_iconst (v := 0) X dL_undoes_2 (by decide) ?_
  refine q_istore (lv' := [(4, .int 0), (3, .int 1), (0, .ref (ad o 0 1)), (1, .ref (ad q 0 1)), (2, .int p2)]) X dL_undoes_3 (by decide) rfl ?_
  refine q_sub [2, 3, 4, 1, 0] rfl ?_
  have L5 : ∀ (n : Nat) (y_2 : Int32) (y_3 : Int32) (m_4 : Gh), itr (α := Int32 × Int32 × Gh) (fun K a => w_L_undoes_B5 o q p2 Q9 (fun z0 z1 z2 => K (z0, z1, z2)) a.1 a.2.1 a.2.2) n (y_2, y_3, m_4) → ∀ c_1 : Nat, c_1 + n * 4 ≤ 12 → V p l e rm_L_undoes s m args below meth c QQ 5 (AU A) c_1 (6 * c_1) (WY D cA ad YT m_4) 5 [(0, .ref (ad o 0 1)), (1, .ref (ad q 0 1)), (2, .int p2), (3, .int y_2), (4, .int y_3)] [] := by
    intro n
    induction n with
    | zero => intro y_2 y_3 m_4 h; exact h.elim
    | succ n ih_6 =>
      intro y_2 y_3 m_4 h c_1 hc_1
      have h : w_L_undoes_B5 o q p2 Q9 (fun z0 z1 z2 => itr (α := Int32 × Int32 × Gh) (fun K a => w_L_undoes_B5 o q p2 Q9 (fun z0 z1 z2 => K (z0, z1, z2)) a.1 a.2.1 a.2.2) n (z0, z1, z2)) y_2 y_3 m_4 := h
      generalize hKe : (fun z0 z1 z2 => itr (α := Int32 × Int32 × Gh) (fun K a => w_L_undoes_B5 o q p2 Q9 (fun z0 z1 z2 => K (z0, z1, z2)) a.1 a.2.1 a.2.2) n (z0, z1, z2)) = K_5 at h
      have ih_6k : ∀ (y_2 : Int32) (y_3 : Int32) (m_4 : Gh), K_5 y_2 y_3 m_4 → ∀ c_1 : Nat, c_1 + n * 4 ≤ 12 → V p l e rm_L_undoes s m args below meth c QQ 5 (AU A) c_1 (6 * c_1) (WY D cA ad YT m_4) 5 [(0, .ref (ad o 0 1)), (1, .ref (ad q 0 1)), (2, .int p2), (3, .int y_2), (4, .int y_3)] [] := fun y_2 y_3 m_4 h => ih_6 y_2 y_3 m_4 (by rw [← hKe] at h; exact h)
      unfold w_L_undoes_B5 at h
      refine q_iload (j := 4) X dL_undoes_5 rfl ?_
      refine q_iload_n (j := 2) X dL_undoes_7 rfl rfl ?_
      refine q_icmp_ge (tgt := 57) X dL_undoes_8 (by decide) (fun c_7 => ?_) (fun c_7 => ?_)
      · have h := h.1 c_7
        refine q_w (c2 := 12) (n2 := (6 * 12)) (by omega) (by omega) ?_
        refine q_iload_n (j := 3) X dL_undoes_57 rfl rfl ?_
        obtain ⟨b_8, h⟩ := h
        exact hE _ _ _ _ _ _ dL_undoes_58 (by omega) (by omega) b_8 h
      · have h := h.2 c_7
        refine q_iload_n (j := 3) X dL_undoes_11 rfl rfl ?_
        refine q_if_eq (tgt := 57) X dL_undoes_12 (by decide) (fun c_9 => ?_) (fun c_9 => ?_)
        · have h := h.1 c_9
          refine q_w (c2 := 12) (n2 := (6 * 12)) (by omega) (by omega) ?_
          refine q_iload_n (j := 3) X dL_undoes_57 rfl rfl ?_
          obtain ⟨b_10, h⟩ := h
          exact hE _ _ _ _ _ _ dL_undoes_58 (by omega) (by omega) b_10 h
        · have h := h.2 c_9
          refine q_aload_n (j := 0) X dL_undoes_15 rfl rfl ?_
          refine q_bipush (v := 53) X dL_undoes_16 (by decide) ?_
          refine q_iconst (v := 0) X dL_undoes_18 (by decide) ?_
          refine q_iconst (v := 0) X dL_undoes_19 (by decide) ?_
          refine q_iconst (v := 0) X dL_undoes_20 (by decide) ?_
          obtain ⟨k_12, h⟩ := h
          refine qG_own X hW hZ (fun _ h => h) YT_ok [.ref (ad o 0 1), .int 53, .int 0, .int 0, .int 0] [] rfl rfl (Nat.le_of_ble_eq_true rfl) dL_undoes_21 ⟨by show _ ≤ 12; omega, by show _ ≤ 72; omega⟩ (k_C_53 ha hst o 0 0 0 m_4 k_12) rfl rfl (gS kw_3_88 kw_3_89 kw_1_0 kw_3_90) hy_L_call.2 ⟨(Nat.le_of_ble_eq_true rfl), (Nat.le_of_ble_eq_true rfl)⟩ (fun r_11 g_13 hq => ?_)
          refine q_wi (fun hi => ?_)
          have h := h r_11 hq.1 g_13 hq.2 hi
          refine qG_own X hW hZ (fun _ h => h) YT_ok [.int r_11] [] rfl rfl (Nat.le_of_ble_eq_true rfl) dL_undoes_24 ⟨by show _ ≤ 12; omega, by show _ ≤ 72; omega⟩ (c_L_thrown ha hst r_11 g_13 _ h) rfl rfl (gS kw_7_10 kw_7_11 kw_1_0 kw_7_12) hy_L_thrown.2 ⟨(Nat.le_of_ble_eq_true rfl), (Nat.le_of_ble_eq_true rfl)⟩ (fun r_14 g_15 h => ?_)
          refine q_if_ne (tgt := 49) X dL_undoes_27 (by decide) (fun c_16 => ?_) (fun c_16 => ?_)
          · have h := h.1 c_16
            refine q_iconst (v := 0) X dL_undoes_49 (by decide) ?_
            refine q_istore_n (lv' := [(3, .int 0), (0, .ref (ad o 0 1)), (1, .ref (ad q 0 1)), (2, .int p2), (4, .int y_3)]) X dL_undoes_50 rfl (by decide) rfl ?_
            obtain ⟨x_17, ex_17⟩ : ∃ z : Int32, z = y_3 + 1 := ⟨_, rfl⟩
            have h := h x_17 ex_17
            refine q_iinc (j := 4) (v := x_17) (lv' := [(4, .int x_17), (3, .int 0), (0, .ref (ad o 0 1)), (1, .ref (ad q 0 1)), (2, .int p2)]) X dL_undoes_51 rfl (by rw [ex_17]; rfl) (by decide) rfl ?_
            refine q_goto (tgt := 5) X dL_undoes_54 (by decide) ?_
            refine q_sub [2, 3, 4, 1, 0] rfl ?_
            refine q_w (c2 := (c_1 + 4)) (n2 := (6 * (c_1 + 4))) (by omega) (by omega) ?_
            exact ih_6k 0 x_17 g_15 h (c_1 + 4) (by omega)
          · have h := h.2 c_16
            refine q_aload_n (j := 1) X dL_undoes_30 rfl rfl ?_
            refine q_bipush (v := 53) X dL_undoes_31 (by decide) ?_
            refine q_iconst (v := 0) X dL_undoes_33 (by decide) ?_
            refine q_iconst (v := 0) X dL_undoes_34 (by decide) ?_
            refine q_iconst (v := 0) X dL_undoes_35 (by decide) ?_
            obtain ⟨k_19, h⟩ := h
            refine qG_own X hW hZ (fun _ h => h) YT_ok [.ref (ad q 0 1), .int 53, .int 0, .int 0, .int 0] [] rfl rfl (Nat.le_of_ble_eq_true rfl) dL_undoes_36 ⟨by show _ ≤ 12; omega, by show _ ≤ 72; omega⟩ (k_C_53 ha hst q 0 0 0 g_15 k_19) rfl rfl (gS kw_3_88 kw_3_89 kw_1_0 kw_3_90) hy_L_call.2 ⟨(Nat.le_of_ble_eq_true rfl), (Nat.le_of_ble_eq_true rfl)⟩ (fun r_18 g_20 hq => ?_)
            refine q_wi (fun hi => ?_)
            have h := h r_18 hq.1 g_20 hq.2 hi
            refine qG_own X hW hZ (fun _ h => h) YT_ok [.int r_18] [] rfl rfl (Nat.le_of_ble_eq_true rfl) dL_undoes_39 ⟨by show _ ≤ 12; omega, by show _ ≤ 72; omega⟩ (c_L_thrown ha hst r_18 g_20 _ h) rfl rfl (gS kw_7_10 kw_7_11 kw_1_0 kw_7_12) hy_L_thrown.2 ⟨(Nat.le_of_ble_eq_true rfl), (Nat.le_of_ble_eq_true rfl)⟩ (fun r_21 g_22 h => ?_)
            refine q_if_ne (tgt := 49) X dL_undoes_42 (by decide) (fun c_23 => ?_) (fun c_23 => ?_)
            · have h := h.1 c_23
              refine q_iconst (v := 0) X dL_undoes_49 (by decide) ?_
              refine q_istore_n (lv' := [(3, .int 0), (0, .ref (ad o 0 1)), (1, .ref (ad q 0 1)), (2, .int p2), (4, .int y_3)]) X dL_undoes_50 rfl (by decide) rfl ?_
              obtain ⟨x_24, ex_24⟩ : ∃ z : Int32, z = y_3 + 1 := ⟨_, rfl⟩
              have h := h x_24 ex_24
              refine q_iinc (j := 4) (v := x_24) (lv' := [(4, .int x_24), (3, .int 0), (0, .ref (ad o 0 1)), (1, .ref (ad q 0 1)), (2, .int p2)]) X dL_undoes_51 rfl (by rw [ex_24]; rfl) (by decide) rfl ?_
              refine q_goto (tgt := 5) X dL_undoes_54 (by decide) ?_
              refine q_sub [2, 3, 4, 1, 0] rfl ?_
              refine q_w (c2 := (c_1 + 4)) (n2 := (6 * (c_1 + 4))) (by omega) (by omega) ?_
              exact ih_6k 0 x_24 g_22 h (c_1 + 4) (by omega)
            · have h := h.2 c_23
              refine q_iconst (v := 1) X dL_undoes_45 (by decide) ?_
              refine q_goto (tgt := 50) X dL_undoes_46 (by decide) ?_
              refine q_istore_n (lv' := [(3, .int 1), (0, .ref (ad o 0 1)), (1, .ref (ad q 0 1)), (2, .int p2), (4, .int y_3)]) X dL_undoes_50 rfl (by decide) rfl ?_
              obtain ⟨x_25, ex_25⟩ : ∃ z : Int32, z = y_3 + 1 := ⟨_, rfl⟩
              have h := h x_25 ex_25
              refine q_iinc (j := 4) (v := x_25) (lv' := [(4, .int x_25), (3, .int 1), (0, .ref (ad o 0 1)), (1, .ref (ad q 0 1)), (2, .int p2)]) X dL_undoes_51 rfl (by rw [ex_25]; rfl) (by decide) rfl ?_
              refine q_goto (tgt := 5) X dL_undoes_54 (by decide) ?_
              refine q_sub [2, 3, 4, 1, 0] rfl ?_
              refine q_w (c2 := (c_1 + 4)) (n2 := (6 * (c_1 + 4))) (by omega) (by omega) ?_
              exact ih_6k 1 x_25 g_22 h (c_1 + 4) (by omega)
  refine q_w (c2 := 0) (n2 := (6 * 0)) (by omega) (by omega) ?_
  exact L5 3 1 0 g h 0 (by omega)
theorem dL_act_0 : decode cL_act 0 = .ok (.iload_n 1, 1) := by decide +kernel
theorem dL_act_1 : decode cL_act 1 = .ok (.bipush 20, 2) := by decide +kernel
theorem dL_act_3 : decode cL_act 3 = .ok (.idiv, 1) := by decide +kernel
theorem dL_act_4 : decode cL_act 4 = .ok (.istore_n 2, 1) := by decide +kernel
theorem dL_act_5 : decode cL_act 5 = .ok (.aload_n 0, 1) := by decide +kernel
theorem dL_act_6 : decode cL_act 6 = .ok (.invokevirtual 397, 3) := by decide +kernel
theorem dL_act_9 : decode cL_act 9 = .ok (.ifCond .ne 7, 3) := by decide +kernel
theorem dL_act_12 : decode cL_act 12 = .ok (.iconst 0, 1) := by decide +kernel
theorem dL_act_13 : decode cL_act 13 = .ok (.goto 17, 3) := by decide +kernel
theorem dL_act_16 : decode cL_act 16 = .ok (.aload_n 0, 1) := by decide +kernel
theorem dL_act_17 : decode cL_act 17 = .ok (.bipush 15, 2) := by decide +kernel
theorem dL_act_19 : decode cL_act 19 = .ok (.iload_n 2, 1) := by decide +kernel
theorem dL_act_20 : decode cL_act 20 = .ok (.aload_n 0, 1) := by decide +kernel
theorem dL_act_21 : decode cL_act 21 = .ok (.invokevirtual 397, 3) := by decide +kernel
theorem dL_act_24 : decode cL_act 24 = .ok (.irem, 1) := by decide +kernel
theorem dL_act_25 : decode cL_act 25 = .ok (.iconst 0, 1) := by decide +kernel
theorem dL_act_26 : decode cL_act 26 = .ok (.iconst 0, 1) := by decide +kernel
theorem dL_act_27 : decode cL_act 27 = .ok (.invokestatic 393, 3) := by decide +kernel
theorem dL_act_30 : decode cL_act 30 = .ok (.istore_n 3, 1) := by decide +kernel
theorem dL_act_31 : decode cL_act 31 = .ok (.iconst 1, 1) := by decide +kernel
theorem dL_act_32 : decode cL_act 32 = .ok (.iload_n 2, 1) := by decide +kernel
theorem dL_act_33 : decode cL_act 33 = .ok (.bipush 60, 2) := by decide +kernel
theorem dL_act_35 : decode cL_act 35 = .ok (.idiv, 1) := by decide +kernel
theorem dL_act_36 : decode cL_act 36 = .ok (.iload_n 2, 1) := by decide +kernel
theorem dL_act_37 : decode cL_act 37 = .ok (.iconst 3, 1) := by decide +kernel
theorem dL_act_38 : decode cL_act 38 = .ok (.irem, 1) := by decide +kernel
theorem dL_act_39 : decode cL_act 39 = .ok (.ifCond .ne 9, 3) := by decide +kernel
theorem dL_act_42 : decode cL_act 42 = .ok (.sipush 400, 3) := by decide +kernel
theorem dL_act_45 : decode cL_act 45 = .ok (.goto 5, 3) := by decide +kernel
theorem dL_act_48 : decode cL_act 48 = .ok (.bipush 40, 2) := by decide +kernel
theorem dL_act_50 : decode cL_act 50 = .ok (.irem, 1) := by decide +kernel
theorem dL_act_51 : decode cL_act 51 = .ok (.iadd, 1) := by decide +kernel
theorem dL_act_52 : decode cL_act 52 = .ok (.istore 4, 2) := by decide +kernel
theorem dL_act_54 : decode cL_act 54 = .ok (.iload_n 2, 1) := by decide +kernel
theorem dL_act_55 : decode cL_act 55 = .ok (.bipush 7, 2) := by decide +kernel
theorem dL_act_57 : decode cL_act 57 = .ok (.idiv, 1) := by decide +kernel
theorem dL_act_58 : decode cL_act 58 = .ok (.iconst 5, 1) := by decide +kernel
theorem dL_act_59 : decode cL_act 59 = .ok (.irem, 1) := by decide +kernel
theorem dL_act_60 : decode cL_act 60 = .ok (.istore 5, 2) := by decide +kernel
theorem dL_act_62 : decode cL_act 62 = .ok (.iload_n 2, 1) := by decide +kernel
theorem dL_act_63 : decode cL_act 63 = .ok (.bipush 6, 2) := by decide +kernel
theorem dL_act_65 : decode cL_act 65 = .ok (.irem, 1) := by decide +kernel
theorem dL_act_66 : decode cL_act 66 = .ok (.istore 6, 2) := by decide +kernel
theorem dL_act_68 : decode cL_act 68 = .ok (.iload_n 1, 1) := by decide +kernel
theorem dL_act_69 : decode cL_act 69 = .ok (.bipush 20, 2) := by decide +kernel
theorem dL_act_71 : decode cL_act 71 = .ok (.irem, 1) := by decide +kernel
theorem dL_act_72 : decode cL_act 72 = .ok (.tableswitch 372 0 18 #[92, 92, 92, 92, 114, 114, 124, 134, 146, 156, 166, 202, 213, 243, 254, 270, 284, 326, 336], 92) := by decide +kernel
theorem dL_act_164 : decode cL_act 164 = .ok (.aload_n 0, 1) := by decide +kernel
theorem dL_act_165 : decode cL_act 165 = .ok (.iload 6, 2) := by decide +kernel
theorem dL_act_167 : decode cL_act 167 = .ok (.iload 4, 2) := by decide +kernel
theorem dL_act_169 : decode cL_act 169 = .ok (.iconst 1, 1) := by decide +kernel
theorem dL_act_170 : decode cL_act 170 = .ok (.iload_n 2, 1) := by decide +kernel
theorem dL_act_171 : decode cL_act 171 = .ok (.sipush 2400, 3) := by decide +kernel
theorem dL_act_174 : decode cL_act 174 = .ok (.idiv, 1) := by decide +kernel
theorem dL_act_175 : decode cL_act 175 = .ok (.sipush 9999, 3) := by decide +kernel
theorem dL_act_178 : decode cL_act 178 = .ok (.irem, 1) := by decide +kernel
theorem dL_act_179 : decode cL_act 179 = .ok (.iadd, 1) := by decide +kernel
theorem dL_act_180 : decode cL_act 180 = .ok (.iload 5, 2) := by decide +kernel
theorem dL_act_182 : decode cL_act 182 = .ok (.invokestatic 390, 3) := by decide +kernel
theorem dL_act_185 : decode cL_act 185 = .ok (.ireturn, 1) := by decide +kernel
theorem dL_act_186 : decode cL_act 186 = .ok (.aload_n 0, 1) := by decide +kernel
theorem dL_act_187 : decode cL_act 187 = .ok (.iconst 0, 1) := by decide +kernel
theorem dL_act_188 : decode cL_act 188 = .ok (.iload_n 3, 1) := by decide +kernel
theorem dL_act_189 : decode cL_act 189 = .ok (.iload 4, 2) := by decide +kernel
theorem dL_act_191 : decode cL_act 191 = .ok (.iconst 0, 1) := by decide +kernel
theorem dL_act_192 : decode cL_act 192 = .ok (.invokestatic 393, 3) := by decide +kernel
theorem dL_act_195 : decode cL_act 195 = .ok (.ireturn, 1) := by decide +kernel
theorem dL_act_196 : decode cL_act 196 = .ok (.aload_n 0, 1) := by decide +kernel
theorem dL_act_197 : decode cL_act 197 = .ok (.iconst 1, 1) := by decide +kernel
theorem dL_act_198 : decode cL_act 198 = .ok (.iload_n 3, 1) := by decide +kernel
theorem dL_act_199 : decode cL_act 199 = .ok (.iload 4, 2) := by decide +kernel
theorem dL_act_201 : decode cL_act 201 = .ok (.iconst 0, 1) := by decide +kernel
theorem dL_act_202 : decode cL_act 202 = .ok (.invokestatic 393, 3) := by decide +kernel
theorem dL_act_205 : decode cL_act 205 = .ok (.ireturn, 1) := by decide +kernel
theorem dL_act_206 : decode cL_act 206 = .ok (.aload_n 0, 1) := by decide +kernel
theorem dL_act_207 : decode cL_act 207 = .ok (.iconst 2, 1) := by decide +kernel
theorem dL_act_208 : decode cL_act 208 = .ok (.iload_n 2, 1) := by decide +kernel
theorem dL_act_209 : decode cL_act 209 = .ok (.iconst 3, 1) := by decide +kernel
theorem dL_act_210 : decode cL_act 210 = .ok (.irem, 1) := by decide +kernel
theorem dL_act_211 : decode cL_act 211 = .ok (.iload 4, 2) := by decide +kernel
theorem dL_act_213 : decode cL_act 213 = .ok (.iconst 0, 1) := by decide +kernel
theorem dL_act_214 : decode cL_act 214 = .ok (.invokestatic 393, 3) := by decide +kernel
theorem dL_act_217 : decode cL_act 217 = .ok (.ireturn, 1) := by decide +kernel
theorem dL_act_218 : decode cL_act 218 = .ok (.aload_n 0, 1) := by decide +kernel
theorem dL_act_219 : decode cL_act 219 = .ok (.iconst 3, 1) := by decide +kernel
theorem dL_act_220 : decode cL_act 220 = .ok (.iload_n 3, 1) := by decide +kernel
theorem dL_act_221 : decode cL_act 221 = .ok (.iload 5, 2) := by decide +kernel
theorem dL_act_223 : decode cL_act 223 = .ok (.iconst 0, 1) := by decide +kernel
theorem dL_act_224 : decode cL_act 224 = .ok (.invokestatic 393, 3) := by decide +kernel
theorem dL_act_227 : decode cL_act 227 = .ok (.ireturn, 1) := by decide +kernel
theorem dL_act_228 : decode cL_act 228 = .ok (.aload_n 0, 1) := by decide +kernel
theorem dL_act_229 : decode cL_act 229 = .ok (.iconst 4, 1) := by decide +kernel
theorem dL_act_230 : decode cL_act 230 = .ok (.iload_n 3, 1) := by decide +kernel
theorem dL_act_231 : decode cL_act 231 = .ok (.iload 4, 2) := by decide +kernel
theorem dL_act_233 : decode cL_act 233 = .ok (.iconst 0, 1) := by decide +kernel
theorem dL_act_234 : decode cL_act 234 = .ok (.invokestatic 393, 3) := by decide +kernel
theorem dL_act_237 : decode cL_act 237 = .ok (.ireturn, 1) := by decide +kernel
theorem dL_act_238 : decode cL_act 238 = .ok (.aload_n 0, 1) := by decide +kernel
theorem dL_act_239 : decode cL_act 239 = .ok (.invokevirtual 397, 3) := by decide +kernel
theorem dL_act_242 : decode cL_act 242 = .ok (.ifCond .ne 7, 3) := by decide +kernel
theorem dL_act_245 : decode cL_act 245 = .ok (.iconst (-1), 1) := by decide +kernel
theorem dL_act_246 : decode cL_act 246 = .ok (.goto 27, 3) := by decide +kernel
theorem dL_act_249 : decode cL_act 249 = .ok (.aload_n 0, 1) := by decide +kernel
theorem dL_act_250 : decode cL_act 250 = .ok (.iconst 5, 1) := by decide +kernel
theorem dL_act_251 : decode cL_act 251 = .ok (.iload_n 3, 1) := by decide +kernel
theorem dL_act_252 : decode cL_act 252 = .ok (.aload_n 0, 1) := by decide +kernel
theorem dL_act_253 : decode cL_act 253 = .ok (.bipush 15, 2) := by decide +kernel
theorem dL_act_255 : decode cL_act 255 = .ok (.iload_n 2, 1) := by decide +kernel
theorem dL_act_256 : decode cL_act 256 = .ok (.bipush 64, 2) := by decide +kernel
theorem dL_act_258 : decode cL_act 258 = .ok (.idiv, 1) := by decide +kernel
theorem dL_act_259 : decode cL_act 259 = .ok (.aload_n 0, 1) := by decide +kernel
theorem dL_act_260 : decode cL_act 260 = .ok (.invokevirtual 397, 3) := by decide +kernel
theorem dL_act_263 : decode cL_act 263 = .ok (.irem, 1) := by decide +kernel
theorem dL_act_264 : decode cL_act 264 = .ok (.iconst 0, 1) := by decide +kernel
theorem dL_act_265 : decode cL_act 265 = .ok (.iconst 0, 1) := by decide +kernel
theorem dL_act_266 : decode cL_act 266 = .ok (.invokestatic 393, 3) := by decide +kernel
theorem dL_act_269 : decode cL_act 269 = .ok (.iconst 0, 1) := by decide +kernel
theorem dL_act_270 : decode cL_act 270 = .ok (.invokestatic 393, 3) := by decide +kernel
theorem dL_act_273 : decode cL_act 273 = .ok (.ireturn, 1) := by decide +kernel
theorem dL_act_274 : decode cL_act 274 = .ok (.aload_n 0, 1) := by decide +kernel
theorem dL_act_275 : decode cL_act 275 = .ok (.bipush 6, 2) := by decide +kernel
theorem dL_act_277 : decode cL_act 277 = .ok (.iload_n 3, 1) := by decide +kernel
theorem dL_act_278 : decode cL_act 278 = .ok (.iload 4, 2) := by decide +kernel
theorem dL_act_280 : decode cL_act 280 = .ok (.iconst 0, 1) := by decide +kernel
theorem dL_act_281 : decode cL_act 281 = .ok (.invokestatic 393, 3) := by decide +kernel
theorem dL_act_284 : decode cL_act 284 = .ok (.ireturn, 1) := by decide +kernel
theorem dL_act_285 : decode cL_act 285 = .ok (.iload_n 2, 1) := by decide +kernel
theorem dL_act_286 : decode cL_act 286 = .ok (.iconst 2, 1) := by decide +kernel
theorem dL_act_287 : decode cL_act 287 = .ok (.irem, 1) := by decide +kernel
theorem dL_act_288 : decode cL_act 288 = .ok (.ifCond .ne 16, 3) := by decide +kernel
theorem dL_act_291 : decode cL_act 291 = .ok (.aload_n 0, 1) := by decide +kernel
theorem dL_act_292 : decode cL_act 292 = .ok (.bipush 7, 2) := by decide +kernel
theorem dL_act_294 : decode cL_act 294 = .ok (.iload 5, 2) := by decide +kernel
theorem dL_act_296 : decode cL_act 296 = .ok (.iconst 0, 1) := by decide +kernel
theorem dL_act_297 : decode cL_act 297 = .ok (.iconst 0, 1) := by decide +kernel
theorem dL_act_298 : decode cL_act 298 = .ok (.invokestatic 393, 3) := by decide +kernel
theorem dL_act_301 : decode cL_act 301 = .ok (.goto 13, 3) := by decide +kernel
theorem dL_act_304 : decode cL_act 304 = .ok (.aload_n 0, 1) := by decide +kernel
theorem dL_act_305 : decode cL_act 305 = .ok (.bipush 9, 2) := by decide +kernel
theorem dL_act_307 : decode cL_act 307 = .ok (.iload 5, 2) := by decide +kernel
theorem dL_act_309 : decode cL_act 309 = .ok (.iconst 0, 1) := by decide +kernel
theorem dL_act_310 : decode cL_act 310 = .ok (.iconst 0, 1) := by decide +kernel
theorem dL_act_311 : decode cL_act 311 = .ok (.invokestatic 393, 3) := by decide +kernel
theorem dL_act_314 : decode cL_act 314 = .ok (.ireturn, 1) := by decide +kernel
theorem dL_act_315 : decode cL_act 315 = .ok (.aload_n 0, 1) := by decide +kernel
theorem dL_act_316 : decode cL_act 316 = .ok (.bipush 8, 2) := by decide +kernel
theorem dL_act_318 : decode cL_act 318 = .ok (.iload 5, 2) := by decide +kernel
theorem dL_act_320 : decode cL_act 320 = .ok (.iconst 0, 1) := by decide +kernel
theorem dL_act_321 : decode cL_act 321 = .ok (.iconst 0, 1) := by decide +kernel
theorem dL_act_322 : decode cL_act 322 = .ok (.invokestatic 393, 3) := by decide +kernel
theorem dL_act_325 : decode cL_act 325 = .ok (.ireturn, 1) := by decide +kernel
theorem dL_act_326 : decode cL_act 326 = .ok (.aload_n 0, 1) := by decide +kernel
theorem dL_act_327 : decode cL_act 327 = .ok (.bipush 10, 2) := by decide +kernel
theorem dL_act_329 : decode cL_act 329 = .ok (.iconst 1, 1) := by decide +kernel
theorem dL_act_330 : decode cL_act 330 = .ok (.iload_n 2, 1) := by decide +kernel
theorem dL_act_331 : decode cL_act 331 = .ok (.sipush 9999, 3) := by decide +kernel
theorem dL_act_334 : decode cL_act 334 = .ok (.irem, 1) := by decide +kernel
theorem dL_act_335 : decode cL_act 335 = .ok (.iadd, 1) := by decide +kernel
theorem dL_act_336 : decode cL_act 336 = .ok (.iconst 0, 1) := by decide +kernel
theorem dL_act_337 : decode cL_act 337 = .ok (.iconst 0, 1) := by decide +kernel
theorem dL_act_338 : decode cL_act 338 = .ok (.invokestatic 393, 3) := by decide +kernel
theorem dL_act_341 : decode cL_act 341 = .ok (.ireturn, 1) := by decide +kernel
theorem dL_act_342 : decode cL_act 342 = .ok (.aload_n 0, 1) := by decide +kernel
theorem dL_act_343 : decode cL_act 343 = .ok (.bipush 11, 2) := by decide +kernel
theorem dL_act_345 : decode cL_act 345 = .ok (.iload_n 2, 1) := by decide +kernel
theorem dL_act_346 : decode cL_act 346 = .ok (.ldc_w 396, 3) := by decide +kernel
theorem dL_act_349 : decode cL_act 349 = .ok (.irem, 1) := by decide +kernel
theorem dL_act_350 : decode cL_act 350 = .ok (.iconst 0, 1) := by decide +kernel
theorem dL_act_351 : decode cL_act 351 = .ok (.iconst 0, 1) := by decide +kernel
theorem dL_act_352 : decode cL_act 352 = .ok (.invokestatic 393, 3) := by decide +kernel
theorem dL_act_355 : decode cL_act 355 = .ok (.ireturn, 1) := by decide +kernel
theorem dL_act_356 : decode cL_act 356 = .ok (.iload_n 2, 1) := by decide +kernel
theorem dL_act_357 : decode cL_act 357 = .ok (.iconst 2, 1) := by decide +kernel
theorem dL_act_358 : decode cL_act 358 = .ok (.irem, 1) := by decide +kernel
theorem dL_act_359 : decode cL_act 359 = .ok (.ifCond .ne 22, 3) := by decide +kernel
theorem dL_act_362 : decode cL_act 362 = .ok (.aload_n 0, 1) := by decide +kernel
theorem dL_act_363 : decode cL_act 363 = .ok (.bipush 12, 2) := by decide +kernel
theorem dL_act_365 : decode cL_act 365 = .ok (.iload 6, 2) := by decide +kernel
theorem dL_act_367 : decode cL_act 367 = .ok (.iload_n 2, 1) := by decide +kernel
theorem dL_act_368 : decode cL_act 368 = .ok (.bipush 12, 2) := by decide +kernel
theorem dL_act_370 : decode cL_act 370 = .ok (.idiv, 1) := by decide +kernel
theorem dL_act_371 : decode cL_act 371 = .ok (.bipush 61, 2) := by decide +kernel
theorem dL_act_373 : decode cL_act 373 = .ok (.irem, 1) := by decide +kernel
theorem dL_act_374 : decode cL_act 374 = .ok (.iconst 0, 1) := by decide +kernel
theorem dL_act_375 : decode cL_act 375 = .ok (.invokestatic 393, 3) := by decide +kernel
theorem dL_act_378 : decode cL_act 378 = .ok (.goto 19, 3) := by decide +kernel
theorem dL_act_381 : decode cL_act 381 = .ok (.aload_n 0, 1) := by decide +kernel
theorem dL_act_382 : decode cL_act 382 = .ok (.bipush 13, 2) := by decide +kernel
theorem dL_act_384 : decode cL_act 384 = .ok (.iload 6, 2) := by decide +kernel
theorem dL_act_386 : decode cL_act 386 = .ok (.iload_n 2, 1) := by decide +kernel
theorem dL_act_387 : decode cL_act 387 = .ok (.bipush 12, 2) := by decide +kernel
theorem dL_act_389 : decode cL_act 389 = .ok (.idiv, 1) := by decide +kernel
theorem dL_act_390 : decode cL_act 390 = .ok (.bipush 81, 2) := by decide +kernel
theorem dL_act_392 : decode cL_act 392 = .ok (.irem, 1) := by decide +kernel
theorem dL_act_393 : decode cL_act 393 = .ok (.iconst 0, 1) := by decide +kernel
theorem dL_act_394 : decode cL_act 394 = .ok (.invokestatic 393, 3) := by decide +kernel
theorem dL_act_397 : decode cL_act 397 = .ok (.ireturn, 1) := by decide +kernel
theorem dL_act_398 : decode cL_act 398 = .ok (.aload_n 0, 1) := by decide +kernel
theorem dL_act_399 : decode cL_act 399 = .ok (.bipush 53, 2) := by decide +kernel
theorem dL_act_401 : decode cL_act 401 = .ok (.iconst 0, 1) := by decide +kernel
theorem dL_act_402 : decode cL_act 402 = .ok (.iconst 0, 1) := by decide +kernel
theorem dL_act_403 : decode cL_act 403 = .ok (.iconst 0, 1) := by decide +kernel
theorem dL_act_404 : decode cL_act 404 = .ok (.invokestatic 393, 3) := by decide +kernel
theorem dL_act_407 : decode cL_act 407 = .ok (.ireturn, 1) := by decide +kernel
theorem dL_act_408 : decode cL_act 408 = .ok (.iload_n 2, 1) := by decide +kernel
theorem dL_act_409 : decode cL_act 409 = .ok (.iconst 2, 1) := by decide +kernel
theorem dL_act_410 : decode cL_act 410 = .ok (.irem, 1) := by decide +kernel
theorem dL_act_411 : decode cL_act 411 = .ok (.ifCond .ne 19, 3) := by decide +kernel
theorem dL_act_414 : decode cL_act 414 = .ok (.aload_n 0, 1) := by decide +kernel
theorem dL_act_415 : decode cL_act 415 = .ok (.bipush 54, 2) := by decide +kernel
theorem dL_act_417 : decode cL_act 417 = .ok (.iload_n 2, 1) := by decide +kernel
theorem dL_act_418 : decode cL_act 418 = .ok (.iconst 2, 1) := by decide +kernel
theorem dL_act_419 : decode cL_act 419 = .ok (.idiv, 1) := by decide +kernel
theorem dL_act_420 : decode cL_act 420 = .ok (.iconst 2, 1) := by decide +kernel
theorem dL_act_421 : decode cL_act 421 = .ok (.irem, 1) := by decide +kernel
theorem dL_act_422 : decode cL_act 422 = .ok (.iconst 0, 1) := by decide +kernel
theorem dL_act_423 : decode cL_act 423 = .ok (.iconst 0, 1) := by decide +kernel
theorem dL_act_424 : decode cL_act 424 = .ok (.invokestatic 393, 3) := by decide +kernel
theorem dL_act_427 : decode cL_act 427 = .ok (.goto 16, 3) := by decide +kernel
theorem dL_act_430 : decode cL_act 430 = .ok (.aload_n 0, 1) := by decide +kernel
theorem dL_act_431 : decode cL_act 431 = .ok (.bipush 55, 2) := by decide +kernel
theorem dL_act_433 : decode cL_act 433 = .ok (.iload_n 2, 1) := by decide +kernel
theorem dL_act_434 : decode cL_act 434 = .ok (.iconst 2, 1) := by decide +kernel
theorem dL_act_435 : decode cL_act 435 = .ok (.idiv, 1) := by decide +kernel
theorem dL_act_436 : decode cL_act 436 = .ok (.iconst 2, 1) := by decide +kernel
theorem dL_act_437 : decode cL_act 437 = .ok (.irem, 1) := by decide +kernel
theorem dL_act_438 : decode cL_act 438 = .ok (.iconst 0, 1) := by decide +kernel
theorem dL_act_439 : decode cL_act 439 = .ok (.iconst 0, 1) := by decide +kernel
theorem dL_act_440 : decode cL_act 440 = .ok (.invokestatic 393, 3) := by decide +kernel
theorem dL_act_443 : decode cL_act 443 = .ok (.ireturn, 1) := by decide +kernel
theorem dL_act_444 : decode cL_act 444 = .ok (.aload_n 0, 1) := by decide +kernel
theorem dL_act_445 : decode cL_act 445 = .ok (.bipush 14, 2) := by decide +kernel
theorem dL_act_447 : decode cL_act 447 = .ok (.iconst 1, 1) := by decide +kernel
theorem dL_act_448 : decode cL_act 448 = .ok (.iload_n 2, 1) := by decide +kernel
theorem dL_act_449 : decode cL_act 449 = .ok (.bipush 100, 2) := by decide +kernel
theorem dL_act_451 : decode cL_act 451 = .ok (.irem, 1) := by decide +kernel
theorem dL_act_452 : decode cL_act 452 = .ok (.iadd, 1) := by decide +kernel
theorem dL_act_453 : decode cL_act 453 = .ok (.iconst 0, 1) := by decide +kernel
theorem dL_act_454 : decode cL_act 454 = .ok (.iconst 0, 1) := by decide +kernel
theorem dL_act_455 : decode cL_act 455 = .ok (.invokestatic 393, 3) := by decide +kernel
theorem dL_act_458 : decode cL_act 458 = .ok (.ireturn, 1) := by decide +kernel
def w_L_act_J50 (o : Bool) (p1 : Int32) (g : Gh) (Q9 : Int32 → Gh → Prop) (x_1 : Int32) (y_4 : Int32) (y_5 : Int32) : Prop :=
  ¬ y_5 = 0 ∧ (∀ x_7 : Int32, x_7 = (1 + ((x_1 / 60) - (x_1 / 60) / y_5 * y_5)) → (∀ x_8 : Int32, x_8 = ((x_1 / 7) - (x_1 / 7) / 5 * 5) → (∀ x_9 : Int32, x_9 = (x_1 - x_1 / 6 * 6) → ((((p1 - p1 / 20 * 20) = 0 → g.2 + 1 ≤ 2400 ∧ ∀ r_11 : Int32, r_11 = (z_enter x_9 x_7 (1 + ((x_1 / 2400) - (x_1 / 2400) / 9999 * 9999)) x_8 (g.1 o)).1 → ∀ g_13 : Gh, g_13 = gz g o (z_enter x_9 x_7 (1 + ((x_1 / 2400) - (x_1 / 2400) / 9999 * 9999)) x_8 (g.1 o)).2 → GI g_13 → (Q9 r_11 g_13)) ∧
  ((p1 - p1 / 20 * 20) = 1 → g.2 + 1 ≤ 2400 ∧ ∀ r_14 : Int32, r_14 = (z_enter x_9 x_7 (1 + ((x_1 / 2400) - (x_1 / 2400) / 9999 * 9999)) x_8 (g.1 o)).1 → ∀ g_16 : Gh, g_16 = gz g o (z_enter x_9 x_7 (1 + ((x_1 / 2400) - (x_1 / 2400) / 9999 * 9999)) x_8 (g.1 o)).2 → GI g_16 → (Q9 r_14 g_16)) ∧
  ((p1 - p1 / 20 * 20) = 2 → g.2 + 1 ≤ 2400 ∧ ∀ r_17 : Int32, r_17 = (z_enter x_9 x_7 (1 + ((x_1 / 2400) - (x_1 / 2400) / 9999 * 9999)) x_8 (g.1 o)).1 → ∀ g_19 : Gh, g_19 = gz g o (z_enter x_9 x_7 (1 + ((x_1 / 2400) - (x_1 / 2400) / 9999 * 9999)) x_8 (g.1 o)).2 → GI g_19 → (Q9 r_17 g_19)) ∧
  ((p1 - p1 / 20 * 20) = 3 → g.2 + 1 ≤ 2400 ∧ ∀ r_20 : Int32, r_20 = (z_enter x_9 x_7 (1 + ((x_1 / 2400) - (x_1 / 2400) / 9999 * 9999)) x_8 (g.1 o)).1 → ∀ g_22 : Gh, g_22 = gz g o (z_enter x_9 x_7 (1 + ((x_1 / 2400) - (x_1 / 2400) / 9999 * 9999)) x_8 (g.1 o)).2 → GI g_22 → (Q9 r_20 g_22)) ∧
  ((p1 - p1 / 20 * 20) = 4 → g.2 + 1 ≤ 2400 ∧ ∀ r_23 : Int32, r_23 = (z_tryWithdraw y_4 x_7 (g.1 o)).1 → ∀ g_25 : Gh, g_25 = gz g o (z_tryWithdraw y_4 x_7 (g.1 o)).2 → GI g_25 → (Q9 r_23 g_25)) ∧
  ((p1 - p1 / 20 * 20) = 5 → g.2 + 1 ≤ 2400 ∧ ∀ r_26 : Int32, r_26 = (z_tryWithdraw y_4 x_7 (g.1 o)).1 → ∀ g_28 : Gh, g_28 = gz g o (z_tryWithdraw y_4 x_7 (g.1 o)).2 → GI g_28 → (Q9 r_26 g_28)) ∧
  ((p1 - p1 / 20 * 20) = 6 → g.2 + 1 ≤ 2400 ∧ ∀ r_29 : Int32, r_29 = (z_trySend y_4 x_7 (g.1 o)).1 → ∀ g_31 : Gh, g_31 = gz g o (z_trySend y_4 x_7 (g.1 o)).2 → GI g_31 → (Q9 r_29 g_31)) ∧
  ((p1 - p1 / 20 * 20) = 7 → g.2 + 1 ≤ 2400 ∧ ∀ r_32 : Int32, r_32 = (z_tryDraw (x_1 - x_1 / 3 * 3) x_7 (g.1 o)).1 → ∀ g_34 : Gh, g_34 = gz g o (z_tryDraw (x_1 - x_1 / 3 * 3) x_7 (g.1 o)).2 → GI g_34 → (Q9 r_32 g_34)) ∧
  ((p1 - p1 / 20 * 20) = 8 → g.2 + 1 ≤ 2400 ∧ ∀ r_35 : Int32, r_35 = (z_tryMove y_4 x_8 (g.1 o)).1 → ∀ g_37 : Gh, g_37 = gz g o (z_tryMove y_4 x_8 (g.1 o)).2 → GI g_37 → (Q9 r_35 g_37)) ∧
  ((p1 - p1 / 20 * 20) = 9 → g.2 + 1 ≤ 2400 ∧ ∀ r_38 : Int32, r_38 = (z_trySplit y_4 x_7 (g.1 o)).1 → ∀ g_40 : Gh, g_40 = gz g o (z_trySplit y_4 x_7 (g.1 o)).2 → GI g_40 → (Q9 r_38 g_40)) ∧
  ((p1 - p1 / 20 * 20) = 10 → g.2 ≤ 2400 ∧ ∀ r_41 : Int32, r_41 = (v_entries (g.1 o)) → (((¬ r_41 = 0 → g.2 ≤ 2400 ∧ ∀ r_44 : Int32, r_44 = (v_entries (g.1 o)) → (¬ r_44 = 0 ∧ (g.2 ≤ 2400 ∧ ∀ r_47 : Int32, r_47 = y_tryAt ((x_1 / 64) - (x_1 / 64) / r_44 * r_44) (g.1 o) → (g.2 + 1 ≤ 2400 ∧ ∀ r_49 : Int32, r_49 = (z_tryMerge y_4 r_47 (g.1 o)).1 → ∀ g_51 : Gh, g_51 = gz g o (z_tryMerge y_4 r_47 (g.1 o)).2 → GI g_51 → (Q9 r_49 g_51))))) ∧
  (r_41 = 0 → Q9 (-1) g)))) ∧
  ((p1 - p1 / 20 * 20) = 11 → g.2 + 1 ≤ 2400 ∧ ∀ r_52 : Int32, r_52 = (z_tryWeigh y_4 x_7 (g.1 o)).1 → ∀ g_54 : Gh, g_54 = gz g o (z_tryWeigh y_4 x_7 (g.1 o)).2 → GI g_54 → (Q9 r_52 g_54)) ∧
  ((p1 - p1 / 20 * 20) = 12 → ((¬ (x_1 - x_1 / 2 * 2) = 0 → g.2 + 1 ≤ 2400 ∧ ∀ r_56 : Int32, r_56 = (z_tryBreak x_8 (g.1 o)).1 → ∀ g_58 : Gh, g_58 = gz g o (z_tryBreak x_8 (g.1 o)).2 → GI g_58 → (Q9 r_56 g_58)) ∧
  ((x_1 - x_1 / 2 * 2) = 0 → g.2 + 1 ≤ 2400 ∧ ∀ r_59 : Int32, r_59 = (z_tryLock x_8 (g.1 o)).1 → ∀ g_61 : Gh, g_61 = gz g o (z_tryLock x_8 (g.1 o)).2 → GI g_61 → (Q9 r_59 g_61)))) ∧
  ((p1 - p1 / 20 * 20) = 13 → g.2 + 1 ≤ 2400 ∧ ∀ r_62 : Int32, r_62 = (z_tryOpen x_8 (g.1 o)).1 → ∀ g_64 : Gh, g_64 = gz g o (z_tryOpen x_8 (g.1 o)).2 → GI g_64 → (Q9 r_62 g_64)) ∧
  ((p1 - p1 / 20 * 20) = 14 → g.2 + 1 ≤ 2400 ∧ ∀ r_65 : Int32, r_65 = (z_tryPay (1 + (x_1 - x_1 / 9999 * 9999)) (g.1 o)).1 → ∀ g_67 : Gh, g_67 = gz g o (z_tryPay (1 + (x_1 - x_1 / 9999 * 9999)) (g.1 o)).2 → GI g_67 → (Q9 r_65 g_67)) ∧
  ((p1 - p1 / 20 * 20) = 15 → g.2 + 1 ≤ 2400 ∧ ∀ r_68 : Int32, r_68 = (z_trySetBond (x_1 - x_1 / 50001 * 50001) (g.1 o)).1 → ∀ g_70 : Gh, g_70 = gz g o (z_trySetBond (x_1 - x_1 / 50001 * 50001) (g.1 o)).2 → GI g_70 → (Q9 r_68 g_70)) ∧
  ((p1 - p1 / 20 * 20) = 16 → ((¬ (x_1 - x_1 / 2 * 2) = 0 → g.2 + 1 ≤ 2400 ∧ ∀ r_72 : Int32, r_72 = (z_trySetWeight x_9 ((x_1 / 12) - (x_1 / 12) / 81 * 81) (g.1 o)).1 → ∀ g_74 : Gh, g_74 = gz g o (z_trySetWeight x_9 ((x_1 / 12) - (x_1 / 12) / 81 * 81) (g.1 o)).2 → GI g_74 → (Q9 r_72 g_74)) ∧
  ((x_1 - x_1 / 2 * 2) = 0 → g.2 + 1 ≤ 2400 ∧ ∀ r_75 : Int32, r_75 = (z_trySetValue x_9 ((x_1 / 12) - (x_1 / 12) / 61 * 61) (g.1 o)).1 → ∀ g_77 : Gh, g_77 = gz g o (z_trySetValue x_9 ((x_1 / 12) - (x_1 / 12) / 61 * 61) (g.1 o)).2 → GI g_77 → (Q9 r_75 g_77)))) ∧
  ((p1 - p1 / 20 * 20) = 17 → g.2 + 1 ≤ 2400 ∧ ∀ r_78 : Int32, r_78 = (z_tryUndo (g.1 o)).1 → ∀ g_80 : Gh, g_80 = gz g o (z_tryUndo (g.1 o)).2 → GI g_80 → (Q9 r_78 g_80)) ∧
  ((p1 - p1 / 20 * 20) = 18 → ((¬ (x_1 - x_1 / 2 * 2) = 0 → g.2 + 1 ≤ 2400 ∧ ∀ r_82 : Int32, r_82 = (z_tryBack ((x_1 / 2) - (x_1 / 2) / 2 * 2) (g.1 o)).1 → ∀ g_84 : Gh, g_84 = gz g o (z_tryBack ((x_1 / 2) - (x_1 / 2) / 2 * 2) (g.1 o)).2 → GI g_84 → (Q9 r_82 g_84)) ∧
  ((x_1 - x_1 / 2 * 2) = 0 → g.2 + 1 ≤ 2400 ∧ ∀ r_85 : Int32, r_85 = (z_tryKeep ((x_1 / 2) - (x_1 / 2) / 2 * 2) (g.1 o)).1 → ∀ g_87 : Gh, g_87 = gz g o (z_tryKeep ((x_1 / 2) - (x_1 / 2) / 2 * 2) (g.1 o)).2 → GI g_87 → (Q9 r_85 g_87)))) ∧
  (¬ (p1 - p1 / 20 * 20) = 0 → ¬ (p1 - p1 / 20 * 20) = 1 → ¬ (p1 - p1 / 20 * 20) = 2 → ¬ (p1 - p1 / 20 * 20) = 3 → ¬ (p1 - p1 / 20 * 20) = 4 → ¬ (p1 - p1 / 20 * 20) = 5 → ¬ (p1 - p1 / 20 * 20) = 6 → ¬ (p1 - p1 / 20 * 20) = 7 → ¬ (p1 - p1 / 20 * 20) = 8 → ¬ (p1 - p1 / 20 * 20) = 9 → ¬ (p1 - p1 / 20 * 20) = 10 → ¬ (p1 - p1 / 20 * 20) = 11 → ¬ (p1 - p1 / 20 * 20) = 12 → ¬ (p1 - p1 / 20 * 20) = 13 → ¬ (p1 - p1 / 20 * 20) = 14 → ¬ (p1 - p1 / 20 * 20) = 15 → ¬ (p1 - p1 / 20 * 20) = 16 → ¬ (p1 - p1 / 20 * 20) = 17 → ¬ (p1 - p1 / 20 * 20) = 18 → g.2 + 1 ≤ 2400 ∧ ∀ r_88 : Int32, r_88 = (z_tryPass (1 + (x_1 - x_1 / 100 * 100)) (g.1 o)).1 → ∀ g_90 : Gh, g_90 = gz g o (z_tryPass (1 + (x_1 - x_1 / 100 * 100)) (g.1 o)).2 → GI g_90 → (Q9 r_88 g_90)))))))
def w_L_act_J30 (o : Bool) (p1 : Int32) (g : Gh) (Q9 : Int32 → Gh → Prop) (x_1 : Int32) (y_4 : Int32) : Prop :=
  ((¬ (x_1 - x_1 / 3 * 3) = 0 → w_L_act_J50 o p1 g Q9 x_1 y_4 40) ∧
  ((x_1 - x_1 / 3 * 3) = 0 → w_L_act_J50 o p1 g Q9 x_1 y_4 400))
def w_L_act (o : Bool) (p1 : Int32) (g : Gh) (Q9 : Int32 → Gh → Prop) : Prop :=
  ∀ x_1 : Int32, x_1 = (p1 / 20) → (g.2 ≤ 2400 ∧ ∀ r_2 : Int32, r_2 = (v_entries (g.1 o)) → (((¬ r_2 = 0 → g.2 ≤ 2400 ∧ ∀ r_93 : Int32, r_93 = (v_entries (g.1 o)) → (¬ r_93 = 0 ∧ (g.2 ≤ 2400 ∧ ∀ r_96 : Int32, r_96 = y_tryAt (x_1 - x_1 / r_93 * r_93) (g.1 o) → (w_L_act_J30 o p1 g Q9 x_1 r_96)))) ∧
  (r_2 = 0 → w_L_act_J30 o p1 g Q9 x_1 0))))
def rm_L_act : Room := { frames := 11, cells := 6, slots := 36, locals := 207 }
theorem hy_L_act : yL_act.cls = RL ∧ yL_act.cls ≠ "java/lang/invoke/MethodHandle" ∧ yL_act.cls ≠ "java/lang/invoke/VarHandle" ∧ (parseMethodDescriptor yL_act.desc).map (fun d => d.parameters.length) = some 2 := by decide +kernel
set_option maxRecDepth 100000 in
set_option maxHeartbeats 4000000 in
theorem c_L_act {l : Launch} {D : va_G} {cA : Nat → ClassId} {ad : Bool → Nat → Nat → Nat} {A : Bool → Nat → Prop} (ha : AG ad A) (hst : l.stackTraces = false) (o : Bool) (p1 : Int32) (g : Gh) (Q9 : Int32 → Gh → Prop) (h : w_L_act o p1 g Q9) : Met l yL_act (.code yL_act cL_act 7 (some .int) :: TG) rm_L_act (PcG D cA ad A [.ref (ad o 0 1), .int p1] g) (QcG D cA ad A Q9) 6 36 (AU A) := by
  unfold w_L_act at h
  refine enterGI pl_L rfl (Nat.le_of_ble_eq_true rfl) ?_
  intro p e s m args below meth c QQ X hW hZ hE
  refine q_iload_n (j := 1) X dL_act_0 rfl rfl ?_
  refine q_bipush (v := 20) X dL_act_1 (by decide) ?_
  refine q_idiv X dL_act_3 (by decide) ?_
  refine q_topi (fun x_1 ex_1 => ?_)
  have h := h x_1 ex_1
  refine q_istore_n (lv' := [(2, .int x_1), (0, .ref (ad o 0 1)), (1, .int p1)]) X dL_act_4 rfl (by decide) rfl ?_
  refine q_aload_n (j := 1) X dL_act_5 rfl rfl ?_
  obtain ⟨k_3, h⟩ := h
  refine qG_ask X hW hZ ha (fun _ h => h) YT_ok o (val := (v_entries (g.1 o))) (Qp := (fun mo r m1 => r = (v_entries (g.1 o)) ∧ mo = m1)) [] [] rfl rfl (Nat.le_of_ble_eq_true rfl) dL_act_6 ⟨(Nat.le_of_ble_eq_true rfl), (Nat.le_of_ble_eq_true rfl)⟩ k_3 (fun mo hmo => c_X9_entries (ha.1 o)  mo _ (n_entries hmo.rs hmo.inv  _ rfl)) (fun mo r m1 hr h => ⟨h.1, by rw [← h.2]; exact hr⟩) rfl rfl (gV kw_6_130 kw_6_131 kw_6_132 kw_1_1 kw_6_133) hy_X9_entries ⟨(Nat.le_of_ble_eq_true rfl), (Nat.le_of_ble_eq_true rfl)⟩ ?_
  refine q_topi (fun r_2 er_2 => ?_)
  have h := h r_2 er_2
  have J30 : ∀ (y_4 : Int32), w_L_act_J30 o p1 g Q9 x_1 y_4 → V p l e rm_L_act s m args below meth c QQ 7 (AU A) 2 (6 * 2) (WY D cA ad YT g) 30 [(0, .ref (ad o 0 1)), (1, .int p1), (2, .int x_1)] [.int y_4] := by
    intro y_4 h
    unfold w_L_act_J30 at h
    refine q_istore_n (lv' := [(3, .int y_4), (0, .ref (ad o 0 1)), (1, .int p1), (2, .int x_1)]) X dL_act_30 rfl (by decide) rfl ?_
    refine q_iconst (v := 1) X dL_act_31 (by decide) ?_
    refine q_iload_n (j := 3) X dL_act_32 rfl rfl ?_
    refine q_bipush (v := 60) X dL_act_33 (by decide) ?_
    refine q_idiv X dL_act_35 (by decide) ?_
    refine q_iload_n (j := 3) X dL_act_36 rfl rfl ?_
    refine q_iconst (v := 3) X dL_act_37 (by decide) ?_
    refine q_irem X dL_act_38 (by decide) ?_
    have J50 : ∀ (y_5 : Int32), w_L_act_J50 o p1 g Q9 x_1 y_4 y_5 → V p l e rm_L_act s m args below meth c QQ 7 (AU A) 2 (6 * 2) (WY D cA ad YT g) 50 [(0, .ref (ad o 0 1)), (1, .int p1), (2, .int x_1), (3, .int y_4)] [.int y_5, .int (x_1 / 60), .int 1] := by
      intro y_5 h
      unfold w_L_act_J50 at h
      obtain ⟨c_6, h⟩ := h
      refine q_irem X dL_act_50 c_6 ?_
      refine q_iadd X dL_act_51 ?_
      refine q_topi (fun x_7 ex_7 => ?_)
      have h := h x_7 ex_7
      refine q_istore (lv' := [(4, .int x_7), (0, .ref (ad o 0 1)), (1, .int p1), (2, .int x_1), (3, .int y_4)]) X dL_act_52 (by decide) rfl ?_
      refine q_iload_n (j := 3) X dL_act_54 rfl rfl ?_
      refine q_bipush (v := 7) X dL_act_55 (by decide) ?_
      refine q_idiv X dL_act_57 (by decide) ?_
      refine q_iconst (v := 5) X dL_act_58 (by decide) ?_
      refine q_irem X dL_act_59 (by decide) ?_
      refine q_topi (fun x_8 ex_8 => ?_)
      have h := h x_8 ex_8
      refine q_istore (lv' := [(5, .int x_8), (4, .int x_7), (0, .ref (ad o 0 1)), (1, .int p1), (2, .int x_1), (3, .int y_4)]) X dL_act_60 (by decide) rfl ?_
      refine q_iload_n (j := 4) X dL_act_62 rfl rfl ?_
      refine q_bipush (v := 6) X dL_act_63 (by decide) ?_
      refine q_irem X dL_act_65 (by decide) ?_
      refine q_topi (fun x_9 ex_9 => ?_)
      have h := h x_9 ex_9
      refine q_istore (lv' := [(6, .int x_9), (5, .int x_8), (4, .int x_7), (0, .ref (ad o 0 1)), (1, .int p1), (2, .int x_1), (3, .int y_4)]) X dL_act_66 (by decide) rfl ?_
      refine q_iload_n (j := 4) X dL_act_68 rfl rfl ?_
      refine q_bipush (v := 20) X dL_act_69 (by decide) ?_
      refine q_irem X dL_act_71 (by decide) ?_
      by_cases c_10 : (p1 - p1 / 20 * 20) = 0
      · have h := h.1 c_10
        refine q_tabI (k := 0) (tgt := 164) X dL_act_72 c_10 (by decide) (by decide) rfl (by decide) ?_
        refine q_aload_n (j := 3) X dL_act_164 rfl rfl ?_
        refine q_iload (j := 0) X dL_act_165 rfl ?_
        refine q_iload (j := 2) X dL_act_167 rfl ?_
        refine q_iconst (v := 1) X dL_act_169 (by decide) ?_
        refine q_iload_n (j := 5) X dL_act_170 rfl rfl ?_
        refine q_sipush (v := 2400) X dL_act_171 (by decide) ?_
        refine q_idiv X dL_act_174 (by decide) ?_
        refine q_sipush (v := 9999) X dL_act_175 (by decide) ?_
        refine q_irem X dL_act_178 (by decide) ?_
        refine q_iadd X dL_act_179 ?_
        refine q_iload (j := 1) X dL_act_180 rfl ?_
        obtain ⟨k_12, h⟩ := h
        refine qG_ownW X hW hZ (fun _ h => h) YT_ok [.ref (ad o 0 1), .int x_9, .int x_7, .int (1 + ((x_1 / 2400) - (x_1 / 2400) / 9999 * 9999)), .int x_8] [] rfl rfl (Nat.le_of_ble_eq_true rfl) dL_act_182 ⟨(Nat.le_of_ble_eq_true rfl), (Nat.le_of_ble_eq_true rfl)⟩ (k_L_enter ha hst o x_9 x_7 (1 + ((x_1 / 2400) - (x_1 / 2400) / 9999 * 9999)) x_8 g k_12) rfl rfl (gSW kw_2_140 kw_2_141 kw_1_0 kw_2_142) hy_L_enter.2 ⟨(Nat.le_of_ble_eq_true rfl), (Nat.le_of_ble_eq_true rfl)⟩ (fun r_11 g_13 hq => ?_)
        refine q_wi (fun hi => ?_)
        have h := h r_11 hq.1 g_13 hq.2 hi
        exact hE _ _ _ _ _ _ dL_act_185 (by omega) (by omega) h
      have h := h.2
      have nc_10_0 := c_10
      by_cases c_10 : (p1 - p1 / 20 * 20) = 1
      · have h := h.1 c_10
        refine q_tabI (k := 1) (tgt := 164) X dL_act_72 c_10 (by decide) (by decide) rfl (by decide) ?_
        refine q_aload_n (j := 3) X dL_act_164 rfl rfl ?_
        refine q_iload (j := 0) X dL_act_165 rfl ?_
        refine q_iload (j := 2) X dL_act_167 rfl ?_
        refine q_iconst (v := 1) X dL_act_169 (by decide) ?_
        refine q_iload_n (j := 5) X dL_act_170 rfl rfl ?_
        refine q_sipush (v := 2400) X dL_act_171 (by decide) ?_
        refine q_idiv X dL_act_174 (by decide) ?_
        refine q_sipush (v := 9999) X dL_act_175 (by decide) ?_
        refine q_irem X dL_act_178 (by decide) ?_
        refine q_iadd X dL_act_179 ?_
        refine q_iload (j := 1) X dL_act_180 rfl ?_
        obtain ⟨k_15, h⟩ := h
        refine qG_ownW X hW hZ (fun _ h => h) YT_ok [.ref (ad o 0 1), .int x_9, .int x_7, .int (1 + ((x_1 / 2400) - (x_1 / 2400) / 9999 * 9999)), .int x_8] [] rfl rfl (Nat.le_of_ble_eq_true rfl) dL_act_182 ⟨(Nat.le_of_ble_eq_true rfl), (Nat.le_of_ble_eq_true rfl)⟩ (k_L_enter ha hst o x_9 x_7 (1 + ((x_1 / 2400) - (x_1 / 2400) / 9999 * 9999)) x_8 g k_15) rfl rfl (gSW kw_2_140 kw_2_141 kw_1_0 kw_2_142) hy_L_enter.2 ⟨(Nat.le_of_ble_eq_true rfl), (Nat.le_of_ble_eq_true rfl)⟩ (fun r_14 g_16 hq => ?_)
        refine q_wi (fun hi => ?_)
        have h := h r_14 hq.1 g_16 hq.2 hi
        exact hE _ _ _ _ _ _ dL_act_185 (by omega) (by omega) h
      have h := h.2
      have nc_10_1 := c_10
      by_cases c_10 : (p1 - p1 / 20 * 20) = 2
      · have h := h.1 c_10
        refine q_tabI (k := 2) (tgt := 164) X dL_act_72 c_10 (by decide) (by decide) rfl (by decide) ?_
        refine q_aload_n (j := 3) X dL_act_164 rfl rfl ?_
        refine q_iload (j := 0) X dL_act_165 rfl ?_
        refine q_iload (j := 2) X dL_act_167 rfl ?_
        refine q_iconst (v := 1) X dL_act_169 (by decide) ?_
        refine q_iload_n (j := 5) X dL_act_170 rfl rfl ?_
        refine q_sipush (v := 2400) X dL_act_171 (by decide) ?_
        refine q_idiv X dL_act_174 (by decide) ?_
        refine q_sipush (v := 9999) X dL_act_175 (by decide) ?_
        refine q_irem X dL_act_178 (by decide) ?_
        refine q_iadd X dL_act_179 ?_
        refine q_iload (j := 1) X dL_act_180 rfl ?_
        obtain ⟨k_18, h⟩ := h
        refine qG_ownW X hW hZ (fun _ h => h) YT_ok [.ref (ad o 0 1), .int x_9, .int x_7, .int (1 + ((x_1 / 2400) - (x_1 / 2400) / 9999 * 9999)), .int x_8] [] rfl rfl (Nat.le_of_ble_eq_true rfl) dL_act_182 ⟨(Nat.le_of_ble_eq_true rfl), (Nat.le_of_ble_eq_true rfl)⟩ (k_L_enter ha hst o x_9 x_7 (1 + ((x_1 / 2400) - (x_1 / 2400) / 9999 * 9999)) x_8 g k_18) rfl rfl (gSW kw_2_140 kw_2_141 kw_1_0 kw_2_142) hy_L_enter.2 ⟨(Nat.le_of_ble_eq_true rfl), (Nat.le_of_ble_eq_true rfl)⟩ (fun r_17 g_19 hq => ?_)
        refine q_wi (fun hi => ?_)
        have h := h r_17 hq.1 g_19 hq.2 hi
        exact hE _ _ _ _ _ _ dL_act_185 (by omega) (by omega) h
      have h := h.2
      have nc_10_2 := c_10
      by_cases c_10 : (p1 - p1 / 20 * 20) = 3
      · have h := h.1 c_10
        refine q_tabI (k := 3) (tgt := 164) X dL_act_72 c_10 (by decide) (by decide) rfl (by decide) ?_
        refine q_aload_n (j := 3) X dL_act_164 rfl rfl ?_
        refine q_iload (j := 0) X dL_act_165 rfl ?_
        refine q_iload (j := 2) X dL_act_167 rfl ?_
        refine q_iconst (v := 1) X dL_act_169 (by decide) ?_
        refine q_iload_n (j := 5) X dL_act_170 rfl rfl ?_
        refine q_sipush (v := 2400) X dL_act_171 (by decide) ?_
        refine q_idiv X dL_act_174 (by decide) ?_
        refine q_sipush (v := 9999) X dL_act_175 (by decide) ?_
        refine q_irem X dL_act_178 (by decide) ?_
        refine q_iadd X dL_act_179 ?_
        refine q_iload (j := 1) X dL_act_180 rfl ?_
        obtain ⟨k_21, h⟩ := h
        refine qG_ownW X hW hZ (fun _ h => h) YT_ok [.ref (ad o 0 1), .int x_9, .int x_7, .int (1 + ((x_1 / 2400) - (x_1 / 2400) / 9999 * 9999)), .int x_8] [] rfl rfl (Nat.le_of_ble_eq_true rfl) dL_act_182 ⟨(Nat.le_of_ble_eq_true rfl), (Nat.le_of_ble_eq_true rfl)⟩ (k_L_enter ha hst o x_9 x_7 (1 + ((x_1 / 2400) - (x_1 / 2400) / 9999 * 9999)) x_8 g k_21) rfl rfl (gSW kw_2_140 kw_2_141 kw_1_0 kw_2_142) hy_L_enter.2 ⟨(Nat.le_of_ble_eq_true rfl), (Nat.le_of_ble_eq_true rfl)⟩ (fun r_20 g_22 hq => ?_)
        refine q_wi (fun hi => ?_)
        have h := h r_20 hq.1 g_22 hq.2 hi
        exact hE _ _ _ _ _ _ dL_act_185 (by omega) (by omega) h
      have h := h.2
      have nc_10_3 := c_10
      by_cases c_10 : (p1 - p1 / 20 * 20) = 4
      · have h := h.1 c_10
        refine q_tabI (k := 4) (tgt := 186) X dL_act_72 c_10 (by decide) (by decide) rfl (by decide) ?_
        refine q_aload_n (j := 3) X dL_act_186 rfl rfl ?_
        refine q_iconst (v := 0) X dL_act_187 (by decide) ?_
        refine q_iload_n (j := 6) X dL_act_188 rfl rfl ?_
        refine q_iload (j := 2) X dL_act_189 rfl ?_
        refine q_iconst (v := 0) X dL_act_191 (by decide) ?_
        obtain ⟨k_24, h⟩ := h
        refine qG_own X hW hZ (fun _ h => h) YT_ok [.ref (ad o 0 1), .int 0, .int y_4, .int x_7, .int 0] [] rfl rfl (Nat.le_of_ble_eq_true rfl) dL_act_192 ⟨(Nat.le_of_ble_eq_true rfl), (Nat.le_of_ble_eq_true rfl)⟩ (k_C_0 ha hst o y_4 x_7 0 g k_24) rfl rfl (gS kw_3_88 kw_3_89 kw_1_0 kw_3_90) hy_L_call.2 ⟨(Nat.le_of_ble_eq_true rfl), (Nat.le_of_ble_eq_true rfl)⟩ (fun r_23 g_25 hq => ?_)
        refine q_wi (fun hi => ?_)
        have h := h r_23 hq.1 g_25 hq.2 hi
        exact hE _ _ _ _ _ _ dL_act_195 (by omega) (by omega) h
      have h := h.2
      have nc_10_4 := c_10
      by_cases c_10 : (p1 - p1 / 20 * 20) = 5
      · have h := h.1 c_10
        refine q_tabI (k := 5) (tgt := 186) X dL_act_72 c_10 (by decide) (by decide) rfl (by decide) ?_
        refine q_aload_n (j := 3) X dL_act_186 rfl rfl ?_
        refine q_iconst (v := 0) X dL_act_187 (by decide) ?_
        refine q_iload_n (j := 6) X dL_act_188 rfl rfl ?_
        refine q_iload (j := 2) X dL_act_189 rfl ?_
        refine q_iconst (v := 0) X dL_act_191 (by decide) ?_
        obtain ⟨k_27, h⟩ := h
        refine qG_own X hW hZ (fun _ h => h) YT_ok [.ref (ad o 0 1), .int 0, .int y_4, .int x_7, .int 0] [] rfl rfl (Nat.le_of_ble_eq_true rfl) dL_act_192 ⟨(Nat.le_of_ble_eq_true rfl), (Nat.le_of_ble_eq_true rfl)⟩ (k_C_0 ha hst o y_4 x_7 0 g k_27) rfl rfl (gS kw_3_88 kw_3_89 kw_1_0 kw_3_90) hy_L_call.2 ⟨(Nat.le_of_ble_eq_true rfl), (Nat.le_of_ble_eq_true rfl)⟩ (fun r_26 g_28 hq => ?_)
        refine q_wi (fun hi => ?_)
        have h := h r_26 hq.1 g_28 hq.2 hi
        exact hE _ _ _ _ _ _ dL_act_195 (by omega) (by omega) h
      have h := h.2
      have nc_10_5 := c_10
      by_cases c_10 : (p1 - p1 / 20 * 20) = 6
      · have h := h.1 c_10
        refine q_tabI (k := 6) (tgt := 196) X dL_act_72 c_10 (by decide) (by decide) rfl (by decide) ?_
        refine q_aload_n (j := 3) X dL_act_196 rfl rfl ?_
        refine q_iconst (v := 1) X dL_act_197 (by decide) ?_
        refine q_iload_n (j := 6) X dL_act_198 rfl rfl ?_
        refine q_iload (j := 2) X dL_act_199 rfl ?_
        refine q_iconst (v := 0) X dL_act_201 (by decide) ?_
        obtain ⟨k_30, h⟩ := h
        refine qG_own X hW hZ (fun _ h => h) YT_ok [.ref (ad o 0 1), .int 1, .int y_4, .int x_7, .int 0] [] rfl rfl (Nat.le_of_ble_eq_true rfl) dL_act_202 ⟨(Nat.le_of_ble_eq_true rfl), (Nat.le_of_ble_eq_true rfl)⟩ (k_C_1 ha hst o y_4 x_7 0 g k_30) rfl rfl (gS kw_3_88 kw_3_89 kw_1_0 kw_3_90) hy_L_call.2 ⟨(Nat.le_of_ble_eq_true rfl), (Nat.le_of_ble_eq_true rfl)⟩ (fun r_29 g_31 hq => ?_)
        refine q_wi (fun hi => ?_)
        have h := h r_29 hq.1 g_31 hq.2 hi
        exact hE _ _ _ _ _ _ dL_act_205 (by omega) (by omega) h
      have h := h.2
      have nc_10_6 := c_10
      by_cases c_10 : (p1 - p1 / 20 * 20) = 7
      · have h := h.1 c_10
        refine q_tabI (k := 7) (tgt := 206) X dL_act_72 c_10 (by decide) (by decide) rfl (by decide) ?_
        refine q_aload_n (j := 3) X dL_act_206 rfl rfl ?_
        refine q_iconst (v := 2) X dL_act_207 (by decide) ?_
        refine q_iload_n (j := 5) X dL_act_208 rfl rfl ?_
        refine q_iconst (v := 3) X dL_act_209 (by decide) ?_
        refine q_irem X dL_act_210 (by decide) ?_
        refine q_iload (j := 2) X dL_act_211 rfl ?_
        refine q_iconst (v := 0) X dL_act_213 (by decide) ?_
        obtain ⟨k_33, h⟩ := h
        refine qG_own X hW hZ (fun _ h => h) YT_ok [.ref (ad o 0 1), .int 2, .int (x_1 - x_1 / 3 * 3), .int x_7, .int 0] [] rfl rfl (Nat.le_of_ble_eq_true rfl) dL_act_214 ⟨(Nat.le_of_ble_eq_true rfl), (Nat.le_of_ble_eq_true rfl)⟩ (k_C_2 ha hst o (x_1 - x_1 / 3 * 3) x_7 0 g k_33) rfl rfl (gS kw_3_88 kw_3_89 kw_1_0 kw_3_90) hy_L_call.2 ⟨(Nat.le_of_ble_eq_true rfl), (Nat.le_of_ble_eq_true rfl)⟩ (fun r_32 g_34 hq => ?_)
        refine q_wi (fun hi => ?_)
        have h := h r_32 hq.1 g_34 hq.2 hi
        exact hE _ _ _ _ _ _ dL_act_217 (by omega) (by omega) h
      have h := h.2
      have nc_10_7 := c_10
      by_cases c_10 : (p1 - p1 / 20 * 20) = 8
      · have h := h.1 c_10
        refine q_tabI (k := 8) (tgt := 218) X dL_act_72 c_10 (by decide) (by decide) rfl (by decide) ?_
        refine q_aload_n (j := 3) X dL_act_218 rfl rfl ?_
        refine q_iconst (v := 3) X dL_act_219 (by decide) ?_
        refine q_iload_n (j := 6) X dL_act_220 rfl rfl ?_
        refine q_iload (j := 1) X dL_act_221 rfl ?_
        refine q_iconst (v := 0) X dL_act_223 (by decide) ?_
        obtain ⟨k_36, h⟩ := h
        refine qG_own X hW hZ (fun _ h => h) YT_ok [.ref (ad o 0 1), .int 3, .int y_4, .int x_8, .int 0] [] rfl rfl (Nat.le_of_ble_eq_true rfl) dL_act_224 ⟨(Nat.le_of_ble_eq_true rfl), (Nat.le_of_ble_eq_true rfl)⟩ (k_C_3 ha hst o y_4 x_8 0 g k_36) rfl rfl (gS kw_3_88 kw_3_89 kw_1_0 kw_3_90) hy_L_call.2 ⟨(Nat.le_of_ble_eq_true rfl), (Nat.le_of_ble_eq_true rfl)⟩ (fun r_35 g_37 hq => ?_)
        refine q_wi (fun hi => ?_)
        have h := h r_35 hq.1 g_37 hq.2 hi
        exact hE _ _ _ _ _ _ dL_act_227 (by omega) (by omega) h
      have h := h.2
      have nc_10_8 := c_10
      by_cases c_10 : (p1 - p1 / 20 * 20) = 9
      · have h := h.1 c_10
        refine q_tabI (k := 9) (tgt := 228) X dL_act_72 c_10 (by decide) (by decide) rfl (by decide) ?_
        refine q_aload_n (j := 3) X dL_act_228 rfl rfl ?_
        refine q_iconst (v := 4) X dL_act_229 (by decide) ?_
        refine q_iload_n (j := 6) X dL_act_230 rfl rfl ?_
        refine q_iload (j := 2) X dL_act_231 rfl ?_
        refine q_iconst (v := 0) X dL_act_233 (by decide) ?_
        obtain ⟨k_39, h⟩ := h
        refine qG_own X hW hZ (fun _ h => h) YT_ok [.ref (ad o 0 1), .int 4, .int y_4, .int x_7, .int 0] [] rfl rfl (Nat.le_of_ble_eq_true rfl) dL_act_234 ⟨(Nat.le_of_ble_eq_true rfl), (Nat.le_of_ble_eq_true rfl)⟩ (k_C_4 ha hst o y_4 x_7 0 g k_39) rfl rfl (gS kw_3_88 kw_3_89 kw_1_0 kw_3_90) hy_L_call.2 ⟨(Nat.le_of_ble_eq_true rfl), (Nat.le_of_ble_eq_true rfl)⟩ (fun r_38 g_40 hq => ?_)
        refine q_wi (fun hi => ?_)
        have h := h r_38 hq.1 g_40 hq.2 hi
        exact hE _ _ _ _ _ _ dL_act_237 (by omega) (by omega) h
      have h := h.2
      have nc_10_9 := c_10
      by_cases c_10 : (p1 - p1 / 20 * 20) = 10
      · have h := h.1 c_10
        refine q_tabI (k := 10) (tgt := 238) X dL_act_72 c_10 (by decide) (by decide) rfl (by decide) ?_
        refine q_aload_n (j := 3) X dL_act_238 rfl rfl ?_
        obtain ⟨k_42, h⟩ := h
        refine qG_ask X hW hZ ha (fun _ h => h) YT_ok o (val := (v_entries (g.1 o))) (Qp := (fun mo r m1 => r = (v_entries (g.1 o)) ∧ mo = m1)) [] [] rfl rfl (Nat.le_of_ble_eq_true rfl) dL_act_239 ⟨(Nat.le_of_ble_eq_true rfl), (Nat.le_of_ble_eq_true rfl)⟩ k_42 (fun mo hmo => c_X9_entries (ha.1 o)  mo _ (n_entries hmo.rs hmo.inv  _ rfl)) (fun mo r m1 hr h => ⟨h.1, by rw [← h.2]; exact hr⟩) rfl rfl (gV kw_6_130 kw_6_131 kw_6_132 kw_1_1 kw_6_133) hy_X9_entries ⟨(Nat.le_of_ble_eq_true rfl), (Nat.le_of_ble_eq_true rfl)⟩ ?_
        refine q_topi (fun r_41 er_41 => ?_)
        have h := h r_41 er_41
        refine q_if_ne (tgt := 249) X dL_act_242 (by decide) (fun c_43 => ?_) (fun c_43 => ?_)
        · have h := h.1 c_43
          refine q_aload_n (j := 3) X dL_act_249 rfl rfl ?_
          refine q_iconst (v := 5) X dL_act_250 (by decide) ?_
          refine q_iload_n (j := 6) X dL_act_251 rfl rfl ?_
          refine q_aload_n (j := 3) X dL_act_252 rfl rfl ?_
          refine q_bipush (v := 15) X dL_act_253 (by decide) ?_
          refine q_iload_n (j := 5) X dL_act_255 rfl rfl ?_
          refine q_bipush (v := 64) X dL_act_256 (by decide) ?_
          refine q_idiv X dL_act_258 (by decide) ?_
          refine q_aload_n (j := 3) X dL_act_259 rfl rfl ?_
          obtain ⟨k_45, h⟩ := h
          refine qG_ask X hW hZ ha (fun _ h => h) YT_ok o (val := (v_entries (g.1 o))) (Qp := (fun mo r m1 => r = (v_entries (g.1 o)) ∧ mo = m1)) [] [.int (x_1 / 64), .int 15, .ref (ad o 0 1), .int y_4, .int 5, .ref (ad o 0 1)] rfl rfl (Nat.le_of_ble_eq_true rfl) dL_act_260 ⟨(Nat.le_of_ble_eq_true rfl), (Nat.le_of_ble_eq_true rfl)⟩ k_45 (fun mo hmo => c_X9_entries (ha.1 o)  mo _ (n_entries hmo.rs hmo.inv  _ rfl)) (fun mo r m1 hr h => ⟨h.1, by rw [← h.2]; exact hr⟩) rfl rfl (gV kw_6_130 kw_6_131 kw_6_132 kw_1_1 kw_6_133) hy_X9_entries ⟨(Nat.le_of_ble_eq_true rfl), (Nat.le_of_ble_eq_true rfl)⟩ ?_
          refine q_topi (fun r_44 er_44 => ?_)
          have h := h r_44 er_44
          obtain ⟨c_46, h⟩ := h
          refine q_irem X dL_act_263 c_46 ?_
          refine q_iconst (v := 0) X dL_act_264 (by decide) ?_
          refine q_iconst (v := 0) X dL_act_265 (by decide) ?_
          obtain ⟨k_48, h⟩ := h
          refine qG_own X hW hZ (fun _ h => h) YT_ok [.ref (ad o 0 1), .int 15, .int ((x_1 / 64) - (x_1 / 64) / r_44 * r_44), .int 0, .int 0] [.int y_4, .int 5, .ref (ad o 0 1)] rfl rfl (Nat.le_of_ble_eq_true rfl) dL_act_266 ⟨(Nat.le_of_ble_eq_true rfl), (Nat.le_of_ble_eq_true rfl)⟩ (k_C_15 ha hst o ((x_1 / 64) - (x_1 / 64) / r_44 * r_44) 0 0 g k_48) rfl rfl (gS kw_3_88 kw_3_89 kw_1_0 kw_3_90) hy_L_call.2 ⟨(Nat.le_of_ble_eq_true rfl), (Nat.le_of_ble_eq_true rfl)⟩ (fun r_47 g9 hq => ?_)
          obtain ⟨er_47, hq⟩ := hq
          rw [hq]
          have h := h r_47 er_47
          refine q_iconst (v := 0) X dL_act_269 (by decide) ?_
          obtain ⟨k_50, h⟩ := h
          refine qG_own X hW hZ (fun _ h => h) YT_ok [.ref (ad o 0 1), .int 5, .int y_4, .int r_47, .int 0] [] rfl rfl (Nat.le_of_ble_eq_true rfl) dL_act_270 ⟨(Nat.le_of_ble_eq_true rfl), (Nat.le_of_ble_eq_true rfl)⟩ (k_C_5 ha hst o y_4 r_47 0 g k_50) rfl rfl (gS kw_3_88 kw_3_89 kw_1_0 kw_3_90) hy_L_call.2 ⟨(Nat.le_of_ble_eq_true rfl), (Nat.le_of_ble_eq_true rfl)⟩ (fun r_49 g_51 hq => ?_)
          refine q_wi (fun hi => ?_)
          have h := h r_49 hq.1 g_51 hq.2 hi
          exact hE _ _ _ _ _ _ dL_act_273 (by omega) (by omega) h
        · have h := h.2 c_43
          refine q_iconst (v := (-1)) X dL_act_245 (by decide) ?_
          refine q_goto (tgt := 273) X dL_act_246 (by decide) ?_
          exact hE _ _ _ _ _ _ dL_act_273 (by omega) (by omega) h
      have h := h.2
      have nc_10_10 := c_10
      by_cases c_10 : (p1 - p1 / 20 * 20) = 11
      · have h := h.1 c_10
        refine q_tabI (k := 11) (tgt := 274) X dL_act_72 c_10 (by decide) (by decide) rfl (by decide) ?_
        refine q_aload_n (j := 3) X dL_act_274 rfl rfl ?_
        refine q_bipush (v := 6) X dL_act_275 (by decide) ?_
        refine q_iload_n (j := 6) X dL_act_277 rfl rfl ?_
        refine q_iload (j := 2) X dL_act_278 rfl ?_
        refine q_iconst (v := 0) X dL_act_280 (by decide) ?_
        obtain ⟨k_53, h⟩ := h
        refine qG_own X hW hZ (fun _ h => h) YT_ok [.ref (ad o 0 1), .int 6, .int y_4, .int x_7, .int 0] [] rfl rfl (Nat.le_of_ble_eq_true rfl) dL_act_281 ⟨(Nat.le_of_ble_eq_true rfl), (Nat.le_of_ble_eq_true rfl)⟩ (k_C_6 ha hst o y_4 x_7 0 g k_53) rfl rfl (gS kw_3_88 kw_3_89 kw_1_0 kw_3_90) hy_L_call.2 ⟨(Nat.le_of_ble_eq_true rfl), (Nat.le_of_ble_eq_true rfl)⟩ (fun r_52 g_54 hq => ?_)
        refine q_wi (fun hi => ?_)
        have h := h r_52 hq.1 g_54 hq.2 hi
        exact hE _ _ _ _ _ _ dL_act_284 (by omega) (by omega) h
      have h := h.2
      have nc_10_11 := c_10
      by_cases c_10 : (p1 - p1 / 20 * 20) = 12
      · have h := h.1 c_10
        refine q_tabI (k := 12) (tgt := 285) X dL_act_72 c_10 (by decide) (by decide) rfl (by decide) ?_
        refine q_iload_n (j := 5) X dL_act_285 rfl rfl ?_
        refine q_iconst (v := 2) X dL_act_286 (by decide) ?_
        refine q_irem X dL_act_287 (by decide) ?_
        refine q_if_ne (tgt := 304) X dL_act_288 (by decide) (fun c_55 => ?_) (fun c_55 => ?_)
        · have h := h.1 c_55
          refine q_aload_n (j := 3) X dL_act_304 rfl rfl ?_
          refine q_bipush (v := 9) X dL_act_305 (by decide) ?_
          refine q_iload (j := 1) X dL_act_307 rfl ?_
          refine q_iconst (v := 0) X dL_act_309 (by decide) ?_
          refine q_iconst (v := 0) X dL_act_310 (by decide) ?_
          obtain ⟨k_57, h⟩ := h
          refine qG_own X hW hZ (fun _ h => h) YT_ok [.ref (ad o 0 1), .int 9, .int x_8, .int 0, .int 0] [] rfl rfl (Nat.le_of_ble_eq_true rfl) dL_act_311 ⟨(Nat.le_of_ble_eq_true rfl), (Nat.le_of_ble_eq_true rfl)⟩ (k_C_9 ha hst o x_8 0 0 g k_57) rfl rfl (gS kw_3_88 kw_3_89 kw_1_0 kw_3_90) hy_L_call.2 ⟨(Nat.le_of_ble_eq_true rfl), (Nat.le_of_ble_eq_true rfl)⟩ (fun r_56 g_58 hq => ?_)
          refine q_wi (fun hi => ?_)
          have h := h r_56 hq.1 g_58 hq.2 hi
          exact hE _ _ _ _ _ _ dL_act_314 (by omega) (by omega) h
        · have h := h.2 c_55
          refine q_aload_n (j := 3) X dL_act_291 rfl rfl ?_
          refine q_bipush (v := 7) X dL_act_292 (by decide) ?_
          refine q_iload (j := 1) X dL_act_294 rfl ?_
          refine q_iconst (v := 0) X dL_act_296 (by decide) ?_
          refine q_iconst (v := 0) X dL_act_297 (by decide) ?_
          obtain ⟨k_60, h⟩ := h
          refine qG_own X hW hZ (fun _ h => h) YT_ok [.ref (ad o 0 1), .int 7, .int x_8, .int 0, .int 0] [] rfl rfl (Nat.le_of_ble_eq_true rfl) dL_act_298 ⟨(Nat.le_of_ble_eq_true rfl), (Nat.le_of_ble_eq_true rfl)⟩ (k_C_7 ha hst o x_8 0 0 g k_60) rfl rfl (gS kw_3_88 kw_3_89 kw_1_0 kw_3_90) hy_L_call.2 ⟨(Nat.le_of_ble_eq_true rfl), (Nat.le_of_ble_eq_true rfl)⟩ (fun r_59 g_61 hq => ?_)
          refine q_wi (fun hi => ?_)
          have h := h r_59 hq.1 g_61 hq.2 hi
          refine q_goto (tgt := 314) X dL_act_301 (by decide) ?_
          exact hE _ _ _ _ _ _ dL_act_314 (by omega) (by omega) h
      have h := h.2
      have nc_10_12 := c_10
      by_cases c_10 : (p1 - p1 / 20 * 20) = 13
      · have h := h.1 c_10
        refine q_tabI (k := 13) (tgt := 315) X dL_act_72 c_10 (by decide) (by decide) rfl (by decide) ?_
        refine q_aload_n (j := 3) X dL_act_315 rfl rfl ?_
        refine q_bipush (v := 8) X dL_act_316 (by decide) ?_
        refine q_iload (j := 1) X dL_act_318 rfl ?_
        refine q_iconst (v := 0) X dL_act_320 (by decide) ?_
        refine q_iconst (v := 0) X dL_act_321 (by decide) ?_
        obtain ⟨k_63, h⟩ := h
        refine qG_own X hW hZ (fun _ h => h) YT_ok [.ref (ad o 0 1), .int 8, .int x_8, .int 0, .int 0] [] rfl rfl (Nat.le_of_ble_eq_true rfl) dL_act_322 ⟨(Nat.le_of_ble_eq_true rfl), (Nat.le_of_ble_eq_true rfl)⟩ (k_C_8 ha hst o x_8 0 0 g k_63) rfl rfl (gS kw_3_88 kw_3_89 kw_1_0 kw_3_90) hy_L_call.2 ⟨(Nat.le_of_ble_eq_true rfl), (Nat.le_of_ble_eq_true rfl)⟩ (fun r_62 g_64 hq => ?_)
        refine q_wi (fun hi => ?_)
        have h := h r_62 hq.1 g_64 hq.2 hi
        exact hE _ _ _ _ _ _ dL_act_325 (by omega) (by omega) h
      have h := h.2
      have nc_10_13 := c_10
      by_cases c_10 : (p1 - p1 / 20 * 20) = 14
      · have h := h.1 c_10
        refine q_tabI (k := 14) (tgt := 326) X dL_act_72 c_10 (by decide) (by decide) rfl (by decide) ?_
        refine q_aload_n (j := 3) X dL_act_326 rfl rfl ?_
        refine q_bipush (v := 10) X dL_act_327 (by decide) ?_
        refine q_iconst (v := 1) X dL_act_329 (by decide) ?_
        refine q_iload_n (j := 5) X dL_act_330 rfl rfl ?_
        refine q_sipush (v := 9999) X dL_act_331 (by decide) ?_
        refine q_irem X dL_act_334 (by decide) ?_
        refine q_iadd X dL_act_335 ?_
        refine q_iconst (v := 0) X dL_act_336 (by decide) ?_
        refine q_iconst (v := 0) X dL_act_337 (by decide) ?_
        obtain ⟨k_66, h⟩ := h
        refine qG_own X hW hZ (fun _ h => h) YT_ok [.ref (ad o 0 1), .int 10, .int (1 + (x_1 - x_1 / 9999 * 9999)), .int 0, .int 0] [] rfl rfl (Nat.le_of_ble_eq_true rfl) dL_act_338 ⟨(Nat.le_of_ble_eq_true rfl), (Nat.le_of_ble_eq_true rfl)⟩ (k_C_10 ha hst o (1 + (x_1 - x_1 / 9999 * 9999)) 0 0 g k_66) rfl rfl (gS kw_3_88 kw_3_89 kw_1_0 kw_3_90) hy_L_call.2 ⟨(Nat.le_of_ble_eq_true rfl), (Nat.le_of_ble_eq_true rfl)⟩ (fun r_65 g_67 hq => ?_)
        refine q_wi (fun hi => ?_)
        have h := h r_65 hq.1 g_67 hq.2 hi
        exact hE _ _ _ _ _ _ dL_act_341 (by omega) (by omega) h
      have h := h.2
      have nc_10_14 := c_10
      by_cases c_10 : (p1 - p1 / 20 * 20) = 15
      · have h := h.1 c_10
        refine q_tabI (k := 15) (tgt := 342) X dL_act_72 c_10 (by decide) (by decide) rfl (by decide) ?_
        refine q_aload_n (j := 3) X dL_act_342 rfl rfl ?_
        refine q_bipush (v := 11) X dL_act_343 (by decide) ?_
        refine q_iload_n (j := 5) X dL_act_345 rfl rfl ?_
        refine q_ldcw (v := 50001) X kw_6_129 dL_act_346 ?_
        refine q_irem X dL_act_349 (by decide) ?_
        refine q_iconst (v := 0) X dL_act_350 (by decide) ?_
        refine q_iconst (v := 0) X dL_act_351 (by decide) ?_
        obtain ⟨k_69, h⟩ := h
        refine qG_own X hW hZ (fun _ h => h) YT_ok [.ref (ad o 0 1), .int 11, .int (x_1 - x_1 / 50001 * 50001), .int 0, .int 0] [] rfl rfl (Nat.le_of_ble_eq_true rfl) dL_act_352 ⟨(Nat.le_of_ble_eq_true rfl), (Nat.le_of_ble_eq_true rfl)⟩ (k_C_11 ha hst o (x_1 - x_1 / 50001 * 50001) 0 0 g k_69) rfl rfl (gS kw_3_88 kw_3_89 kw_1_0 kw_3_90) hy_L_call.2 ⟨(Nat.le_of_ble_eq_true rfl), (Nat.le_of_ble_eq_true rfl)⟩ (fun r_68 g_70 hq => ?_)
        refine q_wi (fun hi => ?_)
        have h := h r_68 hq.1 g_70 hq.2 hi
        exact hE _ _ _ _ _ _ dL_act_355 (by omega) (by omega) h
      have h := h.2
      have nc_10_15 := c_10
      by_cases c_10 : (p1 - p1 / 20 * 20) = 16
      · have h := h.1 c_10
        refine q_tabI (k := 16) (tgt := 356) X dL_act_72 c_10 (by decide) (by decide) rfl (by decide) ?_
        refine q_iload_n (j := 5) X dL_act_356 rfl rfl ?_
        refine q_iconst (v := 2) X dL_act_357 (by decide) ?_
        refine q_irem X dL_act_358 (by decide) ?_
        refine q_if_ne (tgt := 381) X dL_act_359 (by decide) (fun c_71 => ?_) (fun c_71 => ?_)
        · have h := h.1 c_71
          refine q_aload_n (j := 3) X dL_act_381 rfl rfl ?_
          refine q_bipush (v := 13) X dL_act_382 (by decide) ?_
          refine q_iload (j := 0) X dL_act_384 rfl ?_
          refine q_iload_n (j := 5) X dL_act_386 rfl rfl ?_
          refine q_bipush (v := 12) X dL_act_387 (by decide) ?_
          refine q_idiv X dL_act_389 (by decide) ?_
          refine q_bipush (v := 81) X dL_act_390 (by decide) ?_
          refine q_irem X dL_act_392 (by decide) ?_
          refine q_iconst (v := 0) X dL_act_393 (by decide) ?_
          obtain ⟨k_73, h⟩ := h
          refine qG_own X hW hZ (fun _ h => h) YT_ok [.ref (ad o 0 1), .int 13, .int x_9, .int ((x_1 / 12) - (x_1 / 12) / 81 * 81), .int 0] [] rfl rfl (Nat.le_of_ble_eq_true rfl) dL_act_394 ⟨(Nat.le_of_ble_eq_true rfl), (Nat.le_of_ble_eq_true rfl)⟩ (k_C_13 ha hst o x_9 ((x_1 / 12) - (x_1 / 12) / 81 * 81) 0 g k_73) rfl rfl (gS kw_3_88 kw_3_89 kw_1_0 kw_3_90) hy_L_call.2 ⟨(Nat.le_of_ble_eq_true rfl), (Nat.le_of_ble_eq_true rfl)⟩ (fun r_72 g_74 hq => ?_)
          refine q_wi (fun hi => ?_)
          have h := h r_72 hq.1 g_74 hq.2 hi
          exact hE _ _ _ _ _ _ dL_act_397 (by omega) (by omega) h
        · have h := h.2 c_71
          refine q_aload_n (j := 3) X dL_act_362 rfl rfl ?_
          refine q_bipush (v := 12) X dL_act_363 (by decide) ?_
          refine q_iload (j := 0) X dL_act_365 rfl ?_
          refine q_iload_n (j := 5) X dL_act_367 rfl rfl ?_
          refine q_bipush (v := 12) X dL_act_368 (by decide) ?_
          refine q_idiv X dL_act_370 (by decide) ?_
          refine q_bipush (v := 61) X dL_act_371 (by decide) ?_
          refine q_irem X dL_act_373 (by decide) ?_
          refine q_iconst (v := 0) X dL_act_374 (by decide) ?_
          obtain ⟨k_76, h⟩ := h
          refine qG_own X hW hZ (fun _ h => h) YT_ok [.ref (ad o 0 1), .int 12, .int x_9, .int ((x_1 / 12) - (x_1 / 12) / 61 * 61), .int 0] [] rfl rfl (Nat.le_of_ble_eq_true rfl) dL_act_375 ⟨(Nat.le_of_ble_eq_true rfl), (Nat.le_of_ble_eq_true rfl)⟩ (k_C_12 ha hst o x_9 ((x_1 / 12) - (x_1 / 12) / 61 * 61) 0 g k_76) rfl rfl (gS kw_3_88 kw_3_89 kw_1_0 kw_3_90) hy_L_call.2 ⟨(Nat.le_of_ble_eq_true rfl), (Nat.le_of_ble_eq_true rfl)⟩ (fun r_75 g_77 hq => ?_)
          refine q_wi (fun hi => ?_)
          have h := h r_75 hq.1 g_77 hq.2 hi
          refine q_goto (tgt := 397) X dL_act_378 (by decide) ?_
          exact hE _ _ _ _ _ _ dL_act_397 (by omega) (by omega) h
      have h := h.2
      have nc_10_16 := c_10
      by_cases c_10 : (p1 - p1 / 20 * 20) = 17
      · have h := h.1 c_10
        refine q_tabI (k := 17) (tgt := 398) X dL_act_72 c_10 (by decide) (by decide) rfl (by decide) ?_
        refine q_aload_n (j := 3) X dL_act_398 rfl rfl ?_
        refine q_bipush (v := 53) X dL_act_399 (by decide) ?_
        refine q_iconst (v := 0) X dL_act_401 (by decide) ?_
        refine q_iconst (v := 0) X dL_act_402 (by decide) ?_
        refine q_iconst (v := 0) X dL_act_403 (by decide) ?_
        obtain ⟨k_79, h⟩ := h
        refine qG_own X hW hZ (fun _ h => h) YT_ok [.ref (ad o 0 1), .int 53, .int 0, .int 0, .int 0] [] rfl rfl (Nat.le_of_ble_eq_true rfl) dL_act_404 ⟨(Nat.le_of_ble_eq_true rfl), (Nat.le_of_ble_eq_true rfl)⟩ (k_C_53 ha hst o 0 0 0 g k_79) rfl rfl (gS kw_3_88 kw_3_89 kw_1_0 kw_3_90) hy_L_call.2 ⟨(Nat.le_of_ble_eq_true rfl), (Nat.le_of_ble_eq_true rfl)⟩ (fun r_78 g_80 hq => ?_)
        refine q_wi (fun hi => ?_)
        have h := h r_78 hq.1 g_80 hq.2 hi
        exact hE _ _ _ _ _ _ dL_act_407 (by omega) (by omega) h
      have h := h.2
      have nc_10_17 := c_10
      by_cases c_10 : (p1 - p1 / 20 * 20) = 18
      · have h := h.1 c_10
        refine q_tabI (k := 18) (tgt := 408) X dL_act_72 c_10 (by decide) (by decide) rfl (by decide) ?_
        refine q_iload_n (j := 5) X dL_act_408 rfl rfl ?_
        refine q_iconst (v := 2) X dL_act_409 (by decide) ?_
        refine q_irem X dL_act_410 (by decide) ?_
        refine q_if_ne (tgt := 430) X dL_act_411 (by decide) (fun c_81 => ?_) (fun c_81 => ?_)
        · have h := h.1 c_81
          refine q_aload_n (j := 3) X dL_act_430 rfl rfl ?_
          refine q_bipush (v := 55) X dL_act_431 (by decide) ?_
          refine q_iload_n (j := 5) X dL_act_433 rfl rfl ?_
          refine q_iconst (v := 2) X dL_act_434 (by decide) ?_
          refine q_idiv X dL_act_435 (by decide) ?_
          refine q_iconst (v := 2) X dL_act_436 (by decide) ?_
          refine q_irem X dL_act_437 (by decide) ?_
          refine q_iconst (v := 0) X dL_act_438 (by decide) ?_
          refine q_iconst (v := 0) X dL_act_439 (by decide) ?_
          obtain ⟨k_83, h⟩ := h
          refine qG_own X hW hZ (fun _ h => h) YT_ok [.ref (ad o 0 1), .int 55, .int ((x_1 / 2) - (x_1 / 2) / 2 * 2), .int 0, .int 0] [] rfl rfl (Nat.le_of_ble_eq_true rfl) dL_act_440 ⟨(Nat.le_of_ble_eq_true rfl), (Nat.le_of_ble_eq_true rfl)⟩ (k_C_55 ha hst o ((x_1 / 2) - (x_1 / 2) / 2 * 2) 0 0 g k_83) rfl rfl (gS kw_3_88 kw_3_89 kw_1_0 kw_3_90) hy_L_call.2 ⟨(Nat.le_of_ble_eq_true rfl), (Nat.le_of_ble_eq_true rfl)⟩ (fun r_82 g_84 hq => ?_)
          refine q_wi (fun hi => ?_)
          have h := h r_82 hq.1 g_84 hq.2 hi
          exact hE _ _ _ _ _ _ dL_act_443 (by omega) (by omega) h
        · have h := h.2 c_81
          refine q_aload_n (j := 3) X dL_act_414 rfl rfl ?_
          refine q_bipush (v := 54) X dL_act_415 (by decide) ?_
          refine q_iload_n (j := 5) X dL_act_417 rfl rfl ?_
          refine q_iconst (v := 2) X dL_act_418 (by decide) ?_
          refine q_idiv X dL_act_419 (by decide) ?_
          refine q_iconst (v := 2) X dL_act_420 (by decide) ?_
          refine q_irem X dL_act_421 (by decide) ?_
          refine q_iconst (v := 0) X dL_act_422 (by decide) ?_
          refine q_iconst (v := 0) X dL_act_423 (by decide) ?_
          obtain ⟨k_86, h⟩ := h
          refine qG_own X hW hZ (fun _ h => h) YT_ok [.ref (ad o 0 1), .int 54, .int ((x_1 / 2) - (x_1 / 2) / 2 * 2), .int 0, .int 0] [] rfl rfl (Nat.le_of_ble_eq_true rfl) dL_act_424 ⟨(Nat.le_of_ble_eq_true rfl), (Nat.le_of_ble_eq_true rfl)⟩ (k_C_54 ha hst o ((x_1 / 2) - (x_1 / 2) / 2 * 2) 0 0 g k_86) rfl rfl (gS kw_3_88 kw_3_89 kw_1_0 kw_3_90) hy_L_call.2 ⟨(Nat.le_of_ble_eq_true rfl), (Nat.le_of_ble_eq_true rfl)⟩ (fun r_85 g_87 hq => ?_)
          refine q_wi (fun hi => ?_)
          have h := h r_85 hq.1 g_87 hq.2 hi
          refine q_goto (tgt := 443) X dL_act_427 (by decide) ?_
          exact hE _ _ _ _ _ _ dL_act_443 (by omega) (by omega) h
      have h := h.2
      have nc_10_18 := c_10
      have h := h nc_10_0 nc_10_1 nc_10_2 nc_10_3 nc_10_4 nc_10_5 nc_10_6 nc_10_7 nc_10_8 nc_10_9 nc_10_10 nc_10_11 nc_10_12 nc_10_13 nc_10_14 nc_10_15 nc_10_16 nc_10_17 nc_10_18
      refine q_tabD (ks := [0, 1, 2, 3, 4, 5, 6, 7, 8, 9, 10, 11, 12, 13, 14, 15, 16, 17, 18]) (tgt := 444) X dL_act_72 (by intro k hk; simp only [List.mem_cons, List.not_mem_nil, or_false] at hk; rcases hk with rfl | rfl | rfl | rfl | rfl | rfl | rfl | rfl | rfl | rfl | rfl | rfl | rfl | rfl | rfl | rfl | rfl | rfl | rfl <;> assumption) (by decide +kernel) (by decide) ?_
      refine q_aload_n (j := 3) X dL_act_444 rfl rfl ?_
      refine q_bipush (v := 14) X dL_act_445 (by decide) ?_
      refine q_iconst (v := 1) X dL_act_447 (by decide) ?_
      refine q_iload_n (j := 5) X dL_act_448 rfl rfl ?_
      refine q_bipush (v := 100) X dL_act_449 (by decide) ?_
      refine q_irem X dL_act_451 (by decide) ?_
      refine q_iadd X dL_act_452 ?_
      refine q_iconst (v := 0) X dL_act_453 (by decide) ?_
      refine q_iconst (v := 0) X dL_act_454 (by decide) ?_
      obtain ⟨k_89, h⟩ := h
      refine qG_own X hW hZ (fun _ h => h) YT_ok [.ref (ad o 0 1), .int 14, .int (1 + (x_1 - x_1 / 100 * 100)), .int 0, .int 0] [] rfl rfl (Nat.le_of_ble_eq_true rfl) dL_act_455 ⟨(Nat.le_of_ble_eq_true rfl), (Nat.le_of_ble_eq_true rfl)⟩ (k_C_14 ha hst o (1 + (x_1 - x_1 / 100 * 100)) 0 0 g k_89) rfl rfl (gS kw_3_88 kw_3_89 kw_1_0 kw_3_90) hy_L_call.2 ⟨(Nat.le_of_ble_eq_true rfl), (Nat.le_of_ble_eq_true rfl)⟩ (fun r_88 g_90 hq => ?_)
      refine q_wi (fun hi => ?_)
      have h := h r_88 hq.1 g_90 hq.2 hi
      exact hE _ _ _ _ _ _ dL_act_458 (by omega) (by omega) h
    refine q_if_ne (tgt := 48) X dL_act_39 (by decide) (fun c_91 => ?_) (fun c_91 => ?_)
    · have h := h.1 c_91
      refine q_bipush (v := 40) X dL_act_48 (by decide) ?_
      refine q_sub [1, 2, 3, 0] rfl ?_
      refine q_w (c2 := 2) (n2 := (6 * 2)) (by omega) (by omega) ?_
      exact J50 40 h
    · have h := h.2 c_91
      refine q_sipush (v := 400) X dL_act_42 (by decide) ?_
      refine q_goto (tgt := 50) X dL_act_45 (by decide) ?_
      refine q_sub [1, 2, 3, 0] rfl ?_
      refine q_w (c2 := 2) (n2 := (6 * 2)) (by omega) (by omega) ?_
      exact J50 400 h
  refine q_if_ne (tgt := 16) X dL_act_9 (by decide) (fun c_92 => ?_) (fun c_92 => ?_)
  · have h := h.1 c_92
    refine q_aload_n (j := 1) X dL_act_16 rfl rfl ?_
    refine q_bipush (v := 15) X dL_act_17 (by decide) ?_
    refine q_iload_n (j := 0) X dL_act_19 rfl rfl ?_
    refine q_aload_n (j := 1) X dL_act_20 rfl rfl ?_
    obtain ⟨k_94, h⟩ := h
    refine qG_ask X hW hZ ha (fun _ h => h) YT_ok o (val := (v_entries (g.1 o))) (Qp := (fun mo r m1 => r = (v_entries (g.1 o)) ∧ mo = m1)) [] [.int x_1, .int 15, .ref (ad o 0 1)] rfl rfl (Nat.le_of_ble_eq_true rfl) dL_act_21 ⟨(Nat.le_of_ble_eq_true rfl), (Nat.le_of_ble_eq_true rfl)⟩ k_94 (fun mo hmo => c_X9_entries (ha.1 o)  mo _ (n_entries hmo.rs hmo.inv  _ rfl)) (fun mo r m1 hr h => ⟨h.1, by rw [← h.2]; exact hr⟩) rfl rfl (gV kw_6_130 kw_6_131 kw_6_132 kw_1_1 kw_6_133) hy_X9_entries ⟨(Nat.le_of_ble_eq_true rfl), (Nat.le_of_ble_eq_true rfl)⟩ ?_
    refine q_topi (fun r_93 er_93 => ?_)
    have h := h r_93 er_93
    obtain ⟨c_95, h⟩ := h
    refine q_irem X dL_act_24 c_95 ?_
    refine q_iconst (v := 0) X dL_act_25 (by decide) ?_
    refine q_iconst (v := 0) X dL_act_26 (by decide) ?_
    obtain ⟨k_97, h⟩ := h
    refine qG_own X hW hZ (fun _ h => h) YT_ok [.ref (ad o 0 1), .int 15, .int (x_1 - x_1 / r_93 * r_93), .int 0, .int 0] [] rfl rfl (Nat.le_of_ble_eq_true rfl) dL_act_27 ⟨(Nat.le_of_ble_eq_true rfl), (Nat.le_of_ble_eq_true rfl)⟩ (k_C_15 ha hst o (x_1 - x_1 / r_93 * r_93) 0 0 g k_97) rfl rfl (gS kw_3_88 kw_3_89 kw_1_0 kw_3_90) hy_L_call.2 ⟨(Nat.le_of_ble_eq_true rfl), (Nat.le_of_ble_eq_true rfl)⟩ (fun r_96 g9 hq => ?_)
    obtain ⟨er_96, hq⟩ := hq
    rw [hq]
    have h := h r_96 er_96
    refine q_sub [1, 2, 0] rfl ?_
    refine q_w (c2 := 2) (n2 := (6 * 2)) (by omega) (by omega) ?_
    exact J30 r_96 h
  · have h := h.2 c_92
    refine q_iconst (v := 0) X dL_act_12 (by decide) ?_
    refine q_goto (tgt := 30) X dL_act_13 (by decide) ?_
    refine q_sub [1, 2, 0] rfl ?_
    refine q_w (c2 := 2) (n2 := (6 * 2)) (by omega) (by omega) ?_
    exact J30 0 h
