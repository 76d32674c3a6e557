def xU (k : Nat) : Int32 := nI (k - 2)
theorem pl_L : plainName RL = true := by decide +kernel
theorem kw_3_70 : Jvm.Cond.methodLink "BondWarehouseLaw" (7 : Nat) ({ cls := "BondWarehouse", name := "enter", desc := "(IIII)I" } : Jvm.MethodName) ∈ TG := tg_3 70 rfl rfl
theorem kw_3_71 : Jvm.Cond.instanceMethod ({ cls := "BondWarehouse", name := "enter", desc := "(IIII)I" } : Jvm.MethodName) ∈ TG := tg_3 71 rfl rfl
theorem kw_3_72 : Jvm.Cond.selects "BondWarehouse" ({ cls := "BondWarehouse", name := "enter", desc := "(IIII)I" } : Jvm.MethodName) ({ cls := "BondWarehouse", name := "enter", desc := "(IIII)I" } : Jvm.MethodName) ∈ TG := tg_3 72 rfl rfl
theorem kw_3_73 : Jvm.Cond.code ({ cls := "BondWarehouse", name := "enter", desc := "(IIII)I" } : Jvm.MethodName) prog_1_method_2_code (5 : Nat) (Option.some Jvm.ClassFile.FieldType.int) ∈ TG := tg_3 73 rfl rfl
theorem kw_3_68 : Jvm.Cond.classLink "BondWarehouseLaw" (13 : Nat) "java/lang/IllegalArgumentException" ∈ TG := tg_3 68 rfl rfl
theorem kw_3_69 : Jvm.Cond.classLink "BondWarehouseLaw" (15 : Nat) "java/lang/IllegalStateException" ∈ TG := tg_3 69 rfl rfl
theorem kw_3_238 : Jvm.Cond.methodLink "BondWarehouseLaw" (17 : Nat) ({ cls := "BondWarehouse", name := "withdraw", desc := "(II)I" } : Jvm.MethodName) ∈ TG := tg_3 238 rfl rfl
theorem kw_3_239 : Jvm.Cond.instanceMethod ({ cls := "BondWarehouse", name := "withdraw", desc := "(II)I" } : Jvm.MethodName) ∈ TG := tg_3 239 rfl rfl
theorem kw_4_0 : Jvm.Cond.selects "BondWarehouse" ({ cls := "BondWarehouse", name := "withdraw", desc := "(II)I" } : Jvm.MethodName) ({ cls := "BondWarehouse", name := "withdraw", desc := "(II)I" } : Jvm.MethodName) ∈ TG := tg_4 0 rfl rfl
theorem kw_4_1 : Jvm.Cond.code ({ cls := "BondWarehouse", name := "withdraw", desc := "(II)I" } : Jvm.MethodName) prog_1_method_3_code (3 : Nat) (Option.some Jvm.ClassFile.FieldType.int) ∈ TG := tg_4 1 rfl rfl
theorem kw_3_237 : Jvm.Cond.classLink "BondWarehouseLaw" (21 : Nat) "java/lang/IndexOutOfBoundsException" ∈ TG := tg_3 237 rfl rfl
theorem kw_5_51 : Jvm.Cond.methodLink "BondWarehouseLaw" (69 : Nat) ({ cls := "BondWarehouse", name := "kindOf", desc := "(I)I" } : Jvm.MethodName) ∈ TG := tg_5 51 rfl rfl
theorem kw_5_52 : Jvm.Cond.instanceMethod ({ cls := "BondWarehouse", name := "kindOf", desc := "(I)I" } : Jvm.MethodName) ∈ TG := tg_5 52 rfl rfl
theorem kw_5_53 : Jvm.Cond.selects "BondWarehouse" ({ cls := "BondWarehouse", name := "kindOf", desc := "(I)I" } : Jvm.MethodName) ({ cls := "BondWarehouse", name := "kindOf", desc := "(I)I" } : Jvm.MethodName) ∈ TG := tg_5 53 rfl rfl
theorem kw_5_54 : Jvm.Cond.code ({ cls := "BondWarehouse", name := "kindOf", desc := "(I)I" } : Jvm.MethodName) prog_1_method_23_code (2 : Nat) (Option.some Jvm.ClassFile.FieldType.int) ∈ TG := tg_5 54 rfl rfl
theorem kw_5_134 : Jvm.Cond.methodLink "BondWarehouseLaw" (100 : Nat) ({ cls := "BondWarehouse", name := "isLocked", desc := "(I)Z" } : Jvm.MethodName) ∈ TG := tg_5 134 rfl rfl
theorem kw_5_135 : Jvm.Cond.instanceMethod ({ cls := "BondWarehouse", name := "isLocked", desc := "(I)Z" } : Jvm.MethodName) ∈ TG := tg_5 135 rfl rfl
theorem kw_5_136 : Jvm.Cond.selects "BondWarehouse" ({ cls := "BondWarehouse", name := "isLocked", desc := "(I)Z" } : Jvm.MethodName) ({ cls := "BondWarehouse", name := "isLocked", desc := "(I)Z" } : Jvm.MethodName) ∈ TG := tg_5 136 rfl rfl
theorem kw_5_137 : Jvm.Cond.code ({ cls := "BondWarehouse", name := "isLocked", desc := "(I)Z" } : Jvm.MethodName) prog_1_method_34_code (2 : Nat) (Option.some Jvm.ClassFile.FieldType.boolean) ∈ TG := tg_5 137 rfl rfl
theorem kw_6_208 : Jvm.Cond.methodLink "BondWarehouseLaw" (197 : Nat) ({ cls := "BondWarehouse", name := "undo", desc := "()I" } : Jvm.MethodName) ∈ TG := tg_6 208 rfl rfl
theorem kw_6_209 : Jvm.Cond.instanceMethod ({ cls := "BondWarehouse", name := "undo", desc := "()I" } : Jvm.MethodName) ∈ TG := tg_6 209 rfl rfl
theorem kw_6_210 : Jvm.Cond.selects "BondWarehouse" ({ cls := "BondWarehouse", name := "undo", desc := "()I" } : Jvm.MethodName) ({ cls := "BondWarehouse", name := "undo", desc := "()I" } : Jvm.MethodName) ∈ TG := tg_6 210 rfl rfl
theorem kw_6_211 : Jvm.Cond.code ({ cls := "BondWarehouse", name := "undo", desc := "()I" } : Jvm.MethodName) prog_1_method_81_code (1 : Nat) (Option.some Jvm.ClassFile.FieldType.int) ∈ TG := tg_6 211 rfl rfl
theorem dL_enter_0 : decode cL_enter 0 = .ok (.aload 5, 2) := by decide +kernel
theorem dL_enter_2 : decode cL_enter 2 = .ok (.iconst 0, 1) := by decide +kernel
theorem dL_enter_3 : decode cL_enter 3 = .ok (.aload_n 0, 1) := by decide +kernel
theorem dL_enter_4 : decode cL_enter 4 = .ok (.iload_n 1, 1) := by decide +kernel
theorem dL_enter_5 : decode cL_enter 5 = .ok (.iload_n 2, 1) := by decide +kernel
theorem dL_enter_6 : decode cL_enter 6 = .ok (.iload_n 3, 1) := by decide +kernel
theorem dL_enter_7 : decode cL_enter 7 = .ok (.iload 4, 2) := by decide +kernel
theorem dL_enter_9 : decode cL_enter 9 = .ok (.invokevirtual 7, 3) := by decide +kernel
theorem dL_enter_12 : decode cL_enter 12 = .ok (.i2l, 1) := by decide +kernel
theorem dL_enter_13 : decode cL_enter 13 = .ok (.lastore, 1) := by decide +kernel
theorem dL_enter_14 : decode cL_enter 14 = .ok (.goto 11, 3) := by decide +kernel
theorem dL_enter_17 : decode cL_enter 17 = .ok (.astore 6, 2) := by decide +kernel
theorem dL_enter_19 : decode cL_enter 19 = .ok (.iconst 1, 1) := by decide +kernel
theorem dL_enter_20 : decode cL_enter 20 = .ok (.ireturn, 1) := by decide +kernel
theorem dL_enter_21 : decode cL_enter 21 = .ok (.astore 6, 2) := by decide +kernel
theorem dL_enter_23 : decode cL_enter 23 = .ok (.iconst 2, 1) := by decide +kernel
theorem dL_enter_24 : decode cL_enter 24 = .ok (.ireturn, 1) := by decide +kernel
theorem dL_enter_25 : decode cL_enter 25 = .ok (.iconst 0, 1) := by decide +kernel
theorem dL_enter_26 : decode cL_enter 26 = .ok (.ireturn, 1) := by decide +kernel
def rm_L_enter : Room := { frames := 8, cells := 1, slots := 6, locals := 141 }
set_option maxRecDepth 100000 in
set_option maxHeartbeats 4000000 in
theorem k_L_enter {l : Launch} {D : va_G} {cA : Nat → ClassId} {ad : Nat → Nat → Nat} {A : Nat → Prop} {ob : Nat} {cO : ClassId} (ax : Ax ad GC A) (hob : ¬ A ob) (hst : l.stackTraces = false) (p0 : Int32) (p1 : Int32) (p2 : Int32) (p3 : Int32) (mm : Mm) (v : Int64) (Q9 : Int32 → Mm → Prop) (X9 : Nat → Mm → Prop) (h : w_X9_enter p0 p1 p2 p3 mm Q9 X9) (hX : ∀ k0 m1, X9 k0 m1 → oK [2, 3] k0) : Met l yL_enter (.codeWith yL_enter cL_enter 7 (some .int) [(0, 14, 17, 13), (0, 14, 21, 15)] :: TG) rm_L_enter (PcL D cA ad A ob cO [.ref (ad 0 1), .int p0, .int p1, .int p2, .int p3, .ref ob] mm v) (QcL D cA ad A ob cO (QW tlI xB Q9 X9)) 1 6 (AW A ob) := by
  refine enterL pl_L rfl (Nat.le_of_ble_eq_true rfl) ?_
  intro p e s m args below meth c QQ X htab hW hZ hE
  refine q_aload (j := 5) X dL_enter_0 rfl ?_
  refine q_iconst X dL_enter_2 rfl ?_
  refine q_aload_n (j := 0) X dL_enter_3 rfl rfl ?_
  refine q_iload_n (j := 1) X dL_enter_4 rfl rfl ?_
  refine q_iload_n (j := 2) X dL_enter_5 rfl rfl ?_
  refine q_iload_n (j := 3) X dL_enter_6 rfl rfl ?_
  refine q_iload (j := 4) X dL_enter_7 rfl ?_
  refine qW_call X hW hZ hob [.int p0, .int p1, .int p2, .int p3] [.int 0, .ref ob] rfl rfl (Nat.le_of_ble_eq_true rfl) dL_enter_9 ⟨(Nat.le_of_ble_eq_true rfl), (Nat.le_of_ble_eq_true rfl)⟩ (c_X9_enter ax hst p0 p1 p2 p3 mm Q9 X9 h) rfl rfl (gV kw_3_70 kw_3_71 kw_3_72 kw_1_1 kw_3_73) hy_X9_enter ⟨(Nat.le_of_ble_eq_true rfl), (Nat.le_of_ble_eq_true rfl)⟩ (fun k0 m1 hx => ?_) (fun r m1 hq => ?_)
  · have hk := hX _ _ hx
    unfold oK at hk
    simp only [List.mem_cons, List.not_mem_nil, or_false] at hk
    rcases hk with rfl | rfl
    · skip
      refine ⟨17, by decide, Ct1 (k1 := 2) htab rfl (by decide) (by decide) (X.2.2.2.2 _ kw_3_68), fun q => ?_⟩
      refine q_astore X dL_enter_17 (Nat.le_of_ble_eq_true rfl) rfl ?_
      refine q_iconst X dL_enter_19 rfl ?_
      exact hE _ _ _ _ _ _ _ dL_enter_20 (Nat.le_of_ble_eq_true rfl) (Nat.le_of_ble_eq_true rfl) (Or.inr ⟨by decide, 2, rfl, hx⟩)
    · skip
      refine ⟨21, by decide, Ct2 (k1 := 2) (k2 := 3) htab rfl (by decide) (by decide) (by decide) (X.2.2.2.2 _ kw_3_68) (X.2.2.2.2 _ kw_3_69) hW.2.2.2.2, fun q => ?_⟩
      refine q_astore X dL_enter_21 (Nat.le_of_ble_eq_true rfl) rfl ?_
      refine q_iconst X dL_enter_23 rfl ?_
      exact hE _ _ _ _ _ _ _ dL_enter_24 (Nat.le_of_ble_eq_true rfl) (Nat.le_of_ble_eq_true rfl) (Or.inr ⟨by decide, 3, rfl, hx⟩)
  · refine q_i2l X dL_enter_12 ?_
    refine qW_last X hW hob ax dL_enter_13 ?_
    refine q_goto X dL_enter_14 rfl ?_
    refine q_iconst X dL_enter_25 rfl ?_
    exact hE _ _ _ _ _ _ _ dL_enter_26 (Nat.le_of_ble_eq_true rfl) (Nat.le_of_ble_eq_true rfl) (Or.inl ⟨rfl, r, rfl, hq⟩)
theorem dL_withdraw_0 : decode cL_withdraw 0 = .ok (.aload_n 3, 1) := by decide +kernel
theorem dL_withdraw_1 : decode cL_withdraw 1 = .ok (.iconst 0, 1) := by decide +kernel
theorem dL_withdraw_2 : decode cL_withdraw 2 = .ok (.aload_n 0, 1) := by decide +kernel
theorem dL_withdraw_3 : decode cL_withdraw 3 = .ok (.iload_n 1, 1) := by decide +kernel
theorem dL_withdraw_4 : decode cL_withdraw 4 = .ok (.iload_n 2, 1) := by decide +kernel
theorem dL_withdraw_5 : decode cL_withdraw 5 = .ok (.invokevirtual 17, 3) := by decide +kernel
theorem dL_withdraw_8 : decode cL_withdraw 8 = .ok (.i2l, 1) := by decide +kernel
theorem dL_withdraw_9 : decode cL_withdraw 9 = .ok (.lastore, 1) := by decide +kernel
theorem dL_withdraw_10 : decode cL_withdraw 10 = .ok (.goto 15, 3) := by decide +kernel
theorem dL_withdraw_13 : decode cL_withdraw 13 = .ok (.astore 4, 2) := by decide +kernel
theorem dL_withdraw_15 : decode cL_withdraw 15 = .ok (.iconst 1, 1) := by decide +kernel
theorem dL_withdraw_16 : decode cL_withdraw 16 = .ok (.ireturn, 1) := by decide +kernel
theorem dL_withdraw_17 : decode cL_withdraw 17 = .ok (.astore 4, 2) := by decide +kernel
theorem dL_withdraw_19 : decode cL_withdraw 19 = .ok (.iconst 2, 1) := by decide +kernel
theorem dL_withdraw_20 : decode cL_withdraw 20 = .ok (.ireturn, 1) := by decide +kernel
theorem dL_withdraw_21 : decode cL_withdraw 21 = .ok (.astore 4, 2) := by decide +kernel
theorem dL_withdraw_23 : decode cL_withdraw 23 = .ok (.iconst 3, 1) := by decide +kernel
theorem dL_withdraw_24 : decode cL_withdraw 24 = .ok (.ireturn, 1) := by decide +kernel
theorem dL_withdraw_25 : decode cL_withdraw 25 = .ok (.iconst 0, 1) := by decide +kernel
theorem dL_withdraw_26 : decode cL_withdraw 26 = .ok (.ireturn, 1) := by decide +kernel
def rm_L_withdraw : Room := { frames := 8, cells := 1, slots := 6, locals := 132 }
set_option maxRecDepth 100000 in
set_option maxHeartbeats 4000000 in
theorem k_L_withdraw {l : Launch} {D : va_G} {cA : Nat → ClassId} {ad : Nat → Nat → Nat} {A : Nat → Prop} {ob : Nat} {cO : ClassId} (ax : Ax ad GC A) (hob : ¬ A ob) (hst : l.stackTraces = false) (p0 : Int32) (p1 : Int32) (mm : Mm) (v : Int64) (Q9 : Int32 → Mm → Prop) (X9 : Nat → Mm → Prop) (h : w_X9_withdraw p0 p1 mm Q9 X9) (hX : ∀ k0 m1, X9 k0 m1 → oK [1, 2, 3] k0) : Met l yL_withdraw (.codeWith yL_withdraw cL_withdraw 5 (some .int) [(0, 10, 13, 21), (0, 10, 17, 13), (0, 10, 21, 15)] :: TG) rm_L_withdraw (PcL D cA ad A ob cO [.ref (ad 0 1), .int p0, .int p1, .ref ob] mm v) (QcL D cA ad A ob cO (QW tlI xA Q9 X9)) 1 6 (AW A ob) := by
  refine enterL pl_L rfl (Nat.le_of_ble_eq_true rfl) ?_
  intro p e s m args below meth c QQ X htab hW hZ hE
  refine q_aload_n (j := 3) X dL_withdraw_0 rfl rfl ?_
  refine q_iconst X dL_withdraw_1 rfl ?_
  refine q_aload_n (j := 0) X dL_withdraw_2 rfl rfl ?_
  refine q_iload_n (j := 1) X dL_withdraw_3 rfl rfl ?_
  refine q_iload_n (j := 2) X dL_withdraw_4 rfl rfl ?_
  refine qW_call X hW hZ hob [.int p0, .int p1] [.int 0, .ref ob] rfl rfl (Nat.le_of_ble_eq_true rfl) dL_withdraw_5 ⟨(Nat.le_of_ble_eq_true rfl), (Nat.le_of_ble_eq_true rfl)⟩ (c_X9_withdraw ax hst p0 p1 mm Q9 X9 h) rfl rfl (gV kw_3_238 kw_3_239 kw_4_0 kw_1_1 kw_4_1) hy_X9_withdraw ⟨(Nat.le_of_ble_eq_true rfl), (Nat.le_of_ble_eq_true rfl)⟩ (fun k0 m1 hx => ?_) (fun r m1 hq => ?_)
  · have hk := hX _ _ hx
    unfold oK at hk
    simp only [List.mem_cons, List.not_mem_nil, or_false] at hk
    rcases hk with rfl | rfl | rfl
    · skip
      refine ⟨13, by decide, Ct1 (k1 := 1) htab rfl (by decide) (by decide) (X.2.2.2.2 _ kw_3_237), fun q => ?_⟩
      refine q_astore X dL_withdraw_13 (Nat.le_of_ble_eq_true rfl) rfl ?_
      refine q_iconst X dL_withdraw_15 rfl ?_
      exact hE _ _ _ _ _ _ _ dL_withdraw_16 (Nat.le_of_ble_eq_true rfl) (Nat.le_of_ble_eq_true rfl) (Or.inr ⟨by decide, 1, rfl, hx⟩)
    · skip
      refine ⟨17, by decide, Ct2 (k1 := 1) (k2 := 2) htab rfl (by decide) (by decide) (by decide) (X.2.2.2.2 _ kw_3_237) (X.2.2.2.2 _ kw_3_68) hW.2.2.1, fun q => ?_⟩
      refine q_astore X dL_withdraw_17 (Nat.le_of_ble_eq_true rfl) rfl ?_
      refine q_iconst X dL_withdraw_19 rfl ?_
      exact hE _ _ _ _ _ _ _ dL_withdraw_20 (Nat.le_of_ble_eq_true rfl) (Nat.le_of_ble_eq_true rfl) (Or.inr ⟨by decide, 2, rfl, hx⟩)
    · skip
      refine ⟨21, by decide, Ct3 (k1 := 1) (k2 := 2) (k3 := 3) htab rfl (by decide) (by decide) (by decide) (by decide) (X.2.2.2.2 _ kw_3_237) (X.2.2.2.2 _ kw_3_68) (X.2.2.2.2 _ kw_3_69) hW.2.2.2.1 hW.2.2.2.2, fun q => ?_⟩
      refine q_astore X dL_withdraw_21 (Nat.le_of_ble_eq_true rfl) rfl ?_
      refine q_iconst X dL_withdraw_23 rfl ?_
      exact hE _ _ _ _ _ _ _ dL_withdraw_24 (Nat.le_of_ble_eq_true rfl) (Nat.le_of_ble_eq_true rfl) (Or.inr ⟨by decide, 3, rfl, hx⟩)
  · refine q_i2l X dL_withdraw_8 ?_
    refine qW_last X hW hob ax dL_withdraw_9 ?_
    refine q_goto X dL_withdraw_10 rfl ?_
    refine q_iconst X dL_withdraw_25 rfl ?_
    exact hE _ _ _ _ _ _ _ dL_withdraw_26 (Nat.le_of_ble_eq_true rfl) (Nat.le_of_ble_eq_true rfl) (Or.inl ⟨rfl, r, rfl, hq⟩)
theorem dL_kindOf_0 : decode cL_kindOf 0 = .ok (.aload_n 2, 1) := by decide +kernel
theorem dL_kindOf_1 : decode cL_kindOf 1 = .ok (.iconst 0, 1) := by decide +kernel
theorem dL_kindOf_2 : decode cL_kindOf 2 = .ok (.aload_n 0, 1) := by decide +kernel
theorem dL_kindOf_3 : decode cL_kindOf 3 = .ok (.iload_n 1, 1) := by decide +kernel
theorem dL_kindOf_4 : decode cL_kindOf 4 = .ok (.invokevirtual 69, 3) := by decide +kernel
theorem dL_kindOf_7 : decode cL_kindOf 7 = .ok (.i2l, 1) := by decide +kernel
theorem dL_kindOf_8 : decode cL_kindOf 8 = .ok (.lastore, 1) := by decide +kernel
theorem dL_kindOf_9 : decode cL_kindOf 9 = .ok (.goto 6, 3) := by decide +kernel
theorem dL_kindOf_12 : decode cL_kindOf 12 = .ok (.astore_n 3, 1) := by decide +kernel
theorem dL_kindOf_13 : decode cL_kindOf 13 = .ok (.iconst 1, 1) := by decide +kernel
theorem dL_kindOf_14 : decode cL_kindOf 14 = .ok (.ireturn, 1) := by decide +kernel
theorem dL_kindOf_15 : decode cL_kindOf 15 = .ok (.iconst 0, 1) := by decide +kernel
theorem dL_kindOf_16 : decode cL_kindOf 16 = .ok (.ireturn, 1) := by decide +kernel
def rm_L_kindOf : Room := { frames := 8, cells := 1, slots := 6, locals := 133 }
set_option maxRecDepth 100000 in
set_option maxHeartbeats 4000000 in
theorem k_L_kindOf {l : Launch} {D : va_G} {cA : Nat → ClassId} {ad : Nat → Nat → Nat} {A : Nat → Prop} {ob : Nat} {cO : ClassId} (ax : Ax ad GC A) (hob : ¬ A ob) (hst : l.stackTraces = false) (p0 : Int32) (mm : Mm) (v : Int64) (Q9 : Int32 → Prop) (X9 : Nat → Mm → Prop) (h : w_X9_kindOf p0 mm Q9 X9) (hX : ∀ k0 m1, X9 k0 m1 → oK [1] k0) : Met l yL_kindOf (.codeWith yL_kindOf cL_kindOf 4 (some .int) [(0, 9, 12, 21)] :: TG) rm_L_kindOf (PcL D cA ad A ob cO [.ref (ad 0 1), .int p0, .ref ob] mm v) (QcL D cA ad A ob cO (QW tlI xA (fun r m' => Q9 r ∧ mm = m') X9)) 1 6 (AW A ob) := by
  refine enterL pl_L rfl (Nat.le_of_ble_eq_true rfl) ?_
  intro p e s m args below meth c QQ X htab hW hZ hE
  refine q_aload_n (j := 2) X dL_kindOf_0 rfl rfl ?_
  refine q_iconst X dL_kindOf_1 rfl ?_
  refine q_aload_n (j := 0) X dL_kindOf_2 rfl rfl ?_
  refine q_iload_n (j := 1) X dL_kindOf_3 rfl rfl ?_
  refine qW_call X hW hZ hob [.int p0] [.int 0, .ref ob] rfl rfl (Nat.le_of_ble_eq_true rfl) dL_kindOf_4 ⟨(Nat.le_of_ble_eq_true rfl), (Nat.le_of_ble_eq_true rfl)⟩ (c_X9_kindOf ax hst p0 mm Q9 X9 h) rfl rfl (gV kw_5_51 kw_5_52 kw_5_53 kw_1_1 kw_5_54) hy_X9_kindOf ⟨(Nat.le_of_ble_eq_true rfl), (Nat.le_of_ble_eq_true rfl)⟩ (fun k0 m1 hx => ?_) (fun r m1 hq => ?_)
  · have hk := hX _ _ hx
    unfold oK at hk
    simp only [List.mem_cons, List.not_mem_nil, or_false] at hk
    subst hk
    refine ⟨12, by decide, Ct1 (k1 := 1) htab rfl (by decide) (by decide) (X.2.2.2.2 _ kw_3_237), fun q => ?_⟩
    refine q_astore_n X dL_kindOf_12 rfl (Nat.le_of_ble_eq_true rfl) rfl ?_
    refine q_iconst X dL_kindOf_13 rfl ?_
    exact hE _ _ _ _ _ _ _ dL_kindOf_14 (Nat.le_of_ble_eq_true rfl) (Nat.le_of_ble_eq_true rfl) (Or.inr ⟨by decide, 1, rfl, hx⟩)
  · refine q_i2l X dL_kindOf_7 ?_
    refine qW_last X hW hob ax dL_kindOf_8 ?_
    refine q_goto X dL_kindOf_9 rfl ?_
    refine q_iconst X dL_kindOf_15 rfl ?_
    exact hE _ _ _ _ _ _ _ dL_kindOf_16 (Nat.le_of_ble_eq_true rfl) (Nat.le_of_ble_eq_true rfl) (Or.inl ⟨rfl, r, rfl, hq⟩)
theorem dL_isLocked_0 : decode cL_isLocked 0 = .ok (.aload_n 2, 1) := by decide +kernel
theorem dL_isLocked_1 : decode cL_isLocked 1 = .ok (.iconst 0, 1) := by decide +kernel
theorem dL_isLocked_2 : decode cL_isLocked 2 = .ok (.aload_n 0, 1) := by decide +kernel
theorem dL_isLocked_3 : decode cL_isLocked 3 = .ok (.iload_n 1, 1) := by decide +kernel
theorem dL_isLocked_4 : decode cL_isLocked 4 = .ok (.invokevirtual 100, 3) := by decide +kernel
theorem dL_isLocked_7 : decode cL_isLocked 7 = .ok (.ifCond .eq 7, 3) := by decide +kernel
theorem dL_isLocked_10 : decode cL_isLocked 10 = .ok (.lconst 1, 1) := by decide +kernel
theorem dL_isLocked_11 : decode cL_isLocked 11 = .ok (.goto 4, 3) := by decide +kernel
theorem dL_isLocked_14 : decode cL_isLocked 14 = .ok (.lconst 0, 1) := by decide +kernel
theorem dL_isLocked_15 : decode cL_isLocked 15 = .ok (.lastore, 1) := by decide +kernel
theorem dL_isLocked_16 : decode cL_isLocked 16 = .ok (.goto 6, 3) := by decide +kernel
theorem dL_isLocked_19 : decode cL_isLocked 19 = .ok (.astore_n 3, 1) := by decide +kernel
theorem dL_isLocked_20 : decode cL_isLocked 20 = .ok (.iconst 1, 1) := by decide +kernel
theorem dL_isLocked_21 : decode cL_isLocked 21 = .ok (.ireturn, 1) := by decide +kernel
theorem dL_isLocked_22 : decode cL_isLocked 22 = .ok (.iconst 0, 1) := by decide +kernel
theorem dL_isLocked_23 : decode cL_isLocked 23 = .ok (.ireturn, 1) := by decide +kernel
def rm_L_isLocked : Room := { frames := 9, cells := 1, slots := 6, locals := 152 }
set_option maxRecDepth 100000 in
set_option maxHeartbeats 4000000 in
theorem k_L_isLocked {l : Launch} {D : va_G} {cA : Nat → ClassId} {ad : Nat → Nat → Nat} {A : Nat → Prop} {ob : Nat} {cO : ClassId} (ax : Ax ad GC A) (hob : ¬ A ob) (hst : l.stackTraces = false) (p0 : Int32) (mm : Mm) (v : Int64) (Q9 : Int32 → Prop) (X9 : Nat → Mm → Prop) (h : w_X9_isLocked p0 mm Q9 X9) (hX : ∀ k0 m1, X9 k0 m1 → oK [1] k0) : Met l yL_isLocked (.codeWith yL_isLocked cL_isLocked 4 (some .int) [(0, 16, 19, 21)] :: TG) rm_L_isLocked (PcL D cA ad A ob cO [.ref (ad 0 1), .int p0, .ref ob] mm v) (QcL D cA ad A ob cO (QW tlB xA (fun r m' => Q9 r ∧ mm = m') X9)) 1 6 (AW A ob) := by
  refine enterL pl_L rfl (Nat.le_of_ble_eq_true rfl) ?_
  intro p e s m args below meth c QQ X htab hW hZ hE
  refine q_aload_n (j := 2) X dL_isLocked_0 rfl rfl ?_
  refine q_iconst X dL_isLocked_1 rfl ?_
  refine q_aload_n (j := 0) X dL_isLocked_2 rfl rfl ?_
  refine q_iload_n (j := 1) X dL_isLocked_3 rfl rfl ?_
  refine qW_call X hW hZ hob [.int p0] [.int 0, .ref ob] rfl rfl (Nat.le_of_ble_eq_true rfl) dL_isLocked_4 ⟨(Nat.le_of_ble_eq_true rfl), (Nat.le_of_ble_eq_true rfl)⟩ (c_X9_isLocked ax hst p0 mm Q9 X9 h) rfl rfl (gV kw_5_134 kw_5_135 kw_5_136 kw_1_1 kw_5_137) hy_X9_isLocked ⟨(Nat.le_of_ble_eq_true rfl), (Nat.le_of_ble_eq_true rfl)⟩ (fun k0 m1 hx => ?_) (fun r m1 hq => ?_)
  · have hk := hX _ _ hx
    unfold oK at hk
    simp only [List.mem_cons, List.not_mem_nil, or_false] at hk
    subst hk
    refine ⟨19, by decide, Ct1 (k1 := 1) htab rfl (by decide) (by decide) (X.2.2.2.2 _ kw_3_237), fun q => ?_⟩
    refine q_astore_n X dL_isLocked_19 rfl (Nat.le_of_ble_eq_true rfl) rfl ?_
    refine q_iconst X dL_isLocked_20 rfl ?_
    exact hE _ _ _ _ _ _ _ dL_isLocked_21 (Nat.le_of_ble_eq_true rfl) (Nat.le_of_ble_eq_true rfl) (Or.inr ⟨by decide, 1, rfl, hx⟩)
  · refine q_if_eq X dL_isLocked_7 rfl (fun hz => ?_) (fun hz => ?_)
    · refine q_lconst (v := 0) X dL_isLocked_14 rfl ?_
      refine qW_last X hW hob ax dL_isLocked_15 ?_
      refine q_goto X dL_isLocked_16 rfl ?_
      refine q_iconst X dL_isLocked_22 rfl ?_
      exact hE _ _ _ _ _ _ _ dL_isLocked_23 (Nat.le_of_ble_eq_true rfl) (Nat.le_of_ble_eq_true rfl) (Or.inl ⟨rfl, r, by unfold tlB; rw [if_pos hz], hq⟩)
    · refine q_lconst (v := 1) X dL_isLocked_10 rfl ?_
      refine q_goto X dL_isLocked_11 rfl ?_
      refine qW_last X hW hob ax dL_isLocked_15 ?_
      refine q_goto X dL_isLocked_16 rfl ?_
      refine q_iconst X dL_isLocked_22 rfl ?_
      exact hE _ _ _ _ _ _ _ dL_isLocked_23 (Nat.le_of_ble_eq_true rfl) (Nat.le_of_ble_eq_true rfl) (Or.inl ⟨rfl, r, by unfold tlB; rw [if_neg hz], hq⟩)
theorem dL_undo_0 : decode cL_undo 0 = .ok (.aload_n 1, 1) := by decide +kernel
theorem dL_undo_1 : decode cL_undo 1 = .ok (.iconst 0, 1) := by decide +kernel
theorem dL_undo_2 : decode cL_undo 2 = .ok (.aload_n 0, 1) := by decide +kernel
theorem dL_undo_3 : decode cL_undo 3 = .ok (.invokevirtual 197, 3) := by decide +kernel
theorem dL_undo_6 : decode cL_undo 6 = .ok (.i2l, 1) := by decide +kernel
theorem dL_undo_7 : decode cL_undo 7 = .ok (.lastore, 1) := by decide +kernel
theorem dL_undo_8 : decode cL_undo 8 = .ok (.goto 6, 3) := by decide +kernel
theorem dL_undo_11 : decode cL_undo 11 = .ok (.astore_n 2, 1) := by decide +kernel
theorem dL_undo_12 : decode cL_undo 12 = .ok (.iconst 1, 1) := by decide +kernel
theorem dL_undo_13 : decode cL_undo 13 = .ok (.ireturn, 1) := by decide +kernel
theorem dL_undo_14 : decode cL_undo 14 = .ok (.iconst 0, 1) := by decide +kernel
theorem dL_undo_15 : decode cL_undo 15 = .ok (.ireturn, 1) := by decide +kernel
def rm_L_undo : Room := { frames := 7, cells := 1, slots := 6, locals := 110 }
set_option maxRecDepth 100000 in
set_option maxHeartbeats 4000000 in
theorem k_L_undo {l : Launch} {D : va_G} {cA : Nat → ClassId} {ad : Nat → Nat → Nat} {A : Nat → Prop} {ob : Nat} {cO : ClassId} (ax : Ax ad GC A) (hob : ¬ A ob) (hst : l.stackTraces = false)  (mm : Mm) (v : Int64) (Q9 : Int32 → Mm → Prop) (X9 : Nat → Mm → Prop) (h : w_X9_undo  mm Q9 X9) (hX : ∀ k0 m1, X9 k0 m1 → oK [3] k0) : Met l yL_undo (.codeWith yL_undo cL_undo 3 (some .int) [(0, 8, 11, 15)] :: TG) rm_L_undo (PcL D cA ad A ob cO [.ref (ad 0 1), .ref ob] mm v) (QcL D cA ad A ob cO (QW tlI xU Q9 X9)) 1 6 (AW A ob) := by
  refine enterL pl_L rfl (Nat.le_of_ble_eq_true rfl) ?_
  intro p e s m args below meth c QQ X htab hW hZ hE
  refine q_aload_n (j := 1) X dL_undo_0 rfl rfl ?_
  refine q_iconst X dL_undo_1 rfl ?_
  refine q_aload_n (j := 0) X dL_undo_2 rfl rfl ?_
  refine qW_call X hW hZ hob [] [.int 0, .ref ob] rfl rfl (Nat.le_of_ble_eq_true rfl) dL_undo_3 ⟨(Nat.le_of_ble_eq_true rfl), (Nat.le_of_ble_eq_true rfl)⟩ (c_X9_undo ax hst  mm Q9 X9 h) rfl rfl (gV kw_6_208 kw_6_209 kw_6_210 kw_1_1 kw_6_211) hy_X9_undo ⟨(Nat.le_of_ble_eq_true rfl), (Nat.le_of_ble_eq_true rfl)⟩ (fun k0 m1 hx => ?_) (fun r m1 hq => ?_)
  · have hk := hX _ _ hx
    unfold oK at hk
    simp only [List.mem_cons, List.not_mem_nil, or_false] at hk
    subst hk
    refine ⟨11, by decide, Ct1 (k1 := 3) htab rfl (by decide) (by decide) (X.2.2.2.2 _ kw_3_69), fun q => ?_⟩
    refine q_astore_n X dL_undo_11 rfl (Nat.le_of_ble_eq_true rfl) rfl ?_
    refine q_iconst X dL_undo_12 rfl ?_
    exact hE _ _ _ _ _ _ _ dL_undo_13 (Nat.le_of_ble_eq_true rfl) (Nat.le_of_ble_eq_true rfl) (Or.inr ⟨by decide, 3, rfl, hx⟩)
  · refine q_i2l X dL_undo_6 ?_
    refine qW_last X hW hob ax dL_undo_7 ?_
    refine q_goto X dL_undo_8 rfl ?_
    refine q_iconst X dL_undo_14 rfl ?_
    exact hE _ _ _ _ _ _ _ dL_undo_15 (Nat.le_of_ble_eq_true rfl) (Nat.le_of_ble_eq_true rfl) (Or.inl ⟨rfl, r, rfl, hq⟩)
