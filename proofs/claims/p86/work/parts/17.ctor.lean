theorem kw_1_37 : (Jvm.Cond.methodLink "BondWarehouse$Money" (1 : Nat) ({ cls := "java/lang/Object", name := "<init>", desc := "()V" } : Jvm.MethodName)) ∈ TG := tg_1 37 rfl rfl
theorem kw_1_24 : (Jvm.Cond.instanceMethod ({ cls := "java/lang/Object", name := "<init>", desc := "()V" } : Jvm.MethodName)) ∈ TG := tg_1 24 rfl rfl
theorem kw_1_25 : (Jvm.Cond.code ({ cls := "java/lang/Object", name := "<init>", desc := "()V" } : Jvm.MethodName) object_method_1_code (1 : Nat) (Option.none : Option Jvm.ClassFile.FieldType)) ∈ TG := tg_1 25 rfl rfl
theorem kw_1_84 : (Jvm.Cond.methodLink "BondWarehouse$Entry" (1 : Nat) ({ cls := "java/lang/Object", name := "<init>", desc := "()V" } : Jvm.MethodName)) ∈ TG := tg_1 84 rfl rfl
theorem kw_1_137 : (Jvm.Cond.methodLink "BondWarehouse$Receipt" (1 : Nat) ({ cls := "java/lang/Object", name := "<init>", desc := "()V" } : Jvm.MethodName)) ∈ TG := tg_1 137 rfl rfl
theorem kw_1_165 : (Jvm.Cond.methodLink "BondWarehouse$Chamber" (3 : Nat) ({ cls := "java/lang/Object", name := "<init>", desc := "()V" } : Jvm.MethodName)) ∈ TG := tg_1 165 rfl rfl
theorem kw_1_185 : (Jvm.Cond.methodLink "BondWarehouse$KindAccount" (3 : Nat) ({ cls := "java/lang/Object", name := "<init>", desc := "()V" } : Jvm.MethodName)) ∈ TG := tg_1 185 rfl rfl
theorem kw_1_31 : (Jvm.Cond.methodLink "BondWarehouse$State" (3 : Nat) ({ cls := "java/lang/Object", name := "<init>", desc := "()V" } : Jvm.MethodName)) ∈ TG := tg_1 31 rfl rfl
theorem kw_1_32 : (Jvm.Cond.classLink "BondWarehouse$State" (9 : Nat) "BondWarehouse$Money") ∈ TG := tg_1 32 rfl rfl
theorem kw_1_33 : (Jvm.Cond.instantiable "BondWarehouse$Money" (7 : Nat)) ∈ TG := tg_1 33 rfl rfl
theorem kw_1_36 : (Jvm.Cond.code ({ cls := "BondWarehouse$Money", name := "<init>", desc := "()V" } : Jvm.MethodName) prog_8_method_1_code (1 : Nat) (Option.none : Option Jvm.ClassFile.FieldType)) ∈ TG := tg_1 36 rfl rfl
theorem kw_1_35 : (Jvm.Cond.instanceMethod ({ cls := "BondWarehouse$Money", name := "<init>", desc := "()V" } : Jvm.MethodName)) ∈ TG := tg_1 35 rfl rfl
theorem kw_1_72 : (Jvm.Cond.classLink "BondWarehouse$State" (18 : Nat) "BondWarehouse$Entry") ∈ TG := tg_1 72 rfl rfl
theorem kw_1_74 : (Jvm.Cond.classLink "BondWarehouse$State" (24 : Nat) "BondWarehouse$Receipt") ∈ TG := tg_1 74 rfl rfl
theorem kw_1_76 : (Jvm.Cond.classLink "BondWarehouse$State" (30 : Nat) "BondWarehouse$Chamber") ∈ TG := tg_1 76 rfl rfl
theorem kw_1_78 : (Jvm.Cond.classLink "BondWarehouse$State" (36 : Nat) "BondWarehouse$KindAccount") ∈ TG := tg_1 78 rfl rfl
theorem kw_1_177 : (Jvm.Cond.instantiable "BondWarehouse$KindAccount" (8 : Nat)) ∈ TG := tg_1 177 rfl rfl
theorem kw_1_184 : (Jvm.Cond.code ({ cls := "BondWarehouse$KindAccount", name := "<init>", desc := "(II)V" } : Jvm.MethodName) prog_7_method_1_code (3 : Nat) (Option.none : Option Jvm.ClassFile.FieldType)) ∈ TG := tg_1 184 rfl rfl
theorem kw_1_183 : (Jvm.Cond.instanceMethod ({ cls := "BondWarehouse$KindAccount", name := "<init>", desc := "(II)V" } : Jvm.MethodName)) ∈ TG := tg_1 183 rfl rfl
theorem kw_1_161 : (Jvm.Cond.instantiable "BondWarehouse$Chamber" (2 : Nat)) ∈ TG := tg_1 161 rfl rfl
theorem kw_1_164 : (Jvm.Cond.code ({ cls := "BondWarehouse$Chamber", name := "<init>", desc := "()V" } : Jvm.MethodName) prog_2_method_1_code (1 : Nat) (Option.none : Option Jvm.ClassFile.FieldType)) ∈ TG := tg_1 164 rfl rfl
theorem kw_1_163 : (Jvm.Cond.instanceMethod ({ cls := "BondWarehouse$Chamber", name := "<init>", desc := "()V" } : Jvm.MethodName)) ∈ TG := tg_1 163 rfl rfl
theorem kw_1_133 : (Jvm.Cond.instantiable "BondWarehouse$Receipt" (4 : Nat)) ∈ TG := tg_1 133 rfl rfl
theorem kw_1_136 : (Jvm.Cond.code ({ cls := "BondWarehouse$Receipt", name := "<init>", desc := "()V" } : Jvm.MethodName) prog_9_method_1_code (1 : Nat) (Option.none : Option Jvm.ClassFile.FieldType)) ∈ TG := tg_1 136 rfl rfl
theorem kw_1_135 : (Jvm.Cond.instanceMethod ({ cls := "BondWarehouse$Receipt", name := "<init>", desc := "()V" } : Jvm.MethodName)) ∈ TG := tg_1 135 rfl rfl
theorem kw_1_80 : (Jvm.Cond.instantiable "BondWarehouse$Entry" (8 : Nat)) ∈ TG := tg_1 80 rfl rfl
theorem kw_1_83 : (Jvm.Cond.code ({ cls := "BondWarehouse$Entry", name := "<init>", desc := "()V" } : Jvm.MethodName) prog_4_method_1_code (1 : Nat) (Option.none : Option Jvm.ClassFile.FieldType)) ∈ TG := tg_1 83 rfl rfl
theorem kw_1_82 : (Jvm.Cond.instanceMethod ({ cls := "BondWarehouse$Entry", name := "<init>", desc := "()V" } : Jvm.MethodName)) ∈ TG := tg_1 82 rfl rfl
theorem kw_2_41 : (Jvm.Cond.methodLink "BondWarehouse$History" (3 : Nat) ({ cls := "java/lang/Object", name := "<init>", desc := "()V" } : Jvm.MethodName)) ∈ TG := tg_2 41 rfl rfl
theorem kw_2_42 : (Jvm.Cond.classLink "BondWarehouse$History" (9 : Nat) "BondWarehouse$State") ∈ TG := tg_2 42 rfl rfl
theorem kw_1_27 : (Jvm.Cond.instantiable "BondWarehouse$State" (11 : Nat)) ∈ TG := tg_1 27 rfl rfl
theorem kw_1_30 : (Jvm.Cond.code ({ cls := "BondWarehouse$State", name := "<init>", desc := "()V" } : Jvm.MethodName) prog_10_method_1_code (2 : Nat) (Option.none : Option Jvm.ClassFile.FieldType)) ∈ TG := tg_1 30 rfl rfl
theorem kw_1_29 : (Jvm.Cond.instanceMethod ({ cls := "BondWarehouse$State", name := "<init>", desc := "()V" } : Jvm.MethodName)) ∈ TG := tg_1 29 rfl rfl
theorem kw_2_74 : (Jvm.Cond.methodLink "BondWarehouse$Deeds" (3 : Nat) ({ cls := "java/lang/Object", name := "<init>", desc := "()V" } : Jvm.MethodName)) ∈ TG := tg_2 74 rfl rfl
theorem kw_2_87 : (Jvm.Cond.methodLink "BondWarehouse$Journal" (3 : Nat) ({ cls := "java/lang/Object", name := "<init>", desc := "()V" } : Jvm.MethodName)) ∈ TG := tg_2 87 rfl rfl
theorem kw_1_23 : (Jvm.Cond.methodLink "BondWarehouse" (1 : Nat) ({ cls := "java/lang/Object", name := "<init>", desc := "()V" } : Jvm.MethodName)) ∈ TG := tg_1 23 rfl rfl
theorem kw_1_26 : (Jvm.Cond.classLink "BondWarehouse" (7 : Nat) "BondWarehouse$State") ∈ TG := tg_1 26 rfl rfl
theorem kw_2_36 : (Jvm.Cond.classLink "BondWarehouse" (16 : Nat) "BondWarehouse$History") ∈ TG := tg_2 36 rfl rfl
theorem kw_2_37 : (Jvm.Cond.instantiable "BondWarehouse$History" (6 : Nat)) ∈ TG := tg_2 37 rfl rfl
theorem kw_2_40 : (Jvm.Cond.code ({ cls := "BondWarehouse$History", name := "<init>", desc := "()V" } : Jvm.MethodName) prog_5_method_1_code (2 : Nat) (Option.none : Option Jvm.ClassFile.FieldType)) ∈ TG := tg_2 40 rfl rfl
theorem kw_2_39 : (Jvm.Cond.instanceMethod ({ cls := "BondWarehouse$History", name := "<init>", desc := "()V" } : Jvm.MethodName)) ∈ TG := tg_2 39 rfl rfl
theorem kw_2_69 : (Jvm.Cond.classLink "BondWarehouse" (23 : Nat) "BondWarehouse$Deeds") ∈ TG := tg_2 69 rfl rfl
theorem kw_2_70 : (Jvm.Cond.instantiable "BondWarehouse$Deeds" (2 : Nat)) ∈ TG := tg_2 70 rfl rfl
theorem kw_2_73 : (Jvm.Cond.code ({ cls := "BondWarehouse$Deeds", name := "<init>", desc := "(LBondWarehouse$State;LBondWarehouse$History;)V" } : Jvm.MethodName) prog_3_method_1_code (3 : Nat) (Option.none : Option Jvm.ClassFile.FieldType)) ∈ TG := tg_2 73 rfl rfl
theorem kw_2_72 : (Jvm.Cond.instanceMethod ({ cls := "BondWarehouse$Deeds", name := "<init>", desc := "(LBondWarehouse$State;LBondWarehouse$History;)V" } : Jvm.MethodName)) ∈ TG := tg_2 72 rfl rfl
theorem kw_2_82 : (Jvm.Cond.classLink "BondWarehouse" (32 : Nat) "BondWarehouse$Journal") ∈ TG := tg_2 82 rfl rfl
theorem kw_2_83 : (Jvm.Cond.instantiable "BondWarehouse$Journal" (6 : Nat)) ∈ TG := tg_2 83 rfl rfl
theorem kw_2_86 : (Jvm.Cond.code ({ cls := "BondWarehouse$Journal", name := "<init>", desc := "()V" } : Jvm.MethodName) prog_6_method_1_code (1 : Nat) (Option.none : Option Jvm.ClassFile.FieldType)) ∈ TG := tg_2 86 rfl rfl
theorem kw_2_85 : (Jvm.Cond.instanceMethod ({ cls := "BondWarehouse$Journal", name := "<init>", desc := "()V" } : Jvm.MethodName)) ∈ TG := tg_2 85 rfl rfl
theorem dfX0 : ∀ f, f < 2 → defaultValue (tyX0 f) = if kT 5 f = 0 then .int 0 else .null := by decide +kernel
theorem dfX1 : ∀ f, f < 2 → defaultValue (tyX1 f) = if kT 16 f = 0 then .int 0 else .null := by decide +kernel
theorem dfX2 : ∀ f, f < 8 → defaultValue (tyX2 f) = if kT 3 f = 0 then .int 0 else .null := by decide +kernel
theorem dfX3 : ∀ f, f < 6 → defaultValue (tyX3 f) = if kT 12 f = 0 then .int 0 else .null := by decide +kernel
theorem dfX4 : ∀ f, f < 6 → defaultValue (tyX4 f) = if kT 17 f = 0 then .int 0 else .null := by decide +kernel
theorem dfX5 : ∀ f, f < 8 → defaultValue (tyX5 f) = if kT 6 f = 0 then .int 0 else .null := by decide +kernel
theorem dfX6 : ∀ f, f < 7 → defaultValue (tyX6 f) = if kT 2 f = 0 then .int 0 else .null := by decide +kernel
theorem dfX7 : ∀ f, f < 4 → defaultValue (tyX7 f) = if kT 4 f = 0 then .int 0 else .null := by decide +kernel
theorem dfX8 : ∀ f, f < 11 → defaultValue (tyX8 f) = if kT 1 f = 0 then .int 0 else .null := by decide +kernel
theorem dfX9 : ∀ f, f < 4 → defaultValue (tyX9 f) = if kT 0 f = 0 then .int 0 else .null := by decide +kernel
theorem kwA_int : Cond.arrayClass .int ∈ TG := tg_1 132 rfl rfl
theorem kwA_boolean : Cond.arrayClass .boolean ∈ TG := tg_2 68 rfl rfl
theorem dX6_init_0 : decode cX6_init 0 = .ok (.aload_n 0, 1) := by decide +kernel
theorem dX6_init_1 : decode cX6_init 1 = .ok (.invokespecial 1, 3) := by decide +kernel
theorem dX6_init_4 : decode cX6_init 4 = .ok (.aload_n 0, 1) := by decide +kernel
theorem dX6_init_5 : decode cX6_init 5 = .ok (.sipush 5000, 3) := by decide +kernel
theorem dX6_init_8 : decode cX6_init 8 = .ok (.putfield 7, 3) := by decide +kernel
theorem dX6_init_11 : decode cX6_init 11 = .ok (.return_, 1) := by decide +kernel
def w_X6_init (nb : Nat) (i : Nat) (mm : Mm) (Q9 : Mm → Prop) : Prop :=
  GN GC offC (nb + 0) 2 i ∧ ∀ m_2 : Mm, m_2 = sI mm 2 i 0 5000 → (Q9 m_2)
def rm_X6_init : Room := { frames := 1, cells := 0, slots := 0, locals := 20 }
theorem hy_X6_init : yX6_init.cls = RX6 ∧ yX6_init.cls ≠ "java/lang/invoke/MethodHandle" ∧ yX6_init.cls ≠ "java/lang/invoke/VarHandle" ∧ (parseMethodDescriptor yX6_init.desc).map (fun d => d.parameters.length) = some 0 := by decide +kernel
set_option maxRecDepth 100000 in
set_option maxHeartbeats 4000000 in
theorem c_X6_init {l : Launch} {D : va_G} {cA : Nat → ClassId} {ad : Nat → Nat → Nat} {A : Nat → Prop} (ax : Ax ad GC A) {b : Nat} (hA : ∀ t i, GC t i → ad t i = b + offC t i) (nb : Nat) (i : Nat) (hi : ok 2 i) (mm : Mm) (Q9 : Mm → Prop) (h : w_X6_init nb i mm Q9) : Met l yX6_init (.code yX6_init cX6_init 1 none :: TG) rm_X6_init (PcM (SZ b nb) D cA ad true (GN GC offC nb) (ZC ad A) [.ref (ad 2 i)] mm) (AnsV (SZ b (nb + 0)) D cA ad true (GN GC offC (nb + 0)) A Q9) 0 0 A := by
  have zo := ZC_ok ad A
  unfold w_X6_init at h
  refine enterN (MC := 0) (MS := 0) pl_X6 rfl (Nat.le_of_ble_eq_true rfl) ?_
  intro p e s m args below meth c QQ X hK hZ hnm hE
  refine q_rw (c1 := 0) (s1 := (60 * 0)) rfl (by omega) ?_
  refine q_aload_n (j := 0) X dX6_init_0 rfl rfl ?_
  refine q_objI X kw_1_37 kw_1_24 kw_1_25 dX6_init_1 (Nat.le_of_ble_eq_true rfl) (Nat.le_of_ble_eq_true rfl) ?_
  refine q_aload_n (j := 0) X dX6_init_4 rfl rfl ?_
  refine q_sipush (v := 5000) X dX6_init_5 (by decide) ?_
  obtain ⟨g_1, h⟩ := h
  refine q_putI (k := 0) X (axN ax) hK rfl rfl (Nat.le_of_ble_eq_true rfl) inTX6 g_1 tyX6 tyX6_ok nmX6 kw_1_38 rfl rfl (tyX6_ok 0 (Nat.le_of_ble_eq_true rfl)) rfl dX6_init_8 ?_
  refine q_nmP (fun m_2 em_2 => ?_)
  have h := h m_2 em_2
  exact hE _ _ _ dX6_init_11 h
theorem dX2_init_0 : decode cX2_init 0 = .ok (.aload_n 0, 1) := by decide +kernel
theorem dX2_init_1 : decode cX2_init 1 = .ok (.invokespecial 1, 3) := by decide +kernel
theorem dX2_init_4 : decode cX2_init 4 = .ok (.return_, 1) := by decide +kernel
def w_X2_init (nb : Nat) (i : Nat) (mm : Mm) (Q9 : Mm → Prop) : Prop :=
  Q9 mm
def rm_X2_init : Room := { frames := 1, cells := 0, slots := 0, locals := 20 }
theorem hy_X2_init : yX2_init.cls = RX2 ∧ yX2_init.cls ≠ "java/lang/invoke/MethodHandle" ∧ yX2_init.cls ≠ "java/lang/invoke/VarHandle" ∧ (parseMethodDescriptor yX2_init.desc).map (fun d => d.parameters.length) = some 0 := by decide +kernel
set_option maxRecDepth 100000 in
set_option maxHeartbeats 4000000 in
theorem c_X2_init {l : Launch} {D : va_G} {cA : Nat → ClassId} {ad : Nat → Nat → Nat} {A : Nat → Prop} (ax : Ax ad GC A) {b : Nat} (hA : ∀ t i, GC t i → ad t i = b + offC t i) (nb : Nat) (i : Nat) (hi : ok 3 i) (mm : Mm) (Q9 : Mm → Prop) (h : w_X2_init nb i mm Q9) : Met l yX2_init (.code yX2_init cX2_init 1 none :: TG) rm_X2_init (PcM (SZ b nb) D cA ad true (GN GC offC nb) (ZC ad A) [.ref (ad 3 i)] mm) (AnsV (SZ b (nb + 0)) D cA ad true (GN GC offC (nb + 0)) A Q9) 0 0 A := by
  have zo := ZC_ok ad A
  unfold w_X2_init at h
  refine enterN (MC := 0) (MS := 0) pl_X2 rfl (Nat.le_of_ble_eq_true rfl) ?_
  intro p e s m args below meth c QQ X hK hZ hnm hE
  refine q_rw (c1 := 0) (s1 := (60 * 0)) rfl (by omega) ?_
  refine q_aload_n (j := 0) X dX2_init_0 rfl rfl ?_
  refine q_objI X kw_1_84 kw_1_24 kw_1_25 dX2_init_1 (Nat.le_of_ble_eq_true rfl) (Nat.le_of_ble_eq_true rfl) ?_
  exact hE _ _ _ dX2_init_4 h
theorem dX7_init_0 : decode cX7_init 0 = .ok (.aload_n 0, 1) := by decide +kernel
theorem dX7_init_1 : decode cX7_init 1 = .ok (.invokespecial 1, 3) := by decide +kernel
theorem dX7_init_4 : decode cX7_init 4 = .ok (.return_, 1) := by decide +kernel
def w_X7_init (nb : Nat) (i : Nat) (mm : Mm) (Q9 : Mm → Prop) : Prop :=
  Q9 mm
def rm_X7_init : Room := { frames := 1, cells := 0, slots := 0, locals := 20 }
theorem hy_X7_init : yX7_init.cls = RX7 ∧ yX7_init.cls ≠ "java/lang/invoke/MethodHandle" ∧ yX7_init.cls ≠ "java/lang/invoke/VarHandle" ∧ (parseMethodDescriptor yX7_init.desc).map (fun d => d.parameters.length) = some 0 := by decide +kernel
set_option maxRecDepth 100000 in
set_option maxHeartbeats 4000000 in
theorem c_X7_init {l : Launch} {D : va_G} {cA : Nat → ClassId} {ad : Nat → Nat → Nat} {A : Nat → Prop} (ax : Ax ad GC A) {b : Nat} (hA : ∀ t i, GC t i → ad t i = b + offC t i) (nb : Nat) (i : Nat) (hi : ok 4 i) (mm : Mm) (Q9 : Mm → Prop) (h : w_X7_init nb i mm Q9) : Met l yX7_init (.code yX7_init cX7_init 1 none :: TG) rm_X7_init (PcM (SZ b nb) D cA ad true (GN GC offC nb) (ZC ad A) [.ref (ad 4 i)] mm) (AnsV (SZ b (nb + 0)) D cA ad true (GN GC offC (nb + 0)) A Q9) 0 0 A := by
  have zo := ZC_ok ad A
  unfold w_X7_init at h
  refine enterN (MC := 0) (MS := 0) pl_X7 rfl (Nat.le_of_ble_eq_true rfl) ?_
  intro p e s m args below meth c QQ X hK hZ hnm hE
  refine q_rw (c1 := 0) (s1 := (60 * 0)) rfl (by omega) ?_
  refine q_aload_n (j := 0) X dX7_init_0 rfl rfl ?_
  refine q_objI X kw_1_137 kw_1_24 kw_1_25 dX7_init_1 (Nat.le_of_ble_eq_true rfl) (Nat.le_of_ble_eq_true rfl) ?_
  exact hE _ _ _ dX7_init_4 h
theorem dX0_init_0 : decode cX0_init 0 = .ok (.aload_n 0, 1) := by decide +kernel
theorem dX0_init_1 : decode cX0_init 1 = .ok (.invokespecial 3, 3) := by decide +kernel
theorem dX0_init_4 : decode cX0_init 4 = .ok (.aload_n 0, 1) := by decide +kernel
theorem dX0_init_5 : decode cX0_init 5 = .ok (.iconst (-1), 1) := by decide +kernel
theorem dX0_init_6 : decode cX0_init 6 = .ok (.putfield 9, 3) := by decide +kernel
theorem dX0_init_9 : decode cX0_init 9 = .ok (.return_, 1) := by decide +kernel
def w_X0_init (nb : Nat) (i : Nat) (mm : Mm) (Q9 : Mm → Prop) : Prop :=
  GN GC offC (nb + 0) 5 i ∧ ∀ m_2 : Mm, m_2 = sI mm 5 i 0 (-1) → (Q9 m_2)
def rm_X0_init : Room := { frames := 1, cells := 0, slots := 0, locals := 20 }
theorem hy_X0_init : yX0_init.cls = RX0 ∧ yX0_init.cls ≠ "java/lang/invoke/MethodHandle" ∧ yX0_init.cls ≠ "java/lang/invoke/VarHandle" ∧ (parseMethodDescriptor yX0_init.desc).map (fun d => d.parameters.length) = some 0 := by decide +kernel
set_option maxRecDepth 100000 in
set_option maxHeartbeats 4000000 in
theorem c_X0_init {l : Launch} {D : va_G} {cA : Nat → ClassId} {ad : Nat → Nat → Nat} {A : Nat → Prop} (ax : Ax ad GC A) {b : Nat} (hA : ∀ t i, GC t i → ad t i = b + offC t i) (nb : Nat) (i : Nat) (hi : ok 5 i) (mm : Mm) (Q9 : Mm → Prop) (h : w_X0_init nb i mm Q9) : Met l yX0_init (.code yX0_init cX0_init 1 none :: TG) rm_X0_init (PcM (SZ b nb) D cA ad true (GN GC offC nb) (ZC ad A) [.ref (ad 5 i)] mm) (AnsV (SZ b (nb + 0)) D cA ad true (GN GC offC (nb + 0)) A Q9) 0 0 A := by
  have zo := ZC_ok ad A
  unfold w_X0_init at h
  refine enterN (MC := 0) (MS := 0) pl_X0 rfl (Nat.le_of_ble_eq_true rfl) ?_
  intro p e s m args below meth c QQ X hK hZ hnm hE
  refine q_rw (c1 := 0) (s1 := (60 * 0)) rfl (by omega) ?_
  refine q_aload_n (j := 0) X dX0_init_0 rfl rfl ?_
  refine q_objI X kw_1_165 kw_1_24 kw_1_25 dX0_init_1 (Nat.le_of_ble_eq_true rfl) (Nat.le_of_ble_eq_true rfl) ?_
  refine q_aload_n (j := 0) X dX0_init_4 rfl rfl ?_
  refine q_iconst (v := (-1)) X dX0_init_5 (by decide) ?_
  obtain ⟨g_1, h⟩ := h
  refine q_putI (k := 0) X (axN ax) hK rfl rfl (Nat.le_of_ble_eq_true rfl) inTX0 g_1 tyX0 tyX0_ok nmX0 kw_1_166 rfl rfl (tyX0_ok 0 (Nat.le_of_ble_eq_true rfl)) rfl dX0_init_6 ?_
  refine q_nmP (fun m_2 em_2 => ?_)
  have h := h m_2 em_2
  exact hE _ _ _ dX0_init_9 h
theorem dX5_init_0 : decode cX5_init 0 = .ok (.aload_n 0, 1) := by decide +kernel
theorem dX5_init_1 : decode cX5_init 1 = .ok (.invokespecial 3, 3) := by decide +kernel
theorem dX5_init_4 : decode cX5_init 4 = .ok (.aload_n 0, 1) := by decide +kernel
theorem dX5_init_5 : decode cX5_init 5 = .ok (.iload_n 1, 1) := by decide +kernel
theorem dX5_init_6 : decode cX5_init 6 = .ok (.putfield 9, 3) := by decide +kernel
theorem dX5_init_9 : decode cX5_init 9 = .ok (.aload_n 0, 1) := by decide +kernel
theorem dX5_init_10 : decode cX5_init 10 = .ok (.iload_n 2, 1) := by decide +kernel
theorem dX5_init_11 : decode cX5_init 11 = .ok (.putfield 15, 3) := by decide +kernel
theorem dX5_init_14 : decode cX5_init 14 = .ok (.return_, 1) := by decide +kernel
def w_X5_init (nb : Nat) (i : Nat) (p0 : Int32) (p1 : Int32) (mm : Mm) (Q9 : Mm → Prop) : Prop :=
  GN GC offC (nb + 0) 6 i ∧ ∀ m_2 : Mm, m_2 = sI mm 6 i 0 p0 → (GN GC offC (nb + 0) 6 i ∧ ∀ m_4 : Mm, m_4 = sI m_2 6 i 1 p1 → (Q9 m_4))
def rm_X5_init : Room := { frames := 1, cells := 0, slots := 0, locals := 20 }
theorem hy_X5_init : yX5_init.cls = RX5 ∧ yX5_init.cls ≠ "java/lang/invoke/MethodHandle" ∧ yX5_init.cls ≠ "java/lang/invoke/VarHandle" ∧ (parseMethodDescriptor yX5_init.desc).map (fun d => d.parameters.length) = some 2 := by decide +kernel
set_option maxRecDepth 100000 in
set_option maxHeartbeats 4000000 in
theorem c_X5_init {l : Launch} {D : va_G} {cA : Nat → ClassId} {ad : Nat → Nat → Nat} {A : Nat → Prop} (ax : Ax ad GC A) {b : Nat} (hA : ∀ t i, GC t i → ad t i = b + offC t i) (nb : Nat) (i : Nat) (hi : ok 6 i) (p0 : Int32) (p1 : Int32) (mm : Mm) (Q9 : Mm → Prop) (h : w_X5_init nb i p0 p1 mm Q9) : Met l yX5_init (.code yX5_init cX5_init 3 none :: TG) rm_X5_init (PcM (SZ b nb) D cA ad true (GN GC offC nb) (ZC ad A) [.ref (ad 6 i), .int p0, .int p1] mm) (AnsV (SZ b (nb + 0)) D cA ad true (GN GC offC (nb + 0)) A Q9) 0 0 A := by
  have zo := ZC_ok ad A
  unfold w_X5_init at h
  refine enterN (MC := 0) (MS := 0) pl_X5 rfl (Nat.le_of_ble_eq_true rfl) ?_
  intro p e s m args below meth c QQ X hK hZ hnm hE
  refine q_rw (c1 := 0) (s1 := (60 * 0)) rfl (by omega) ?_
  refine q_aload_n (j := 0) X dX5_init_0 rfl rfl ?_
  refine q_objI X kw_1_185 kw_1_24 kw_1_25 dX5_init_1 (Nat.le_of_ble_eq_true rfl) (Nat.le_of_ble_eq_true rfl) ?_
  refine q_aload_n (j := 0) X dX5_init_4 rfl rfl ?_
  refine q_iload_n (j := 1) X dX5_init_5 rfl rfl ?_
  obtain ⟨g_1, h⟩ := h
  refine q_putI (k := 0) X (axN ax) hK rfl rfl (Nat.le_of_ble_eq_true rfl) inTX5 g_1 tyX5 tyX5_ok nmX5 kw_1_186 rfl rfl (tyX5_ok 0 (Nat.le_of_ble_eq_true rfl)) rfl dX5_init_6 ?_
  refine q_nmP (fun m_2 em_2 => ?_)
  have h := h m_2 em_2
  refine q_aload_n (j := 0) X dX5_init_9 rfl rfl ?_
  refine q_iload_n (j := 2) X dX5_init_10 rfl rfl ?_
  obtain ⟨g_3, h⟩ := h
  refine q_putI (k := 1) X (axN ax) hK rfl rfl (Nat.le_of_ble_eq_true rfl) inTX5 g_3 tyX5 tyX5_ok nmX5 kw_1_189 rfl rfl (tyX5_ok 1 (Nat.le_of_ble_eq_true rfl)) rfl dX5_init_11 ?_
  refine q_nmP (fun m_4 em_4 => ?_)
  have h := h m_4 em_4
  exact hE _ _ _ dX5_init_14 h
theorem dX8_init_0 : decode cX8_init 0 = .ok (.aload_n 0, 1) := by decide +kernel
theorem dX8_init_1 : decode cX8_init 1 = .ok (.invokespecial 3, 3) := by decide +kernel
theorem dX8_init_4 : decode cX8_init 4 = .ok (.aload_n 0, 1) := by decide +kernel
theorem dX8_init_5 : decode cX8_init 5 = .ok (.new 9, 3) := by decide +kernel
theorem dX8_init_8 : decode cX8_init 8 = .ok (.dup, 1) := by decide +kernel
theorem dX8_init_9 : decode cX8_init 9 = .ok (.invokespecial 11, 3) := by decide +kernel
theorem dX8_init_12 : decode cX8_init 12 = .ok (.putfield 12, 3) := by decide +kernel
theorem dX8_init_15 : decode cX8_init 15 = .ok (.aload_n 0, 1) := by decide +kernel
theorem dX8_init_16 : decode cX8_init 16 = .ok (.bipush 16, 2) := by decide +kernel
theorem dX8_init_18 : decode cX8_init 18 = .ok (.anewarray 18, 3) := by decide +kernel
theorem dX8_init_21 : decode cX8_init 21 = .ok (.putfield 20, 3) := by decide +kernel
theorem dX8_init_24 : decode cX8_init 24 = .ok (.aload_n 0, 1) := by decide +kernel
theorem dX8_init_25 : decode cX8_init 25 = .ok (.bipush 12, 2) := by decide +kernel
theorem dX8_init_27 : decode cX8_init 27 = .ok (.anewarray 24, 3) := by decide +kernel
theorem dX8_init_30 : decode cX8_init 30 = .ok (.putfield 26, 3) := by decide +kernel
theorem dX8_init_33 : decode cX8_init 33 = .ok (.aload_n 0, 1) := by decide +kernel
theorem dX8_init_34 : decode cX8_init 34 = .ok (.iconst 5, 1) := by decide +kernel
theorem dX8_init_35 : decode cX8_init 35 = .ok (.anewarray 30, 3) := by decide +kernel
theorem dX8_init_38 : decode cX8_init 38 = .ok (.putfield 32, 3) := by decide +kernel
theorem dX8_init_41 : decode cX8_init 41 = .ok (.aload_n 0, 1) := by decide +kernel
theorem dX8_init_42 : decode cX8_init 42 = .ok (.bipush 6, 2) := by decide +kernel
theorem dX8_init_44 : decode cX8_init 44 = .ok (.anewarray 36, 3) := by decide +kernel
theorem dX8_init_47 : decode cX8_init 47 = .ok (.putfield 38, 3) := by decide +kernel
theorem dX8_init_50 : decode cX8_init 50 = .ok (.aload_n 0, 1) := by decide +kernel
theorem dX8_init_51 : decode cX8_init 51 = .ok (.bipush 16, 2) := by decide +kernel
theorem dX8_init_53 : decode cX8_init 53 = .ok (.newarray .int, 2) := by decide +kernel
theorem dX8_init_55 : decode cX8_init 55 = .ok (.putfield 42, 3) := by decide +kernel
theorem dX8_init_58 : decode cX8_init 58 = .ok (.iconst 0, 1) := by decide +kernel
theorem dX8_init_59 : decode cX8_init 59 = .ok (.istore_n 1, 1) := by decide +kernel
theorem dX8_init_60 : decode cX8_init 60 = .ok (.iload_n 1, 1) := by decide +kernel
theorem dX8_init_61 : decode cX8_init 61 = .ok (.bipush 16, 2) := by decide +kernel
theorem dX8_init_63 : decode cX8_init 63 = .ok (.if_icmp .ge 22, 3) := by decide +kernel
theorem dX8_init_66 : decode cX8_init 66 = .ok (.aload_n 0, 1) := by decide +kernel
theorem dX8_init_67 : decode cX8_init 67 = .ok (.getfield 20, 3) := by decide +kernel
theorem dX8_init_70 : decode cX8_init 70 = .ok (.iload_n 1, 1) := by decide +kernel
theorem dX8_init_71 : decode cX8_init 71 = .ok (.new 18, 3) := by decide +kernel
theorem dX8_init_74 : decode cX8_init 74 = .ok (.dup, 1) := by decide +kernel
theorem dX8_init_75 : decode cX8_init 75 = .ok (.invokespecial 46, 3) := by decide +kernel
theorem dX8_init_78 : decode cX8_init 78 = .ok (.aastore, 1) := by decide +kernel
theorem dX8_init_79 : decode cX8_init 79 = .ok (.iinc 1 1, 3) := by decide +kernel
theorem dX8_init_82 : decode cX8_init 82 = .ok (.goto (-22), 3) := by decide +kernel
theorem dX8_init_85 : decode cX8_init 85 = .ok (.iconst 0, 1) := by decide +kernel
theorem dX8_init_86 : decode cX8_init 86 = .ok (.istore_n 1, 1) := by decide +kernel
theorem dX8_init_87 : decode cX8_init 87 = .ok (.iload_n 1, 1) := by decide +kernel
theorem dX8_init_88 : decode cX8_init 88 = .ok (.bipush 12, 2) := by decide +kernel
theorem dX8_init_90 : decode cX8_init 90 = .ok (.if_icmp .ge 22, 3) := by decide +kernel
theorem dX8_init_93 : decode cX8_init 93 = .ok (.aload_n 0, 1) := by decide +kernel
theorem dX8_init_94 : decode cX8_init 94 = .ok (.getfield 26, 3) := by decide +kernel
theorem dX8_init_97 : decode cX8_init 97 = .ok (.iload_n 1, 1) := by decide +kernel
theorem dX8_init_98 : decode cX8_init 98 = .ok (.new 24, 3) := by decide +kernel
theorem dX8_init_101 : decode cX8_init 101 = .ok (.dup, 1) := by decide +kernel
theorem dX8_init_102 : decode cX8_init 102 = .ok (.invokespecial 47, 3) := by decide +kernel
theorem dX8_init_105 : decode cX8_init 105 = .ok (.aastore, 1) := by decide +kernel
theorem dX8_init_106 : decode cX8_init 106 = .ok (.iinc 1 1, 3) := by decide +kernel
theorem dX8_init_109 : decode cX8_init 109 = .ok (.goto (-22), 3) := by decide +kernel
theorem dX8_init_112 : decode cX8_init 112 = .ok (.iconst 0, 1) := by decide +kernel
theorem dX8_init_113 : decode cX8_init 113 = .ok (.istore_n 1, 1) := by decide +kernel
theorem dX8_init_114 : decode cX8_init 114 = .ok (.iload_n 1, 1) := by decide +kernel
theorem dX8_init_115 : decode cX8_init 115 = .ok (.iconst 5, 1) := by decide +kernel
theorem dX8_init_116 : decode cX8_init 116 = .ok (.if_icmp .ge 22, 3) := by decide +kernel
theorem dX8_init_119 : decode cX8_init 119 = .ok (.aload_n 0, 1) := by decide +kernel
theorem dX8_init_120 : decode cX8_init 120 = .ok (.getfield 32, 3) := by decide +kernel
theorem dX8_init_123 : decode cX8_init 123 = .ok (.iload_n 1, 1) := by decide +kernel
theorem dX8_init_124 : decode cX8_init 124 = .ok (.new 30, 3) := by decide +kernel
theorem dX8_init_127 : decode cX8_init 127 = .ok (.dup, 1) := by decide +kernel
theorem dX8_init_128 : decode cX8_init 128 = .ok (.invokespecial 48, 3) := by decide +kernel
theorem dX8_init_131 : decode cX8_init 131 = .ok (.aastore, 1) := by decide +kernel
theorem dX8_init_132 : decode cX8_init 132 = .ok (.iinc 1 1, 3) := by decide +kernel
theorem dX8_init_135 : decode cX8_init 135 = .ok (.goto (-21), 3) := by decide +kernel
theorem dX8_init_138 : decode cX8_init 138 = .ok (.iconst 0, 1) := by decide +kernel
theorem dX8_init_139 : decode cX8_init 139 = .ok (.istore_n 1, 1) := by decide +kernel
theorem dX8_init_140 : decode cX8_init 140 = .ok (.iload_n 1, 1) := by decide +kernel
theorem dX8_init_141 : decode cX8_init 141 = .ok (.bipush 6, 2) := by decide +kernel
theorem dX8_init_143 : decode cX8_init 143 = .ok (.if_icmp .ge 32, 3) := by decide +kernel
theorem dX8_init_146 : decode cX8_init 146 = .ok (.aload_n 0, 1) := by decide +kernel
theorem dX8_init_147 : decode cX8_init 147 = .ok (.getfield 38, 3) := by decide +kernel
theorem dX8_init_150 : decode cX8_init 150 = .ok (.iload_n 1, 1) := by decide +kernel
theorem dX8_init_151 : decode cX8_init 151 = .ok (.new 36, 3) := by decide +kernel
theorem dX8_init_154 : decode cX8_init 154 = .ok (.dup, 1) := by decide +kernel
theorem dX8_init_155 : decode cX8_init 155 = .ok (.getstatic 49, 3) := by decide +kernel
theorem dX8_init_158 : decode cX8_init 158 = .ok (.iload_n 1, 1) := by decide +kernel
theorem dX8_init_159 : decode cX8_init 159 = .ok (.iaload, 1) := by decide +kernel
theorem dX8_init_160 : decode cX8_init 160 = .ok (.getstatic 52, 3) := by decide +kernel
theorem dX8_init_163 : decode cX8_init 163 = .ok (.iload_n 1, 1) := by decide +kernel
theorem dX8_init_164 : decode cX8_init 164 = .ok (.iaload, 1) := by decide +kernel
theorem dX8_init_165 : decode cX8_init 165 = .ok (.invokespecial 55, 3) := by decide +kernel
theorem dX8_init_168 : decode cX8_init 168 = .ok (.aastore, 1) := by decide +kernel
theorem dX8_init_169 : decode cX8_init 169 = .ok (.iinc 1 1, 3) := by decide +kernel
theorem dX8_init_172 : decode cX8_init 172 = .ok (.goto (-32), 3) := by decide +kernel
theorem dX8_init_175 : decode cX8_init 175 = .ok (.return_, 1) := by decide +kernel
def w_X8_init_B140 (nb : Nat) (i : Nat) (Q9 : Mm → Prop) (K_66 : Int32 → Mm → Nat → Prop) (y_63 : Int32) (m_64 : Mm) (d_65 : Nat) : Prop :=
  ((6 ≤ y_63 → d_65 = 45 ∧ Q9 m_64) ∧
  (¬ 6 ≤ y_63 → GN GC offC (nb + d_65) 1 i ∧ (∃ k_71 : Nat, (GC 6 k_71 ∧ offC 6 k_71 = (nb + d_65) ∧ ∀ f, m_64.1 6 k_71 f = 0 ∧ m_64.2 6 k_71 f = 0) ∧ d_65 < 45 ∧ (vp_in y_63 (slen 1) ∧ (vp_in y_63 (slen 2) ∧ ((d_65 + 1) ≤ 45 ∧ w_X5_init (nb + (d_65 + 1)) k_71 (stv 1 y_63.toNatClampNeg) (stv 2 y_63.toNatClampNeg) m_64 (fun (m_78 : Mm) => GN GC offC (nb + (d_65 + 1)) 6 k_71 ∧ GN GC offC (nb + (d_65 + 1)) 10 (m_64.2 1 i 9) ∧ vp_in y_63 6 ∧ ∀ m_83 : Mm, m_83 = sR m_78 10 (m_64.2 1 i 9) y_63.toNatClampNeg k_71 → (∀ x_84 : Int32, x_84 = y_63 + 1 → (K_66 x_84 m_83 (d_65 + 1))))))))))
def w_X8_init_B114 (nb : Nat) (i : Nat) (Q9 : Mm → Prop) (K_60 : Int32 → Mm → Nat → Prop) (y_57 : Int32) (m_58 : Mm) (d_59 : Nat) : Prop :=
  ((5 ≤ y_57 → ∃ n, itr (α := Int32 × Mm × Nat) (fun K a => w_X8_init_B140 nb i Q9 (fun z0 z1 z2 => K (z0, z1, z2)) a.1 a.2.1 a.2.2) n (0, m_58, d_59)) ∧
  (¬ 5 ≤ y_57 → GN GC offC (nb + d_59) 1 i ∧ (∃ k_87 : Nat, (GC 5 k_87 ∧ offC 5 k_87 = (nb + d_59) ∧ ∀ f, m_58.1 5 k_87 f = 0 ∧ m_58.2 5 k_87 f = 0) ∧ d_59 < 45 ∧ ((d_59 + 1) ≤ 45 ∧ w_X0_init (nb + (d_59 + 1)) k_87 m_58 (fun (m_92 : Mm) => GN GC offC (nb + (d_59 + 1)) 5 k_87 ∧ GN GC offC (nb + (d_59 + 1)) 9 (m_58.2 1 i 8) ∧ vp_in y_57 5 ∧ ∀ m_97 : Mm, m_97 = sR m_92 9 (m_58.2 1 i 8) y_57.toNatClampNeg k_87 → (∀ x_98 : Int32, x_98 = y_57 + 1 → (K_60 x_98 m_97 (d_59 + 1))))))))
def w_X8_init_B87 (nb : Nat) (i : Nat) (Q9 : Mm → Prop) (K_54 : Int32 → Mm → Nat → Prop) (y_51 : Int32) (m_52 : Mm) (d_53 : Nat) : Prop :=
  ((12 ≤ y_51 → ∃ n, itr (α := Int32 × Mm × Nat) (fun K a => w_X8_init_B114 nb i Q9 (fun z0 z1 z2 => K (z0, z1, z2)) a.1 a.2.1 a.2.2) n (0, m_52, d_53)) ∧
  (¬ 12 ≤ y_51 → GN GC offC (nb + d_53) 1 i ∧ (∃ k_101 : Nat, (GC 4 k_101 ∧ offC 4 k_101 = (nb + d_53) ∧ ∀ f, m_52.1 4 k_101 f = 0 ∧ m_52.2 4 k_101 f = 0) ∧ d_53 < 45 ∧ ((d_53 + 1) ≤ 45 ∧ w_X7_init (nb + (d_53 + 1)) k_101 m_52 (fun (m_106 : Mm) => GN GC offC (nb + (d_53 + 1)) 4 k_101 ∧ GN GC offC (nb + (d_53 + 1)) 8 (m_52.2 1 i 7) ∧ vp_in y_51 12 ∧ ∀ m_111 : Mm, m_111 = sR m_106 8 (m_52.2 1 i 7) y_51.toNatClampNeg k_101 → (∀ x_112 : Int32, x_112 = y_51 + 1 → (K_54 x_112 m_111 (d_53 + 1))))))))
def w_X8_init_B60 (nb : Nat) (i : Nat) (Q9 : Mm → Prop) (K_48 : Int32 → Mm → Nat → Prop) (y_45 : Int32) (m_46 : Mm) (d_47 : Nat) : Prop :=
  ((16 ≤ y_45 → ∃ n, itr (α := Int32 × Mm × Nat) (fun K a => w_X8_init_B87 nb i Q9 (fun z0 z1 z2 => K (z0, z1, z2)) a.1 a.2.1 a.2.2) n (0, m_46, d_47)) ∧
  (¬ 16 ≤ y_45 → GN GC offC (nb + d_47) 1 i ∧ (∃ k_115 : Nat, (GC 3 k_115 ∧ offC 3 k_115 = (nb + d_47) ∧ ∀ f, m_46.1 3 k_115 f = 0 ∧ m_46.2 3 k_115 f = 0) ∧ d_47 < 45 ∧ ((d_47 + 1) ≤ 45 ∧ w_X2_init (nb + (d_47 + 1)) k_115 m_46 (fun (m_120 : Mm) => GN GC offC (nb + (d_47 + 1)) 3 k_115 ∧ GN GC offC (nb + (d_47 + 1)) 7 (m_46.2 1 i 6) ∧ vp_in y_45 16 ∧ ∀ m_125 : Mm, m_125 = sR m_120 7 (m_46.2 1 i 6) y_45.toNatClampNeg k_115 → (∀ x_126 : Int32, x_126 = y_45 + 1 → (K_48 x_126 m_125 (d_47 + 1))))))))
def w_X8_init (nb : Nat) (i : Nat) (mm : Mm) (Q9 : Mm → Prop) : Prop :=
  ∃ k_1 : Nat, (GC 2 k_1 ∧ offC 2 k_1 = (nb + 0) ∧ ∀ f, mm.1 2 k_1 f = 0 ∧ mm.2 2 k_1 f = 0) ∧ 0 < 45 ∧ (1 ≤ 45 ∧ w_X6_init (nb + 1) k_1 mm (fun (m_6 : Mm) => GN GC offC (nb + 1) 1 i ∧ ∀ m_9 : Mm, m_9 = sR m_6 1 i 5 k_1 → (∃ k_10 : Nat, (GC 7 k_10 ∧ offC 7 k_10 = (nb + 1) ∧ ∀ f, m_9.1 7 k_10 f = 0 ∧ m_9.2 7 k_10 f = 0) ∧ 1 < 45 ∧ (GN GC offC (nb + 2) 1 i ∧ ∀ m_16 : Mm, m_16 = sR m_9 1 i 6 k_10 → (∃ k_17 : Nat, (GC 8 k_17 ∧ offC 8 k_17 = (nb + 2) ∧ ∀ f, m_16.1 8 k_17 f = 0 ∧ m_16.2 8 k_17 f = 0) ∧ 2 < 45 ∧ (GN GC offC (nb + 3) 1 i ∧ ∀ m_23 : Mm, m_23 = sR m_16 1 i 7 k_17 → (∃ k_24 : Nat, (GC 9 k_24 ∧ offC 9 k_24 = (nb + 3) ∧ ∀ f, m_23.1 9 k_24 f = 0 ∧ m_23.2 9 k_24 f = 0) ∧ 3 < 45 ∧ (GN GC offC (nb + 4) 1 i ∧ ∀ m_30 : Mm, m_30 = sR m_23 1 i 8 k_24 → (∃ k_31 : Nat, (GC 10 k_31 ∧ offC 10 k_31 = (nb + 4) ∧ ∀ f, m_30.1 10 k_31 f = 0 ∧ m_30.2 10 k_31 f = 0) ∧ 4 < 45 ∧ (GN GC offC (nb + 5) 1 i ∧ ∀ m_37 : Mm, m_37 = sR m_30 1 i 9 k_31 → (∃ k_38 : Nat, (GC 11 k_38 ∧ offC 11 k_38 = (nb + 5) ∧ ∀ f, m_37.1 11 k_38 f = 0 ∧ m_37.2 11 k_38 f = 0) ∧ 5 < 45 ∧ (GN GC offC (nb + 6) 1 i ∧ ∀ m_44 : Mm, m_44 = sR m_37 1 i 10 k_38 → (∃ n, itr (α := Int32 × Mm × Nat) (fun K a => w_X8_init_B60 nb i Q9 (fun z0 z1 z2 => K (z0, z1, z2)) a.1 a.2.1 a.2.2) n (0, m_44, 6))))))))))))))
def rm_X8_init : Room := { frames := 2, cells := 45, slots := 2700, locals := 42 }
theorem hy_X8_init : yX8_init.cls = RX8 ∧ yX8_init.cls ≠ "java/lang/invoke/MethodHandle" ∧ yX8_init.cls ≠ "java/lang/invoke/VarHandle" ∧ (parseMethodDescriptor yX8_init.desc).map (fun d => d.parameters.length) = some 0 := by decide +kernel
set_option maxRecDepth 100000 in
set_option maxHeartbeats 4000000 in
theorem c_X8_init {l : Launch} {D : va_G} {cA : Nat → ClassId} {ad : Nat → Nat → Nat} {A : Nat → Prop} (ax : Ax ad GC A) {b : Nat} (hA : ∀ t i, GC t i → ad t i = b + offC t i) (nb : Nat) (i : Nat) (hi : ok 1 i) (mm : Mm) (Q9 : Mm → Prop) (h : w_X8_init nb i mm Q9) : Met l yX8_init (.code yX8_init cX8_init 2 none :: TG) rm_X8_init (PcM (SZ b nb) D cA ad true (GN GC offC nb) (ZC ad A) [.ref (ad 1 i)] mm) (AnsV (SZ b (nb + 45)) D cA ad true (GN GC offC (nb + 45)) A Q9) 45 2700 A := by
  have zo := ZC_ok ad A
  unfold w_X8_init at h
  refine enterN (MC := 45) (MS := 2700) pl_X8 rfl (Nat.le_of_ble_eq_true rfl) ?_
  intro p e s m args below meth c QQ X hK hZ hnm hE
  refine q_rw (c1 := 0) (s1 := (60 * 0)) rfl (by omega) ?_
  refine q_aload_n (j := 0) X dX8_init_0 rfl rfl ?_
  refine q_objI X kw_1_31 kw_1_24 kw_1_25 dX8_init_1 (Nat.le_of_ble_eq_true rfl) (Nat.le_of_ble_eq_true rfl) ?_
  refine q_aload_n (j := 0) X dX8_init_4 rfl rfl ?_
  obtain ⟨k_1, ⟨hk_2, ho_3, hz_4⟩, hd_5, h⟩ := h
  refine q_new (t := 2) (k := k_1) X ax hA hK rfl rfl inTX6 tyX6 tyX6_ok dfX6 kw_1_32 kw_1_33 kw_1_3 hk_2 ho_3 hz_4 (by show 0 + 1 ≤ 45; omega) (by show 60 * 0 + 7 ≤ 60 * 45; omega) dX8_init_5 ?_
  refine q_w (c2 := 1) (n2 := (60 * 1)) (by omega) (by omega) ?_
  refine q_dup X dX8_init_8 rfl ?_
  obtain ⟨hd_7, h⟩ := h
  refine q_callN (q_runIN X hK hZ zo [] [.ref (ad 2 k_1), .ref (ad 1 i)] rfl rfl (Nat.le_of_ble_eq_true rfl) dX8_init_9 ⟨by show 1 + 0 ≤ 45; omega, by show 60 * 1 + 0 ≤ 60 * 45; omega⟩ (c_X6_init ax hA (nb + 1) k_1 hk_2.2 mm _ h) rfl rfl (List.mem_of_getElem? (i := 1) rfl) kw_1_3 kw_1_36 kw_1_35 rfl hy_X6_init.2 ⟨(Nat.le_of_ble_eq_true rfl), (Nat.le_of_ble_eq_true rfl)⟩) (fun m_6 h => ?_)
  refine q_rw (c1 := 1) (s1 := (60 * 1)) (by omega) (by omega) ?_
  obtain ⟨g_8, h⟩ := h
  refine q_putRF (r := k_1) (k := 5) X (axN ax) hK rfl rfl (Nat.le_of_ble_eq_true rfl) inTX8 g_8 tyX8 tyX8_ok nmX8 kw_1_239 (hnm.trans rfl) rfl rfl rfl (tyX8_ok 5 (Nat.le_of_ble_eq_true rfl)) (Or.inl ⟨_, rfl⟩) rfl rfl (rv_nn (a := ad 2) (r := k_1) hk_2.2.1).symm dX8_init_12 ?_
  refine q_nmP (fun m_9 em_9 => ?_)
  have h := h m_9 em_9
  refine q_aload_n (j := 0) X dX8_init_15 rfl rfl ?_
  refine q_bipush (v := 16) X dX8_init_16 (by decide) ?_
  obtain ⟨k_10, ⟨hk_11, ho_12, hz_13⟩, hd_14, h⟩ := h
  refine q_anew (t := 7) (k := k_10) (N := 16) (C := "BondWarehouse$Entry") X ax hA hK rfl rfl rfl (fun _ => Nat.succ_ne_zero _) kw_1_72 (hZ.2.2.2.2.2.2 _ (by decide)) (by decide) (by decide +kernel) (by decide) hk_11 ho_12 hz_13 (by show 1 + 1 ≤ 45; omega) (by show 60 * 1 + 16 ≤ 60 * 45; omega) dX8_init_18 ?_
  refine q_w (c2 := 2) (n2 := (60 * 2)) (by omega) (by omega) ?_
  obtain ⟨g_15, h⟩ := h
  refine q_putRF (r := k_10) (k := 6) X (axN ax) hK rfl rfl (Nat.le_of_ble_eq_true rfl) inTX8 g_15 tyX8 tyX8_ok nmX8 kw_2_2 (hnm.trans rfl) rfl rfl rfl (tyX8_ok 6 (Nat.le_of_ble_eq_true rfl)) (Or.inr ⟨_, rfl⟩) rfl rfl (rv_nn (a := ad 7) (r := k_10) hk_11.2.1).symm dX8_init_21 ?_
  refine q_nmP (fun m_16 em_16 => ?_)
  have h := h m_16 em_16
  refine q_aload_n (j := 0) X dX8_init_24 rfl rfl ?_
  refine q_bipush (v := 12) X dX8_init_25 (by decide) ?_
  obtain ⟨k_17, ⟨hk_18, ho_19, hz_20⟩, hd_21, h⟩ := h
  refine q_anew (t := 8) (k := k_17) (N := 12) (C := "BondWarehouse$Receipt") X ax hA hK rfl rfl rfl (fun _ => Nat.succ_ne_zero _) kw_1_74 (hZ.2.2.2.2.2.2 _ (by decide)) (by decide) (by decide +kernel) (by decide) hk_18 ho_19 hz_20 (by show 2 + 1 ≤ 45; omega) (by show 60 * 2 + 12 ≤ 60 * 45; omega) dX8_init_27 ?_
  refine q_w (c2 := 3) (n2 := (60 * 3)) (by omega) (by omega) ?_
  obtain ⟨g_22, h⟩ := h
  refine q_putRF (r := k_17) (k := 7) X (axN ax) hK rfl rfl (Nat.le_of_ble_eq_true rfl) inTX8 g_22 tyX8 tyX8_ok nmX8 kw_2_5 (hnm.trans rfl) rfl rfl rfl (tyX8_ok 7 (Nat.le_of_ble_eq_true rfl)) (Or.inr ⟨_, rfl⟩) rfl rfl (rv_nn (a := ad 8) (r := k_17) hk_18.2.1).symm dX8_init_30 ?_
  refine q_nmP (fun m_23 em_23 => ?_)
  have h := h m_23 em_23
  refine q_aload_n (j := 0) X dX8_init_33 rfl rfl ?_
  refine q_iconst (v := 5) X dX8_init_34 (by decide) ?_
  obtain ⟨k_24, ⟨hk_25, ho_26, hz_27⟩, hd_28, h⟩ := h
  refine q_anew (t := 9) (k := k_24) (N := 5) (C := "BondWarehouse$Chamber") X ax hA hK rfl rfl rfl (fun _ => Nat.succ_ne_zero _) kw_1_76 (hZ.2.2.2.2.2.2 _ (by decide)) (by decide) (by decide +kernel) (by decide) hk_25 ho_26 hz_27 (by show 3 + 1 ≤ 45; omega) (by show 60 * 3 + 5 ≤ 60 * 45; omega) dX8_init_35 ?_
  refine q_w (c2 := 4) (n2 := (60 * 4)) (by omega) (by omega) ?_
  obtain ⟨g_29, h⟩ := h
  refine q_putRF (r := k_24) (k := 8) X (axN ax) hK rfl rfl (Nat.le_of_ble_eq_true rfl) inTX8 g_29 tyX8 tyX8_ok nmX8 kw_2_6 (hnm.trans rfl) rfl rfl rfl (tyX8_ok 8 (Nat.le_of_ble_eq_true rfl)) (Or.inr ⟨_, rfl⟩) rfl rfl (rv_nn (a := ad 9) (r := k_24) hk_25.2.1).symm dX8_init_38 ?_
  refine q_nmP (fun m_30 em_30 => ?_)
  have h := h m_30 em_30
  refine q_aload_n (j := 0) X dX8_init_41 rfl rfl ?_
  refine q_bipush (v := 6) X dX8_init_42 (by decide) ?_
  obtain ⟨k_31, ⟨hk_32, ho_33, hz_34⟩, hd_35, h⟩ := h
  refine q_anew (t := 10) (k := k_31) (N := 6) (C := "BondWarehouse$KindAccount") X ax hA hK rfl rfl rfl (fun _ => Nat.succ_ne_zero _) kw_1_78 (hZ.2.2.2.2.2.2 _ (by decide)) (by decide) (by decide +kernel) (by decide) hk_32 ho_33 hz_34 (by show 4 + 1 ≤ 45; omega) (by show 60 * 4 + 6 ≤ 60 * 45; omega) dX8_init_44 ?_
  refine q_w (c2 := 5) (n2 := (60 * 5)) (by omega) (by omega) ?_
  obtain ⟨g_36, h⟩ := h
  refine q_putRF (r := k_31) (k := 9) X (axN ax) hK rfl rfl (Nat.le_of_ble_eq_true rfl) inTX8 g_36 tyX8 tyX8_ok nmX8 kw_2_9 (hnm.trans rfl) rfl rfl rfl (tyX8_ok 9 (Nat.le_of_ble_eq_true rfl)) (Or.inr ⟨_, rfl⟩) rfl rfl (rv_nn (a := ad 10) (r := k_31) hk_32.2.1).symm dX8_init_47 ?_
  refine q_nmP (fun m_37 em_37 => ?_)
  have h := h m_37 em_37
  refine q_aload_n (j := 0) X dX8_init_50 rfl rfl ?_
  refine q_bipush (v := 16) X dX8_init_51 (by decide) ?_
  obtain ⟨k_38, ⟨hk_39, ho_40, hz_41⟩, hd_42, h⟩ := h
  refine q_newa (atype := .int) (t := 11) (k := k_38) (N := 16) X ax hA hK rfl rfl rfl (by decide) (fun _ => rfl) (kwA_int) (by decide) (by decide +kernel) (by decide) hk_39 ho_40 hz_41 (by show 5 + 1 ≤ 45; omega) (by show 60 * 5 + 16 ≤ 60 * 45; omega) dX8_init_53 ?_
  refine q_w (c2 := 6) (n2 := (60 * 6)) (by omega) (by omega) ?_
  obtain ⟨g_43, h⟩ := h
  refine q_putRF (r := k_38) (k := 10) X (axN ax) hK rfl rfl (Nat.le_of_ble_eq_true rfl) inTX8 g_43 tyX8 tyX8_ok nmX8 kw_2_12 (hnm.trans rfl) rfl rfl rfl (tyX8_ok 10 (Nat.le_of_ble_eq_true rfl)) (Or.inr ⟨_, rfl⟩) rfl rfl (rv_nn (a := ad 11) (r := k_38) hk_39.2.1).symm dX8_init_55 ?_
  refine q_nmP (fun m_44 em_44 => ?_)
  have h := h m_44 em_44
  refine q_iconst (v := 0) X dX8_init_58 (by decide) ?_
  refine q_istore_n (lv' := [(1, .int 0), (0, .ref (ad 1 i))]) X dX8_init_59 rfl (by decide) rfl ?_
  refine q_sub [1, 0] rfl ?_
  have L60 : ∀ (n : Nat) (y_45 : Int32) (m_46 : Mm) (d_47 : Nat), itr (α := Int32 × Mm × Nat) (fun K a => w_X8_init_B60 nb i Q9 (fun z0 z1 z2 => K (z0, z1, z2)) a.1 a.2.1 a.2.2) n (y_45, m_46, d_47) → V p l e rm_X8_init s m args below meth c QQ 2 A d_47 (60 * d_47) (Rep (SZ b (nb + d_47)) D cA ad true (GN GC offC (nb + d_47)) m_46) 60 [(0, .ref (ad 1 i)), (1, .int y_45)] [] := by
    intro n
    induction n with
    | zero => intro y_45 m_46 d_47 h; exact h.elim
    | succ n ih_49 =>
      intro y_45 m_46 d_47 h
      have h : w_X8_init_B60 nb i Q9 (fun z0 z1 z2 => itr (α := Int32 × Mm × Nat) (fun K a => w_X8_init_B60 nb i Q9 (fun z0 z1 z2 => K (z0, z1, z2)) a.1 a.2.1 a.2.2) n (z0, z1, z2)) y_45 m_46 d_47 := h
      unfold w_X8_init_B60 at h
      refine q_iload_n (j := 1) X dX8_init_60 rfl rfl ?_
      refine q_bipush (v := 16) X dX8_init_61 (by decide) ?_
      refine q_icmp_ge (tgt := 85) X dX8_init_63 (by decide) (fun c_50 => ?_) (fun c_50 => ?_)
      · have h := h.1 c_50
        refine q_iconst (v := 0) X dX8_init_85 (by decide) ?_
        refine q_istore_n (lv' := [(1, .int 0), (0, .ref (ad 1 i))]) X dX8_init_86 rfl (by decide) rfl ?_
        refine q_sub [1, 0] rfl ?_
        have L87 : ∀ (n : Nat) (y_51 : Int32) (m_52 : Mm) (d_53 : Nat), itr (α := Int32 × Mm × Nat) (fun K a => w_X8_init_B87 nb i Q9 (fun z0 z1 z2 => K (z0, z1, z2)) a.1 a.2.1 a.2.2) n (y_51, m_52, d_53) → V p l e rm_X8_init s m args below meth c QQ 2 A d_53 (60 * d_53) (Rep (SZ b (nb + d_53)) D cA ad true (GN GC offC (nb + d_53)) m_52) 87 [(0, .ref (ad 1 i)), (1, .int y_51)] [] := by
          intro n
          induction n with
          | zero => intro y_51 m_52 d_53 h; exact h.elim
          | succ n ih_55 =>
            intro y_51 m_52 d_53 h
            have h : w_X8_init_B87 nb i Q9 (fun z0 z1 z2 => itr (α := Int32 × Mm × Nat) (fun K a => w_X8_init_B87 nb i Q9 (fun z0 z1 z2 => K (z0, z1, z2)) a.1 a.2.1 a.2.2) n (z0, z1, z2)) y_51 m_52 d_53 := h
            unfold w_X8_init_B87 at h
            refine q_iload_n (j := 1) X dX8_init_87 rfl rfl ?_
            refine q_bipush (v := 12) X dX8_init_88 (by decide) ?_
            refine q_icmp_ge (tgt := 112) X dX8_init_90 (by decide) (fun c_56 => ?_) (fun c_56 => ?_)
            · have h := h.1 c_56
              refine q_iconst (v := 0) X dX8_init_112 (by decide) ?_
              refine q_istore_n (lv' := [(1, .int 0), (0, .ref (ad 1 i))]) X dX8_init_113 rfl (by decide) rfl ?_
              refine q_sub [1, 0] rfl ?_
              have L114 : ∀ (n : Nat) (y_57 : Int32) (m_58 : Mm) (d_59 : Nat), itr (α := Int32 × Mm × Nat) (fun K a => w_X8_init_B114 nb i Q9 (fun z0 z1 z2 => K (z0, z1, z2)) a.1 a.2.1 a.2.2) n (y_57, m_58, d_59) → V p l e rm_X8_init s m args below meth c QQ 2 A d_59 (60 * d_59) (Rep (SZ b (nb + d_59)) D cA ad true (GN GC offC (nb + d_59)) m_58) 114 [(0, .ref (ad 1 i)), (1, .int y_57)] [] := by
                intro n
                induction n with
                | zero => intro y_57 m_58 d_59 h; exact h.elim
                | succ n ih_61 =>
                  intro y_57 m_58 d_59 h
                  have h : w_X8_init_B114 nb i Q9 (fun z0 z1 z2 => itr (α := Int32 × Mm × Nat) (fun K a => w_X8_init_B114 nb i Q9 (fun z0 z1 z2 => K (z0, z1, z2)) a.1 a.2.1 a.2.2) n (z0, z1, z2)) y_57 m_58 d_59 := h
                  unfold w_X8_init_B114 at h
                  refine q_iload_n (j := 1) X dX8_init_114 rfl rfl ?_
                  refine q_iconst (v := 5) X dX8_init_115 (by decide) ?_
                  refine q_icmp_ge (tgt := 138) X dX8_init_116 (by decide) (fun c_62 => ?_) (fun c_62 => ?_)
                  · have h := h.1 c_62
                    refine q_iconst (v := 0) X dX8_init_138 (by decide) ?_
                    refine q_istore_n (lv' := [(1, .int 0), (0, .ref (ad 1 i))]) X dX8_init_139 rfl (by decide) rfl ?_
                    refine q_sub [1, 0] rfl ?_
                    have L140 : ∀ (n : Nat) (y_63 : Int32) (m_64 : Mm) (d_65 : Nat), itr (α := Int32 × Mm × Nat) (fun K a => w_X8_init_B140 nb i Q9 (fun z0 z1 z2 => K (z0, z1, z2)) a.1 a.2.1 a.2.2) n (y_63, m_64, d_65) → V p l e rm_X8_init s m args below meth c QQ 2 A d_65 (60 * d_65) (Rep (SZ b (nb + d_65)) D cA ad true (GN GC offC (nb + d_65)) m_64) 140 [(0, .ref (ad 1 i)), (1, .int y_63)] [] := by
                      intro n
                      induction n with
                      | zero => intro y_63 m_64 d_65 h; exact h.elim
                      | succ n ih_67 =>
                        intro y_63 m_64 d_65 h
                        have h : w_X8_init_B140 nb i Q9 (fun z0 z1 z2 => itr (α := Int32 × Mm × Nat) (fun K a => w_X8_init_B140 nb i Q9 (fun z0 z1 z2 => K (z0, z1, z2)) a.1 a.2.1 a.2.2) n (z0, z1, z2)) y_63 m_64 d_65 := h
                        unfold w_X8_init_B140 at h
                        refine q_iload_n (j := 1) X dX8_init_140 rfl rfl ?_
                        refine q_bipush (v := 6) X dX8_init_141 (by decide) ?_
                        refine q_icmp_ge (tgt := 175) X dX8_init_143 (by decide) (fun c_68 => ?_) (fun c_68 => ?_)
                        · have h := h.1 c_68
                          obtain ⟨e_69, h⟩ := h
                          rw [e_69]
                          exact hE _ _ _ dX8_init_175 h
                        · have h := h.2 c_68
                          refine q_aload_n (j := 0) X dX8_init_146 rfl rfl ?_
                          obtain ⟨g_70, h⟩ := h
                          refine q_get (k := 9) (v := rv (ad 10) (m_64.2 1 i 9)) X hK rfl rfl (Nat.le_of_ble_eq_true rfl) inTX8 g_70 kw_2_9 rfl rfl dX8_init_147 ?_
                          refine q_iload_n (j := 1) X dX8_init_150 rfl rfl ?_
                          obtain ⟨k_71, ⟨hk_72, ho_73, hz_74⟩, hd_75, h⟩ := h
                          refine q_new (t := 6) (k := k_71) X ax hA hK rfl rfl inTX5 tyX5 tyX5_ok dfX5 kw_1_78 kw_1_177 kw_1_7 hk_72 ho_73 hz_74 (by show d_65 + 1 ≤ 45; omega) (by show 60 * d_65 + 8 ≤ 60 * 45; omega) dX8_init_151 ?_
                          refine q_w (c2 := (d_65 + 1)) (n2 := (60 * (d_65 + 1))) (by omega) (by omega) ?_
                          refine q_dup X dX8_init_154 rfl ?_
                          refine q_getsN X hK (hZ.1 1 (okc (t := 20) 1 (by decide))).1 (List.mem_of_getElem? (i := 48) rfl) dX8_init_155 ?_
                          refine q_iload_n (j := 1) X dX8_init_158 rfl rfl ?_
                          obtain ⟨b_76, h⟩ := h
                          refine q_tiald (jn := y_63.toNatClampNeg) (v := .int (stv 1 y_63.toNatClampNeg)) X (hZ.1 _ (okc (t := 20) 1 (by decide))).2 b_76 rfl rfl dX8_init_159 ?_
                          refine q_getsN X hK (hZ.1 2 (okc (t := 20) 2 (by decide))).1 (List.mem_of_getElem? (i := 49) rfl) dX8_init_160 ?_
                          refine q_iload_n (j := 1) X dX8_init_163 rfl rfl ?_
                          obtain ⟨b_77, h⟩ := h
                          refine q_tiald (jn := y_63.toNatClampNeg) (v := .int (stv 2 y_63.toNatClampNeg)) X (hZ.1 _ (okc (t := 20) 2 (by decide))).2 b_77 rfl rfl dX8_init_164 ?_
                          obtain ⟨hd_79, h⟩ := h
                          refine q_callN (q_runIN X hK hZ zo [.int (stv 1 y_63.toNatClampNeg), .int (stv 2 y_63.toNatClampNeg)] [.ref (ad 6 k_71), .int y_63, rv (ad 10) (m_64.2 1 i 9)] rfl rfl (by simp only [List.map, rv_cat]; exact Nat.le_of_ble_eq_true rfl) dX8_init_165 ⟨by show (d_65 + 1) + 0 ≤ 45; omega, by show 60 * (d_65 + 1) + 0 ≤ 60 * 45; omega⟩ (c_X5_init ax hA (nb + (d_65 + 1)) k_71 hk_72.2 (stv 1 y_63.toNatClampNeg) (stv 2 y_63.toNatClampNeg) m_64 _ h) rfl rfl (List.mem_of_getElem? (i := 5) rfl) kw_1_7 kw_1_184 kw_1_183 rfl hy_X5_init.2 ⟨(Nat.le_of_ble_eq_true rfl), (Nat.le_of_ble_eq_true rfl)⟩) (fun m_78 h => ?_)
                          refine q_rw (c1 := (d_65 + 1)) (s1 := (60 * (d_65 + 1))) (by omega) (by omega) ?_
                          obtain ⟨g_80, h⟩ := h
                          obtain ⟨g_81, h⟩ := h
                          rw [rv_nn (a := ad 10) (r := (m_64.2 1 i 9)) g_81.1.2.1]
                          obtain ⟨b_82, h⟩ := h
                          refine q_aast (t := 10) (i := (m_64.2 1 i 9)) (jn := y_63.toNatClampNeg) X (axN ax) hK rfl rfl g_81 rfl rfl rfl g_80 hk_72.2.1 b_82 rfl rfl rfl dX8_init_168 ?_
                          refine q_nmP (fun m_83 em_83 => ?_)
                          have h := h m_83 em_83
                          obtain ⟨x_84, ex_84⟩ : ∃ z : Int32, z = y_63 + 1 := ⟨_, rfl⟩
                          have h := h x_84 ex_84
                          refine q_iinc (j := 1) (v := x_84) (lv' := [(1, .int x_84), (0, .ref (ad 1 i))]) X dX8_init_169 rfl (by rw [ex_84]; rfl) (by decide) rfl ?_
                          refine q_goto (tgt := 140) X dX8_init_172 (by decide) ?_
                          refine q_sub [1, 0] rfl ?_
                          exact ih_67 x_84 m_83 (d_65 + 1) h
                    obtain ⟨n_85, h⟩ := h
                    exact L140 n_85 0 m_58 d_59 h
                  · have h := h.2 c_62
                    refine q_aload_n (j := 0) X dX8_init_119 rfl rfl ?_
                    obtain ⟨g_86, h⟩ := h
                    refine q_get (k := 8) (v := rv (ad 9) (m_58.2 1 i 8)) X hK rfl rfl (Nat.le_of_ble_eq_true rfl) inTX8 g_86 kw_2_6 rfl rfl dX8_init_120 ?_
                    refine q_iload_n (j := 1) X dX8_init_123 rfl rfl ?_
                    obtain ⟨k_87, ⟨hk_88, ho_89, hz_90⟩, hd_91, h⟩ := h
                    refine q_new (t := 5) (k := k_87) X ax hA hK rfl rfl inTX0 tyX0 tyX0_ok dfX0 kw_1_76 kw_1_161 kw_1_6 hk_88 ho_89 hz_90 (by show d_59 + 1 ≤ 45; omega) (by show 60 * d_59 + 2 ≤ 60 * 45; omega) dX8_init_124 ?_
                    refine q_w (c2 := (d_59 + 1)) (n2 := (60 * (d_59 + 1))) (by omega) (by omega) ?_
                    refine q_dup X dX8_init_127 rfl ?_
                    obtain ⟨hd_93, h⟩ := h
                    refine q_callN (q_runIN X hK hZ zo [] [.ref (ad 5 k_87), .int y_57, rv (ad 9) (m_58.2 1 i 8)] rfl rfl (by simp only [List.map, rv_cat]; exact Nat.le_of_ble_eq_true rfl) dX8_init_128 ⟨by show (d_59 + 1) + 0 ≤ 45; omega, by show 60 * (d_59 + 1) + 0 ≤ 60 * 45; omega⟩ (c_X0_init ax hA (nb + (d_59 + 1)) k_87 hk_88.2 m_58 _ h) rfl rfl (List.mem_of_getElem? (i := 4) rfl) kw_1_6 kw_1_164 kw_1_163 rfl hy_X0_init.2 ⟨(Nat.le_of_ble_eq_true rfl), (Nat.le_of_ble_eq_true rfl)⟩) (fun m_92 h => ?_)
                    refine q_rw (c1 := (d_59 + 1)) (s1 := (60 * (d_59 + 1))) (by omega) (by omega) ?_
                    obtain ⟨g_94, h⟩ := h
                    obtain ⟨g_95, h⟩ := h
                    rw [rv_nn (a := ad 9) (r := (m_58.2 1 i 8)) g_95.1.2.1]
                    obtain ⟨b_96, h⟩ := h
                    refine q_aast (t := 9) (i := (m_58.2 1 i 8)) (jn := y_57.toNatClampNeg) X (axN ax) hK rfl rfl g_95 rfl rfl rfl g_94 hk_88.2.1 b_96 rfl rfl rfl dX8_init_131 ?_
                    refine q_nmP (fun m_97 em_97 => ?_)
                    have h := h m_97 em_97
                    obtain ⟨x_98, ex_98⟩ : ∃ z : Int32, z = y_57 + 1 := ⟨_, rfl⟩
                    have h := h x_98 ex_98
                    refine q_iinc (j := 1) (v := x_98) (lv' := [(1, .int x_98), (0, .ref (ad 1 i))]) X dX8_init_132 rfl (by rw [ex_98]; rfl) (by decide) rfl ?_
                    refine q_goto (tgt := 114) X dX8_init_135 (by decide) ?_
                    refine q_sub [1, 0] rfl ?_
                    exact ih_61 x_98 m_97 (d_59 + 1) h
              obtain ⟨n_99, h⟩ := h
              exact L114 n_99 0 m_52 d_53 h
            · have h := h.2 c_56
              refine q_aload_n (j := 0) X dX8_init_93 rfl rfl ?_
              obtain ⟨g_100, h⟩ := h
              refine q_get (k := 7) (v := rv (ad 8) (m_52.2 1 i 7)) X hK rfl rfl (Nat.le_of_ble_eq_true rfl) inTX8 g_100 kw_2_5 rfl rfl dX8_init_94 ?_
              refine q_iload_n (j := 1) X dX8_init_97 rfl rfl ?_
              obtain ⟨k_101, ⟨hk_102, ho_103, hz_104⟩, hd_105, h⟩ := h
              refine q_new (t := 4) (k := k_101) X ax hA hK rfl rfl inTX7 tyX7 tyX7_ok dfX7 kw_1_74 kw_1_133 kw_1_5 hk_102 ho_103 hz_104 (by show d_53 + 1 ≤ 45; omega) (by show 60 * d_53 + 4 ≤ 60 * 45; omega) dX8_init_98 ?_
              refine q_w (c2 := (d_53 + 1)) (n2 := (60 * (d_53 + 1))) (by omega) (by omega) ?_
              refine q_dup X dX8_init_101 rfl ?_
              obtain ⟨hd_107, h⟩ := h
              refine q_callN (q_runIN X hK hZ zo [] [.ref (ad 4 k_101), .int y_51, rv (ad 8) (m_52.2 1 i 7)] rfl rfl (by simp only [List.map, rv_cat]; exact Nat.le_of_ble_eq_true rfl) dX8_init_102 ⟨by show (d_53 + 1) + 0 ≤ 45; omega, by show 60 * (d_53 + 1) + 0 ≤ 60 * 45; omega⟩ (c_X7_init ax hA (nb + (d_53 + 1)) k_101 hk_102.2 m_52 _ h) rfl rfl (List.mem_of_getElem? (i := 3) rfl) kw_1_5 kw_1_136 kw_1_135 rfl hy_X7_init.2 ⟨(Nat.le_of_ble_eq_true rfl), (Nat.le_of_ble_eq_true rfl)⟩) (fun m_106 h => ?_)
              refine q_rw (c1 := (d_53 + 1)) (s1 := (60 * (d_53 + 1))) (by omega) (by omega) ?_
              obtain ⟨g_108, h⟩ := h
              obtain ⟨g_109, h⟩ := h
              rw [rv_nn (a := ad 8) (r := (m_52.2 1 i 7)) g_109.1.2.1]
              obtain ⟨b_110, h⟩ := h
              refine q_aast (t := 8) (i := (m_52.2 1 i 7)) (jn := y_51.toNatClampNeg) X (axN ax) hK rfl rfl g_109 rfl rfl rfl g_108 hk_102.2.1 b_110 rfl rfl rfl dX8_init_105 ?_
              refine q_nmP (fun m_111 em_111 => ?_)
              have h := h m_111 em_111
              obtain ⟨x_112, ex_112⟩ : ∃ z : Int32, z = y_51 + 1 := ⟨_, rfl⟩
              have h := h x_112 ex_112
              refine q_iinc (j := 1) (v := x_112) (lv' := [(1, .int x_112), (0, .ref (ad 1 i))]) X dX8_init_106 rfl (by rw [ex_112]; rfl) (by decide) rfl ?_
              refine q_goto (tgt := 87) X dX8_init_109 (by decide) ?_
              refine q_sub [1, 0] rfl ?_
              exact ih_55 x_112 m_111 (d_53 + 1) h
        obtain ⟨n_113, h⟩ := h
        exact L87 n_113 0 m_46 d_47 h
      · have h := h.2 c_50
        refine q_aload_n (j := 0) X dX8_init_66 rfl rfl ?_
        obtain ⟨g_114, h⟩ := h
        refine q_get (k := 6) (v := rv (ad 7) (m_46.2 1 i 6)) X hK rfl rfl (Nat.le_of_ble_eq_true rfl) inTX8 g_114 kw_2_2 rfl rfl dX8_init_67 ?_
        refine q_iload_n (j := 1) X dX8_init_70 rfl rfl ?_
        obtain ⟨k_115, ⟨hk_116, ho_117, hz_118⟩, hd_119, h⟩ := h
        refine q_new (t := 3) (k := k_115) X ax hA hK rfl rfl inTX2 tyX2 tyX2_ok dfX2 kw_1_72 kw_1_80 kw_1_4 hk_116 ho_117 hz_118 (by show d_47 + 1 ≤ 45; omega) (by show 60 * d_47 + 8 ≤ 60 * 45; omega) dX8_init_71 ?_
        refine q_w (c2 := (d_47 + 1)) (n2 := (60 * (d_47 + 1))) (by omega) (by omega) ?_
        refine q_dup X dX8_init_74 rfl ?_
        obtain ⟨hd_121, h⟩ := h
        refine q_callN (q_runIN X hK hZ zo [] [.ref (ad 3 k_115), .int y_45, rv (ad 7) (m_46.2 1 i 6)] rfl rfl (by simp only [List.map, rv_cat]; exact Nat.le_of_ble_eq_true rfl) dX8_init_75 ⟨by show (d_47 + 1) + 0 ≤ 45; omega, by show 60 * (d_47 + 1) + 0 ≤ 60 * 45; omega⟩ (c_X2_init ax hA (nb + (d_47 + 1)) k_115 hk_116.2 m_46 _ h) rfl rfl (List.mem_of_getElem? (i := 2) rfl) kw_1_4 kw_1_83 kw_1_82 rfl hy_X2_init.2 ⟨(Nat.le_of_ble_eq_true rfl), (Nat.le_of_ble_eq_true rfl)⟩) (fun m_120 h => ?_)
        refine q_rw (c1 := (d_47 + 1)) (s1 := (60 * (d_47 + 1))) (by omega) (by omega) ?_
        obtain ⟨g_122, h⟩ := h
        obtain ⟨g_123, h⟩ := h
        rw [rv_nn (a := ad 7) (r := (m_46.2 1 i 6)) g_123.1.2.1]
        obtain ⟨b_124, h⟩ := h
        refine q_aast (t := 7) (i := (m_46.2 1 i 6)) (jn := y_45.toNatClampNeg) X (axN ax) hK rfl rfl g_123 rfl rfl rfl g_122 hk_116.2.1 b_124 rfl rfl rfl dX8_init_78 ?_
        refine q_nmP (fun m_125 em_125 => ?_)
        have h := h m_125 em_125
        obtain ⟨x_126, ex_126⟩ : ∃ z : Int32, z = y_45 + 1 := ⟨_, rfl⟩
        have h := h x_126 ex_126
        refine q_iinc (j := 1) (v := x_126) (lv' := [(1, .int x_126), (0, .ref (ad 1 i))]) X dX8_init_79 rfl (by rw [ex_126]; rfl) (by decide) rfl ?_
        refine q_goto (tgt := 60) X dX8_init_82 (by decide) ?_
        refine q_sub [1, 0] rfl ?_
        exact ih_49 x_126 m_125 (d_47 + 1) h
  obtain ⟨n_127, h⟩ := h
  exact L60 n_127 0 m_44 6 h
theorem dX3_init_0 : decode cX3_init 0 = .ok (.aload_n 0, 1) := by decide +kernel
theorem dX3_init_1 : decode cX3_init 1 = .ok (.invokespecial 3, 3) := by decide +kernel
theorem dX3_init_4 : decode cX3_init 4 = .ok (.aload_n 0, 1) := by decide +kernel
theorem dX3_init_5 : decode cX3_init 5 = .ok (.bipush 6, 2) := by decide +kernel
theorem dX3_init_7 : decode cX3_init 7 = .ok (.anewarray 9, 3) := by decide +kernel
theorem dX3_init_10 : decode cX3_init 10 = .ok (.putfield 11, 3) := by decide +kernel
theorem dX3_init_13 : decode cX3_init 13 = .ok (.aload_n 0, 1) := by decide +kernel
theorem dX3_init_14 : decode cX3_init 14 = .ok (.iconst 2, 1) := by decide +kernel
theorem dX3_init_15 : decode cX3_init 15 = .ok (.anewarray 9, 3) := by decide +kernel
theorem dX3_init_18 : decode cX3_init 18 = .ok (.putfield 17, 3) := by decide +kernel
theorem dX3_init_21 : decode cX3_init 21 = .ok (.aload_n 0, 1) := by decide +kernel
theorem dX3_init_22 : decode cX3_init 22 = .ok (.iconst 2, 1) := by decide +kernel
theorem dX3_init_23 : decode cX3_init 23 = .ok (.newarray .boolean, 2) := by decide +kernel
theorem dX3_init_25 : decode cX3_init 25 = .ok (.putfield 20, 3) := by decide +kernel
theorem dX3_init_28 : decode cX3_init 28 = .ok (.iconst 0, 1) := by decide +kernel
theorem dX3_init_29 : decode cX3_init 29 = .ok (.istore_n 1, 1) := by decide +kernel
theorem dX3_init_30 : decode cX3_init 30 = .ok (.iload_n 1, 1) := by decide +kernel
theorem dX3_init_31 : decode cX3_init 31 = .ok (.bipush 6, 2) := by decide +kernel
theorem dX3_init_33 : decode cX3_init 33 = .ok (.if_icmp .ge 22, 3) := by decide +kernel
theorem dX3_init_36 : decode cX3_init 36 = .ok (.aload_n 0, 1) := by decide +kernel
theorem dX3_init_37 : decode cX3_init 37 = .ok (.getfield 11, 3) := by decide +kernel
theorem dX3_init_40 : decode cX3_init 40 = .ok (.iload_n 1, 1) := by decide +kernel
theorem dX3_init_41 : decode cX3_init 41 = .ok (.new 9, 3) := by decide +kernel
theorem dX3_init_44 : decode cX3_init 44 = .ok (.dup, 1) := by decide +kernel
theorem dX3_init_45 : decode cX3_init 45 = .ok (.invokespecial 24, 3) := by decide +kernel
theorem dX3_init_48 : decode cX3_init 48 = .ok (.aastore, 1) := by decide +kernel
theorem dX3_init_49 : decode cX3_init 49 = .ok (.iinc 1 1, 3) := by decide +kernel
theorem dX3_init_52 : decode cX3_init 52 = .ok (.goto (-22), 3) := by decide +kernel
theorem dX3_init_55 : decode cX3_init 55 = .ok (.iconst 0, 1) := by decide +kernel
theorem dX3_init_56 : decode cX3_init 56 = .ok (.istore_n 1, 1) := by decide +kernel
theorem dX3_init_57 : decode cX3_init 57 = .ok (.iload_n 1, 1) := by decide +kernel
theorem dX3_init_58 : decode cX3_init 58 = .ok (.iconst 2, 1) := by decide +kernel
theorem dX3_init_59 : decode cX3_init 59 = .ok (.if_icmp .ge 22, 3) := by decide +kernel
theorem dX3_init_62 : decode cX3_init 62 = .ok (.aload_n 0, 1) := by decide +kernel
theorem dX3_init_63 : decode cX3_init 63 = .ok (.getfield 17, 3) := by decide +kernel
theorem dX3_init_66 : decode cX3_init 66 = .ok (.iload_n 1, 1) := by decide +kernel
theorem dX3_init_67 : decode cX3_init 67 = .ok (.new 9, 3) := by decide +kernel
theorem dX3_init_70 : decode cX3_init 70 = .ok (.dup, 1) := by decide +kernel
theorem dX3_init_71 : decode cX3_init 71 = .ok (.invokespecial 24, 3) := by decide +kernel
theorem dX3_init_74 : decode cX3_init 74 = .ok (.aastore, 1) := by decide +kernel
theorem dX3_init_75 : decode cX3_init 75 = .ok (.iinc 1 1, 3) := by decide +kernel
theorem dX3_init_78 : decode cX3_init 78 = .ok (.goto (-21), 3) := by decide +kernel
theorem dX3_init_81 : decode cX3_init 81 = .ok (.return_, 1) := by decide +kernel
def w_X3_init_B57 (nb : Nat) (i : Nat) (Q9 : Mm → Prop) (K_31 : Int32 → Mm → Nat → Prop) (y_28 : Int32) (m_29 : Mm) (d_30 : Nat) : Prop :=
  ((2 ≤ y_28 → d_30 = 371 ∧ Q9 m_29) ∧
  (¬ 2 ≤ y_28 → GN GC offC (nb + d_30) 12 i ∧ (∃ k_36 : Nat, (GC 1 k_36 ∧ offC 1 k_36 = (nb + d_30) ∧ ∀ f, m_29.1 1 k_36 f = 0 ∧ m_29.2 1 k_36 f = 0) ∧ d_30 < 371 ∧ ((d_30 + 1) + 45 ≤ 371 ∧ w_X8_init (nb + (d_30 + 1)) k_36 m_29 (fun (m_41 : Mm) => GN GC offC (nb + ((d_30 + 1) + 45)) 1 k_36 ∧ GN GC offC (nb + ((d_30 + 1) + 45)) 14 (m_29.2 12 i 3) ∧ vp_in y_28 2 ∧ ∀ m_46 : Mm, m_46 = sR m_41 14 (m_29.2 12 i 3) y_28.toNatClampNeg k_36 → (∀ x_47 : Int32, x_47 = y_28 + 1 → (K_31 x_47 m_46 ((d_30 + 1) + 45))))))))
def w_X3_init_B30 (nb : Nat) (i : Nat) (Q9 : Mm → Prop) (K_25 : Int32 → Mm → Nat → Prop) (y_22 : Int32) (m_23 : Mm) (d_24 : Nat) : Prop :=
  ((6 ≤ y_22 → ∃ n, itr (α := Int32 × Mm × Nat) (fun K a => w_X3_init_B57 nb i Q9 (fun z0 z1 z2 => K (z0, z1, z2)) a.1 a.2.1 a.2.2) n (0, m_23, d_24)) ∧
  (¬ 6 ≤ y_22 → GN GC offC (nb + d_24) 12 i ∧ (∃ k_50 : Nat, (GC 1 k_50 ∧ offC 1 k_50 = (nb + d_24) ∧ ∀ f, m_23.1 1 k_50 f = 0 ∧ m_23.2 1 k_50 f = 0) ∧ d_24 < 371 ∧ ((d_24 + 1) + 45 ≤ 371 ∧ w_X8_init (nb + (d_24 + 1)) k_50 m_23 (fun (m_55 : Mm) => GN GC offC (nb + ((d_24 + 1) + 45)) 1 k_50 ∧ GN GC offC (nb + ((d_24 + 1) + 45)) 13 (m_23.2 12 i 0) ∧ vp_in y_22 6 ∧ ∀ m_60 : Mm, m_60 = sR m_55 13 (m_23.2 12 i 0) y_22.toNatClampNeg k_50 → (∀ x_61 : Int32, x_61 = y_22 + 1 → (K_25 x_61 m_60 ((d_24 + 1) + 45))))))))
def w_X3_init (nb : Nat) (i : Nat) (mm : Mm) (Q9 : Mm → Prop) : Prop :=
  ∃ k_1 : Nat, (GC 13 k_1 ∧ offC 13 k_1 = (nb + 0) ∧ ∀ f, mm.1 13 k_1 f = 0 ∧ mm.2 13 k_1 f = 0) ∧ 0 < 371 ∧ (GN GC offC (nb + 1) 12 i ∧ ∀ m_7 : Mm, m_7 = sR mm 12 i 0 k_1 → (∃ k_8 : Nat, (GC 14 k_8 ∧ offC 14 k_8 = (nb + 1) ∧ ∀ f, m_7.1 14 k_8 f = 0 ∧ m_7.2 14 k_8 f = 0) ∧ 1 < 371 ∧ (GN GC offC (nb + 2) 12 i ∧ ∀ m_14 : Mm, m_14 = sR m_7 12 i 3 k_8 → (∃ k_15 : Nat, (GC 15 k_15 ∧ offC 15 k_15 = (nb + 2) ∧ ∀ f, m_14.1 15 k_15 f = 0 ∧ m_14.2 15 k_15 f = 0) ∧ 2 < 371 ∧ (GN GC offC (nb + 3) 12 i ∧ ∀ m_21 : Mm, m_21 = sR m_14 12 i 4 k_15 → (∃ n, itr (α := Int32 × Mm × Nat) (fun K a => w_X3_init_B30 nb i Q9 (fun z0 z1 z2 => K (z0, z1, z2)) a.1 a.2.1 a.2.2) n (0, m_21, 3)))))))
def rm_X3_init : Room := { frames := 3, cells := 371, slots := 22260, locals := 63 }
theorem hy_X3_init : yX3_init.cls = RX3 ∧ yX3_init.cls ≠ "java/lang/invoke/MethodHandle" ∧ yX3_init.cls ≠ "java/lang/invoke/VarHandle" ∧ (parseMethodDescriptor yX3_init.desc).map (fun d => d.parameters.length) = some 0 := by decide +kernel
set_option maxRecDepth 100000 in
set_option maxHeartbeats 4000000 in
theorem c_X3_init {l : Launch} {D : va_G} {cA : Nat → ClassId} {ad : Nat → Nat → Nat} {A : Nat → Prop} (ax : Ax ad GC A) {b : Nat} (hA : ∀ t i, GC t i → ad t i = b + offC t i) (nb : Nat) (i : Nat) (hi : ok 12 i) (mm : Mm) (Q9 : Mm → Prop) (h : w_X3_init nb i mm Q9) : Met l yX3_init (.code yX3_init cX3_init 2 none :: TG) rm_X3_init (PcM (SZ b nb) D cA ad true (GN GC offC nb) (ZC ad A) [.ref (ad 12 i)] mm) (AnsV (SZ b (nb + 371)) D cA ad true (GN GC offC (nb + 371)) A Q9) 371 22260 A := by
  have zo := ZC_ok ad A
  unfold w_X3_init at h
  refine enterN (MC := 371) (MS := 22260) pl_X3 rfl (Nat.le_of_ble_eq_true rfl) ?_
  intro p e s m args below meth c QQ X hK hZ hnm hE
  refine q_rw (c1 := 0) (s1 := (60 * 0)) rfl (by omega) ?_
  refine q_aload_n (j := 0) X dX3_init_0 rfl rfl ?_
  refine q_objI X kw_2_41 kw_1_24 kw_1_25 dX3_init_1 (Nat.le_of_ble_eq_true rfl) (Nat.le_of_ble_eq_true rfl) ?_
  refine q_aload_n (j := 0) X dX3_init_4 rfl rfl ?_
  refine q_bipush (v := 6) X dX3_init_5 (by decide) ?_
  obtain ⟨k_1, ⟨hk_2, ho_3, hz_4⟩, hd_5, h⟩ := h
  refine q_anew (t := 13) (k := k_1) (N := 6) (C := "BondWarehouse$State") X ax hA hK rfl rfl rfl (fun _ => Nat.succ_ne_zero _) kw_2_42 (hZ.2.2.2.2.2.2 _ (by decide)) (by decide) (by decide +kernel) (by decide) hk_2 ho_3 hz_4 (by show 0 + 1 ≤ 371; omega) (by show 60 * 0 + 6 ≤ 60 * 371; omega) dX3_init_7 ?_
  refine q_w (c2 := 1) (n2 := (60 * 1)) (by omega) (by omega) ?_
  obtain ⟨g_6, h⟩ := h
  refine q_putRF (r := k_1) (k := 0) X (axN ax) hK rfl rfl (Nat.le_of_ble_eq_true rfl) inTX3 g_6 tyX3 tyX3_ok nmX3 kw_2_45 (hnm.trans rfl) rfl rfl rfl (tyX3_ok 0 (Nat.le_of_ble_eq_true rfl)) (Or.inr ⟨_, rfl⟩) rfl rfl (rv_nn (a := ad 13) (r := k_1) hk_2.2.1).symm dX3_init_10 ?_
  refine q_nmP (fun m_7 em_7 => ?_)
  have h := h m_7 em_7
  refine q_aload_n (j := 0) X dX3_init_13 rfl rfl ?_
  refine q_iconst (v := 2) X dX3_init_14 (by decide) ?_
  obtain ⟨k_8, ⟨hk_9, ho_10, hz_11⟩, hd_12, h⟩ := h
  refine q_anew (t := 14) (k := k_8) (N := 2) (C := "BondWarehouse$State") X ax hA hK rfl rfl rfl (fun _ => Nat.succ_ne_zero _) kw_2_42 (hZ.2.2.2.2.2.2 _ (by decide)) (by decide) (by decide +kernel) (by decide) hk_9 ho_10 hz_11 (by show 1 + 1 ≤ 371; omega) (by show 60 * 1 + 2 ≤ 60 * 371; omega) dX3_init_15 ?_
  refine q_w (c2 := 2) (n2 := (60 * 2)) (by omega) (by omega) ?_
  obtain ⟨g_13, h⟩ := h
  refine q_putRF (r := k_8) (k := 3) X (axN ax) hK rfl rfl (Nat.le_of_ble_eq_true rfl) inTX3 g_13 tyX3 tyX3_ok nmX3 kw_2_49 (hnm.trans rfl) rfl rfl rfl (tyX3_ok 3 (Nat.le_of_ble_eq_true rfl)) (Or.inr ⟨_, rfl⟩) rfl rfl (rv_nn (a := ad 14) (r := k_8) hk_9.2.1).symm dX3_init_18 ?_
  refine q_nmP (fun m_14 em_14 => ?_)
  have h := h m_14 em_14
  refine q_aload_n (j := 0) X dX3_init_21 rfl rfl ?_
  refine q_iconst (v := 2) X dX3_init_22 (by decide) ?_
  obtain ⟨k_15, ⟨hk_16, ho_17, hz_18⟩, hd_19, h⟩ := h
  refine q_newa (atype := .boolean) (t := 15) (k := k_15) (N := 2) X ax hA hK rfl rfl rfl (by decide) (fun _ => rfl) (kwA_boolean) (by decide) (by decide +kernel) (by decide) hk_16 ho_17 hz_18 (by show 2 + 1 ≤ 371; omega) (by show 60 * 2 + 2 ≤ 60 * 371; omega) dX3_init_23 ?_
  refine q_w (c2 := 3) (n2 := (60 * 3)) (by omega) (by omega) ?_
  obtain ⟨g_20, h⟩ := h
  refine q_putRF (r := k_15) (k := 4) X (axN ax) hK rfl rfl (Nat.le_of_ble_eq_true rfl) inTX3 g_20 tyX3 tyX3_ok nmX3 kw_2_51 (hnm.trans rfl) rfl rfl rfl (tyX3_ok 4 (Nat.le_of_ble_eq_true rfl)) (Or.inr ⟨_, rfl⟩) rfl rfl (rv_nn (a := ad 15) (r := k_15) hk_16.2.1).symm dX3_init_25 ?_
  refine q_nmP (fun m_21 em_21 => ?_)
  have h := h m_21 em_21
  refine q_iconst (v := 0) X dX3_init_28 (by decide) ?_
  refine q_istore_n (lv' := [(1, .int 0), (0, .ref (ad 12 i))]) X dX3_init_29 rfl (by decide) rfl ?_
  refine q_sub [1, 0] rfl ?_
  have L30 : ∀ (n : Nat) (y_22 : Int32) (m_23 : Mm) (d_24 : Nat), itr (α := Int32 × Mm × Nat) (fun K a => w_X3_init_B30 nb i Q9 (fun z0 z1 z2 => K (z0, z1, z2)) a.1 a.2.1 a.2.2) n (y_22, m_23, d_24) → V p l e rm_X3_init s m args below meth c QQ 2 A d_24 (60 * d_24) (Rep (SZ b (nb + d_24)) D cA ad true (GN GC offC (nb + d_24)) m_23) 30 [(0, .ref (ad 12 i)), (1, .int y_22)] [] := by
    intro n
    induction n with
    | zero => intro y_22 m_23 d_24 h; exact h.elim
    | succ n ih_26 =>
      intro y_22 m_23 d_24 h
      have h : w_X3_init_B30 nb i Q9 (fun z0 z1 z2 => itr (α := Int32 × Mm × Nat) (fun K a => w_X3_init_B30 nb i Q9 (fun z0 z1 z2 => K (z0, z1, z2)) a.1 a.2.1 a.2.2) n (z0, z1, z2)) y_22 m_23 d_24 := h
      unfold w_X3_init_B30 at h
      refine q_iload_n (j := 1) X dX3_init_30 rfl rfl ?_
      refine q_bipush (v := 6) X dX3_init_31 (by decide) ?_
      refine q_icmp_ge (tgt := 55) X dX3_init_33 (by decide) (fun c_27 => ?_) (fun c_27 => ?_)
      · have h := h.1 c_27
        refine q_iconst (v := 0) X dX3_init_55 (by decide) ?_
        refine q_istore_n (lv' := [(1, .int 0), (0, .ref (ad 12 i))]) X dX3_init_56 rfl (by decide) rfl ?_
        refine q_sub [1, 0] rfl ?_
        have L57 : ∀ (n : Nat) (y_28 : Int32) (m_29 : Mm) (d_30 : Nat), itr (α := Int32 × Mm × Nat) (fun K a => w_X3_init_B57 nb i Q9 (fun z0 z1 z2 => K (z0, z1, z2)) a.1 a.2.1 a.2.2) n (y_28, m_29, d_30) → V p l e rm_X3_init s m args below meth c QQ 2 A d_30 (60 * d_30) (Rep (SZ b (nb + d_30)) D cA ad true (GN GC offC (nb + d_30)) m_29) 57 [(0, .ref (ad 12 i)), (1, .int y_28)] [] := by
          intro n
          induction n with
          | zero => intro y_28 m_29 d_30 h; exact h.elim
          | succ n ih_32 =>
            intro y_28 m_29 d_30 h
            have h : w_X3_init_B57 nb i Q9 (fun z0 z1 z2 => itr (α := Int32 × Mm × Nat) (fun K a => w_X3_init_B57 nb i Q9 (fun z0 z1 z2 => K (z0, z1, z2)) a.1 a.2.1 a.2.2) n (z0, z1, z2)) y_28 m_29 d_30 := h
            unfold w_X3_init_B57 at h
            refine q_iload_n (j := 1) X dX3_init_57 rfl rfl ?_
            refine q_iconst (v := 2) X dX3_init_58 (by decide) ?_
            refine q_icmp_ge (tgt := 81) X dX3_init_59 (by decide) (fun c_33 => ?_) (fun c_33 => ?_)
            · have h := h.1 c_33
              obtain ⟨e_34, h⟩ := h
              rw [e_34]
              exact hE _ _ _ dX3_init_81 h
            · have h := h.2 c_33
              refine q_aload_n (j := 0) X dX3_init_62 rfl rfl ?_
              obtain ⟨g_35, h⟩ := h
              refine q_get (k := 3) (v := rv (ad 14) (m_29.2 12 i 3)) X hK rfl rfl (Nat.le_of_ble_eq_true rfl) inTX3 g_35 kw_2_49 rfl rfl dX3_init_63 ?_
              refine q_iload_n (j := 1) X dX3_init_66 rfl rfl ?_
              obtain ⟨k_36, ⟨hk_37, ho_38, hz_39⟩, hd_40, h⟩ := h
              refine q_new (t := 1) (k := k_36) X ax hA hK rfl rfl inTX8 tyX8 tyX8_ok dfX8 kw_2_42 kw_1_27 kw_1_2 hk_37 ho_38 hz_39 (by show d_30 + 1 ≤ 371; omega) (by show 60 * d_30 + 11 ≤ 60 * 371; omega) dX3_init_67 ?_
              refine q_w (c2 := (d_30 + 1)) (n2 := (60 * (d_30 + 1))) (by omega) (by omega) ?_
              refine q_dup X dX3_init_70 rfl ?_
              obtain ⟨hd_42, h⟩ := h
              refine q_callN (q_runIN X hK hZ zo [] [.ref (ad 1 k_36), .int y_28, rv (ad 14) (m_29.2 12 i 3)] rfl rfl (by simp only [List.map, rv_cat]; exact Nat.le_of_ble_eq_true rfl) dX3_init_71 ⟨by show (d_30 + 1) + 45 ≤ 371; omega, by show 60 * (d_30 + 1) + 60 * 45 ≤ 60 * 371; omega⟩ (c_X8_init ax hA (nb + (d_30 + 1)) k_36 hk_37.2 m_29 _ h) rfl rfl (List.mem_of_getElem? (i := 7) rfl) kw_1_2 kw_1_30 kw_1_29 rfl hy_X8_init.2 ⟨(Nat.le_of_ble_eq_true rfl), (Nat.le_of_ble_eq_true rfl)⟩) (fun m_41 h => ?_)
              refine q_rw (c1 := ((d_30 + 1) + 45)) (s1 := (60 * ((d_30 + 1) + 45))) (by omega) (by omega) ?_
              obtain ⟨g_43, h⟩ := h
              obtain ⟨g_44, h⟩ := h
              rw [rv_nn (a := ad 14) (r := (m_29.2 12 i 3)) g_44.1.2.1]
              obtain ⟨b_45, h⟩ := h
              refine q_aast (t := 14) (i := (m_29.2 12 i 3)) (jn := y_28.toNatClampNeg) X (axN ax) hK rfl rfl g_44 rfl rfl rfl g_43 hk_37.2.1 b_45 rfl rfl rfl dX3_init_74 ?_
              refine q_nmP (fun m_46 em_46 => ?_)
              have h := h m_46 em_46
              obtain ⟨x_47, ex_47⟩ : ∃ z : Int32, z = y_28 + 1 := ⟨_, rfl⟩
              have h := h x_47 ex_47
              refine q_iinc (j := 1) (v := x_47) (lv' := [(1, .int x_47), (0, .ref (ad 12 i))]) X dX3_init_75 rfl (by rw [ex_47]; rfl) (by decide) rfl ?_
              refine q_goto (tgt := 57) X dX3_init_78 (by decide) ?_
              refine q_sub [1, 0] rfl ?_
              exact ih_32 x_47 m_46 ((d_30 + 1) + 45) h
        obtain ⟨n_48, h⟩ := h
        exact L57 n_48 0 m_23 d_24 h
      · have h := h.2 c_27
        refine q_aload_n (j := 0) X dX3_init_36 rfl rfl ?_
        obtain ⟨g_49, h⟩ := h
        refine q_get (k := 0) (v := rv (ad 13) (m_23.2 12 i 0)) X hK rfl rfl (Nat.le_of_ble_eq_true rfl) inTX3 g_49 kw_2_45 rfl rfl dX3_init_37 ?_
        refine q_iload_n (j := 1) X dX3_init_40 rfl rfl ?_
        obtain ⟨k_50, ⟨hk_51, ho_52, hz_53⟩, hd_54, h⟩ := h
        refine q_new (t := 1) (k := k_50) X ax hA hK rfl rfl inTX8 tyX8 tyX8_ok dfX8 kw_2_42 kw_1_27 kw_1_2 hk_51 ho_52 hz_53 (by show d_24 + 1 ≤ 371; omega) (by show 60 * d_24 + 11 ≤ 60 * 371; omega) dX3_init_41 ?_
        refine q_w (c2 := (d_24 + 1)) (n2 := (60 * (d_24 + 1))) (by omega) (by omega) ?_
        refine q_dup X dX3_init_44 rfl ?_
        obtain ⟨hd_56, h⟩ := h
        refine q_callN (q_runIN X hK hZ zo [] [.ref (ad 1 k_50), .int y_22, rv (ad 13) (m_23.2 12 i 0)] rfl rfl (by simp only [List.map, rv_cat]; exact Nat.le_of_ble_eq_true rfl) dX3_init_45 ⟨by show (d_24 + 1) + 45 ≤ 371; omega, by show 60 * (d_24 + 1) + 60 * 45 ≤ 60 * 371; omega⟩ (c_X8_init ax hA (nb + (d_24 + 1)) k_50 hk_51.2 m_23 _ h) rfl rfl (List.mem_of_getElem? (i := 7) rfl) kw_1_2 kw_1_30 kw_1_29 rfl hy_X8_init.2 ⟨(Nat.le_of_ble_eq_true rfl), (Nat.le_of_ble_eq_true rfl)⟩) (fun m_55 h => ?_)
        refine q_rw (c1 := ((d_24 + 1) + 45)) (s1 := (60 * ((d_24 + 1) + 45))) (by omega) (by omega) ?_
        obtain ⟨g_57, h⟩ := h
        obtain ⟨g_58, h⟩ := h
        rw [rv_nn (a := ad 13) (r := (m_23.2 12 i 0)) g_58.1.2.1]
        obtain ⟨b_59, h⟩ := h
        refine q_aast (t := 13) (i := (m_23.2 12 i 0)) (jn := y_22.toNatClampNeg) X (axN ax) hK rfl rfl g_58 rfl rfl rfl g_57 hk_51.2.1 b_59 rfl rfl rfl dX3_init_48 ?_
        refine q_nmP (fun m_60 em_60 => ?_)
        have h := h m_60 em_60
        obtain ⟨x_61, ex_61⟩ : ∃ z : Int32, z = y_22 + 1 := ⟨_, rfl⟩
        have h := h x_61 ex_61
        refine q_iinc (j := 1) (v := x_61) (lv' := [(1, .int x_61), (0, .ref (ad 12 i))]) X dX3_init_49 rfl (by rw [ex_61]; rfl) (by decide) rfl ?_
        refine q_goto (tgt := 30) X dX3_init_52 (by decide) ?_
        refine q_sub [1, 0] rfl ?_
        exact ih_26 x_61 m_60 ((d_24 + 1) + 45) h
  obtain ⟨n_62, h⟩ := h
  exact L30 n_62 0 m_21 3 h
theorem dX1_init_0 : decode cX1_init 0 = .ok (.aload_n 0, 1) := by decide +kernel
theorem dX1_init_1 : decode cX1_init 1 = .ok (.invokespecial 3, 3) := by decide +kernel
theorem dX1_init_4 : decode cX1_init 4 = .ok (.aload_n 0, 1) := by decide +kernel
theorem dX1_init_5 : decode cX1_init 5 = .ok (.aload_n 1, 1) := by decide +kernel
theorem dX1_init_6 : decode cX1_init 6 = .ok (.putfield 9, 3) := by decide +kernel
theorem dX1_init_9 : decode cX1_init 9 = .ok (.aload_n 0, 1) := by decide +kernel
theorem dX1_init_10 : decode cX1_init 10 = .ok (.aload_n 2, 1) := by decide +kernel
theorem dX1_init_11 : decode cX1_init 11 = .ok (.putfield 15, 3) := by decide +kernel
theorem dX1_init_14 : decode cX1_init 14 = .ok (.return_, 1) := by decide +kernel
def w_X1_init (nb : Nat) (i : Nat) (p0 : Nat) (p1 : Nat) (mm : Mm) (Q9 : Mm → Prop) : Prop :=
  GN GC offC (nb + 0) 16 i ∧ ∀ m_2 : Mm, m_2 = sR mm 16 i 0 p0 → (GN GC offC (nb + 0) 16 i ∧ ∀ m_4 : Mm, m_4 = sR m_2 16 i 1 p1 → (Q9 m_4))
def rm_X1_init : Room := { frames := 1, cells := 0, slots := 0, locals := 20 }
theorem hy_X1_init : yX1_init.cls = RX1 ∧ yX1_init.cls ≠ "java/lang/invoke/MethodHandle" ∧ yX1_init.cls ≠ "java/lang/invoke/VarHandle" ∧ (parseMethodDescriptor yX1_init.desc).map (fun d => d.parameters.length) = some 2 := by decide +kernel
set_option maxRecDepth 100000 in
set_option maxHeartbeats 4000000 in
theorem c_X1_init {l : Launch} {D : va_G} {cA : Nat → ClassId} {ad : Nat → Nat → Nat} {A : Nat → Prop} (ax : Ax ad GC A) {b : Nat} (hA : ∀ t i, GC t i → ad t i = b + offC t i) (nb : Nat) (i : Nat) (hi : ok 16 i) (p0 : Nat) (hp0 : ok 1 p0) (p1 : Nat) (hp1 : ok 12 p1) (mm : Mm) (Q9 : Mm → Prop) (h : w_X1_init nb i p0 p1 mm Q9) : Met l yX1_init (.code yX1_init cX1_init 3 none :: TG) rm_X1_init (PcM (SZ b nb) D cA ad true (GN GC offC nb) (ZC ad A) [.ref (ad 16 i), .ref (ad 1 p0), .ref (ad 12 p1)] mm) (AnsV (SZ b (nb + 0)) D cA ad true (GN GC offC (nb + 0)) A Q9) 0 0 A := by
  have zo := ZC_ok ad A
  unfold w_X1_init at h
  refine enterN (MC := 0) (MS := 0) pl_X1 rfl (Nat.le_of_ble_eq_true rfl) ?_
  intro p e s m args below meth c QQ X hK hZ hnm hE
  refine q_rw (c1 := 0) (s1 := (60 * 0)) rfl (by omega) ?_
  refine q_aload_n (j := 0) X dX1_init_0 rfl rfl ?_
  refine q_objI X kw_2_74 kw_1_24 kw_1_25 dX1_init_1 (Nat.le_of_ble_eq_true rfl) (Nat.le_of_ble_eq_true rfl) ?_
  refine q_aload_n (j := 0) X dX1_init_4 rfl rfl ?_
  refine q_aload_n (j := 1) X dX1_init_5 rfl rfl ?_
  obtain ⟨g_1, h⟩ := h
  refine q_putRF (r := p0) (k := 0) X (axN ax) hK rfl rfl (Nat.le_of_ble_eq_true rfl) inTX1 g_1 tyX1 tyX1_ok nmX1 kw_2_75 (hnm.trans rfl) rfl rfl rfl (tyX1_ok 0 (Nat.le_of_ble_eq_true rfl)) (Or.inl ⟨_, rfl⟩) rfl rfl (rv_nn (a := ad 1) (r := p0) hp0.1).symm dX1_init_6 ?_
  refine q_nmP (fun m_2 em_2 => ?_)
  have h := h m_2 em_2
  refine q_aload_n (j := 0) X dX1_init_9 rfl rfl ?_
  refine q_aload_n (j := 2) X dX1_init_10 rfl rfl ?_
  obtain ⟨g_3, h⟩ := h
  refine q_putRF (r := p1) (k := 1) X (axN ax) hK rfl rfl (Nat.le_of_ble_eq_true rfl) inTX1 g_3 tyX1 tyX1_ok nmX1 kw_2_76 (hnm.trans rfl) rfl rfl rfl (tyX1_ok 1 (Nat.le_of_ble_eq_true rfl)) (Or.inl ⟨_, rfl⟩) rfl rfl (rv_nn (a := ad 12) (r := p1) hp1.1).symm dX1_init_11 ?_
  refine q_nmP (fun m_4 em_4 => ?_)
  have h := h m_4 em_4
  exact hE _ _ _ dX1_init_14 h
theorem dX4_init_0 : decode cX4_init 0 = .ok (.aload_n 0, 1) := by decide +kernel
theorem dX4_init_1 : decode cX4_init 1 = .ok (.invokespecial 3, 3) := by decide +kernel
theorem dX4_init_4 : decode cX4_init 4 = .ok (.aload_n 0, 1) := by decide +kernel
theorem dX4_init_5 : decode cX4_init 5 = .ok (.bipush 60, 2) := by decide +kernel
theorem dX4_init_7 : decode cX4_init 7 = .ok (.newarray .int, 2) := by decide +kernel
theorem dX4_init_9 : decode cX4_init 9 = .ok (.putfield 9, 3) := by decide +kernel
theorem dX4_init_12 : decode cX4_init 12 = .ok (.aload_n 0, 1) := by decide +kernel
theorem dX4_init_13 : decode cX4_init 13 = .ok (.iconst 4, 1) := by decide +kernel
theorem dX4_init_14 : decode cX4_init 14 = .ok (.newarray .int, 2) := by decide +kernel
theorem dX4_init_16 : decode cX4_init 16 = .ok (.putfield 15, 3) := by decide +kernel
theorem dX4_init_19 : decode cX4_init 19 = .ok (.return_, 1) := by decide +kernel
def w_X4_init (nb : Nat) (i : Nat) (mm : Mm) (Q9 : Mm → Prop) : Prop :=
  ∃ k_1 : Nat, (GC 18 k_1 ∧ offC 18 k_1 = (nb + 0) ∧ ∀ f, mm.1 18 k_1 f = 0 ∧ mm.2 18 k_1 f = 0) ∧ 0 < 2 ∧ (GN GC offC (nb + 1) 17 i ∧ ∀ m_7 : Mm, m_7 = sR mm 17 i 0 k_1 → (∃ k_8 : Nat, (GC 19 k_8 ∧ offC 19 k_8 = (nb + 1) ∧ ∀ f, m_7.1 19 k_8 f = 0 ∧ m_7.2 19 k_8 f = 0) ∧ 1 < 2 ∧ (GN GC offC (nb + 2) 17 i ∧ ∀ m_14 : Mm, m_14 = sR m_7 17 i 5 k_8 → (Q9 m_14))))
def rm_X4_init : Room := { frames := 1, cells := 2, slots := 120, locals := 20 }
theorem hy_X4_init : yX4_init.cls = RX4 ∧ yX4_init.cls ≠ "java/lang/invoke/MethodHandle" ∧ yX4_init.cls ≠ "java/lang/invoke/VarHandle" ∧ (parseMethodDescriptor yX4_init.desc).map (fun d => d.parameters.length) = some 0 := by decide +kernel
set_option maxRecDepth 100000 in
set_option maxHeartbeats 4000000 in
theorem c_X4_init {l : Launch} {D : va_G} {cA : Nat → ClassId} {ad : Nat → Nat → Nat} {A : Nat → Prop} (ax : Ax ad GC A) {b : Nat} (hA : ∀ t i, GC t i → ad t i = b + offC t i) (nb : Nat) (i : Nat) (hi : ok 17 i) (mm : Mm) (Q9 : Mm → Prop) (h : w_X4_init nb i mm Q9) : Met l yX4_init (.code yX4_init cX4_init 1 none :: TG) rm_X4_init (PcM (SZ b nb) D cA ad true (GN GC offC nb) (ZC ad A) [.ref (ad 17 i)] mm) (AnsV (SZ b (nb + 2)) D cA ad true (GN GC offC (nb + 2)) A Q9) 2 120 A := by
  have zo := ZC_ok ad A
  unfold w_X4_init at h
  refine enterN (MC := 2) (MS := 120) pl_X4 rfl (Nat.le_of_ble_eq_true rfl) ?_
  intro p e s m args below meth c QQ X hK hZ hnm hE
  refine q_rw (c1 := 0) (s1 := (60 * 0)) rfl (by omega) ?_
  refine q_aload_n (j := 0) X dX4_init_0 rfl rfl ?_
  refine q_objI X kw_2_87 kw_1_24 kw_1_25 dX4_init_1 (Nat.le_of_ble_eq_true rfl) (Nat.le_of_ble_eq_true rfl) ?_
  refine q_aload_n (j := 0) X dX4_init_4 rfl rfl ?_
  refine q_bipush (v := 60) X dX4_init_5 (by decide) ?_
  obtain ⟨k_1, ⟨hk_2, ho_3, hz_4⟩, hd_5, h⟩ := h
  refine q_newa (atype := .int) (t := 18) (k := k_1) (N := 60) X ax hA hK rfl rfl rfl (by decide) (fun _ => rfl) (kwA_int) (by decide) (by decide +kernel) (by decide) hk_2 ho_3 hz_4 (by show 0 + 1 ≤ 2; omega) (by show 60 * 0 + 60 ≤ 60 * 2; omega) dX4_init_7 ?_
  refine q_w (c2 := 1) (n2 := (60 * 1)) (by omega) (by omega) ?_
  obtain ⟨g_6, h⟩ := h
  refine q_putRF (r := k_1) (k := 0) X (axN ax) hK rfl rfl (Nat.le_of_ble_eq_true rfl) inTX4 g_6 tyX4 tyX4_ok nmX4 kw_2_88 (hnm.trans rfl) rfl rfl rfl (tyX4_ok 0 (Nat.le_of_ble_eq_true rfl)) (Or.inr ⟨_, rfl⟩) rfl rfl (rv_nn (a := ad 18) (r := k_1) hk_2.2.1).symm dX4_init_9 ?_
  refine q_nmP (fun m_7 em_7 => ?_)
  have h := h m_7 em_7
  refine q_aload_n (j := 0) X dX4_init_12 rfl rfl ?_
  refine q_iconst (v := 4) X dX4_init_13 (by decide) ?_
  obtain ⟨k_8, ⟨hk_9, ho_10, hz_11⟩, hd_12, h⟩ := h
  refine q_newa (atype := .int) (t := 19) (k := k_8) (N := 4) X ax hA hK rfl rfl rfl (by decide) (fun _ => rfl) (kwA_int) (by decide) (by decide +kernel) (by decide) hk_9 ho_10 hz_11 (by show 1 + 1 ≤ 2; omega) (by show 60 * 1 + 4 ≤ 60 * 2; omega) dX4_init_14 ?_
  refine q_w (c2 := 2) (n2 := (60 * 2)) (by omega) (by omega) ?_
  obtain ⟨g_13, h⟩ := h
  refine q_putRF (r := k_8) (k := 5) X (axN ax) hK rfl rfl (Nat.le_of_ble_eq_true rfl) inTX4 g_13 tyX4 tyX4_ok nmX4 kw_2_96 (hnm.trans rfl) rfl rfl rfl (tyX4_ok 5 (Nat.le_of_ble_eq_true rfl)) (Or.inr ⟨_, rfl⟩) rfl rfl (rv_nn (a := ad 19) (r := k_8) hk_9.2.1).symm dX4_init_16 ?_
  refine q_nmP (fun m_14 em_14 => ?_)
  have h := h m_14 em_14
  exact hE _ _ _ dX4_init_19 h
theorem dX9_init_0 : decode cX9_init 0 = .ok (.aload_n 0, 1) := by decide +kernel
theorem dX9_init_1 : decode cX9_init 1 = .ok (.invokespecial 1, 3) := by decide +kernel
theorem dX9_init_4 : decode cX9_init 4 = .ok (.aload_n 0, 1) := by decide +kernel
theorem dX9_init_5 : decode cX9_init 5 = .ok (.new 7, 3) := by decide +kernel
theorem dX9_init_8 : decode cX9_init 8 = .ok (.dup, 1) := by decide +kernel
theorem dX9_init_9 : decode cX9_init 9 = .ok (.invokespecial 9, 3) := by decide +kernel
theorem dX9_init_12 : decode cX9_init 12 = .ok (.putfield 10, 3) := by decide +kernel
theorem dX9_init_15 : decode cX9_init 15 = .ok (.aload_n 0, 1) := by decide +kernel
theorem dX9_init_16 : decode cX9_init 16 = .ok (.new 16, 3) := by decide +kernel
theorem dX9_init_19 : decode cX9_init 19 = .ok (.dup, 1) := by decide +kernel
theorem dX9_init_20 : decode cX9_init 20 = .ok (.invokespecial 18, 3) := by decide +kernel
theorem dX9_init_23 : decode cX9_init 23 = .ok (.putfield 19, 3) := by decide +kernel
theorem dX9_init_26 : decode cX9_init 26 = .ok (.aload_n 0, 1) := by decide +kernel
theorem dX9_init_27 : decode cX9_init 27 = .ok (.new 23, 3) := by decide +kernel
theorem dX9_init_30 : decode cX9_init 30 = .ok (.dup, 1) := by decide +kernel
theorem dX9_init_31 : decode cX9_init 31 = .ok (.aload_n 0, 1) := by decide +kernel
theorem dX9_init_32 : decode cX9_init 32 = .ok (.getfield 10, 3) := by decide +kernel
theorem dX9_init_35 : decode cX9_init 35 = .ok (.aload_n 0, 1) := by decide +kernel
theorem dX9_init_36 : decode cX9_init 36 = .ok (.getfield 19, 3) := by decide +kernel
theorem dX9_init_39 : decode cX9_init 39 = .ok (.invokespecial 25, 3) := by decide +kernel
theorem dX9_init_42 : decode cX9_init 42 = .ok (.putfield 28, 3) := by decide +kernel
theorem dX9_init_45 : decode cX9_init 45 = .ok (.aload_n 0, 1) := by decide +kernel
theorem dX9_init_46 : decode cX9_init 46 = .ok (.new 32, 3) := by decide +kernel
theorem dX9_init_49 : decode cX9_init 49 = .ok (.dup, 1) := by decide +kernel
theorem dX9_init_50 : decode cX9_init 50 = .ok (.invokespecial 34, 3) := by decide +kernel
theorem dX9_init_53 : decode cX9_init 53 = .ok (.putfield 35, 3) := by decide +kernel
theorem dX9_init_56 : decode cX9_init 56 = .ok (.return_, 1) := by decide +kernel
def w_X9_init (nb : Nat) (i : Nat) (mm : Mm) (Q9 : Mm → Prop) : Prop :=
  ∃ k_1 : Nat, (GC 1 k_1 ∧ offC 1 k_1 = (nb + 0) ∧ ∀ f, mm.1 1 k_1 f = 0 ∧ mm.2 1 k_1 f = 0) ∧ 0 < 422 ∧ (1 + 45 ≤ 422 ∧ w_X8_init (nb + 1) k_1 mm (fun (m_6 : Mm) => GN GC offC (nb + 46) 0 i ∧ ∀ m_9 : Mm, m_9 = sR m_6 0 i 0 k_1 → (∃ k_10 : Nat, (GC 12 k_10 ∧ offC 12 k_10 = (nb + 46) ∧ ∀ f, m_9.1 12 k_10 f = 0 ∧ m_9.2 12 k_10 f = 0) ∧ 46 < 422 ∧ (47 + 371 ≤ 422 ∧ w_X3_init (nb + 47) k_10 m_9 (fun (m_15 : Mm) => GN GC offC (nb + 418) 0 i ∧ ∀ m_18 : Mm, m_18 = sR m_15 0 i 1 k_10 → (∃ k_19 : Nat, (GC 16 k_19 ∧ offC 16 k_19 = (nb + 418) ∧ ∀ f, m_18.1 16 k_19 f = 0 ∧ m_18.2 16 k_19 f = 0) ∧ 418 < 422 ∧ (GN GC offC (nb + 419) 0 i ∧ (GN GC offC (nb + 419) 0 i ∧ (GN GC offC (nb + 419) 12 (m_18.2 0 i 1) ∧ GN GC offC (nb + 419) 1 (m_18.2 0 i 0) ∧ 419 ≤ 422 ∧ w_X1_init (nb + 419) k_19 (m_18.2 0 i 0) (m_18.2 0 i 1) m_18 (fun (m_28 : Mm) => GN GC offC (nb + 419) 0 i ∧ ∀ m_31 : Mm, m_31 = sR m_28 0 i 2 k_19 → (∃ k_32 : Nat, (GC 17 k_32 ∧ offC 17 k_32 = (nb + 419) ∧ ∀ f, m_31.1 17 k_32 f = 0 ∧ m_31.2 17 k_32 f = 0) ∧ 419 < 422 ∧ (420 + 2 ≤ 422 ∧ w_X4_init (nb + 420) k_32 m_31 (fun (m_37 : Mm) => GN GC offC (nb + 422) 0 i ∧ ∀ m_40 : Mm, m_40 = sR m_37 0 i 3 k_32 → (Q9 m_40))))))))))))))
def rm_X9_init : Room := { frames := 4, cells := 422, slots := 25320, locals := 84 }
theorem hy_X9_init : yX9_init.cls = RX9 ∧ yX9_init.cls ≠ "java/lang/invoke/MethodHandle" ∧ yX9_init.cls ≠ "java/lang/invoke/VarHandle" ∧ (parseMethodDescriptor yX9_init.desc).map (fun d => d.parameters.length) = some 0 := by decide +kernel
set_option maxRecDepth 100000 in
set_option maxHeartbeats 4000000 in
theorem c_X9_init {l : Launch} {D : va_G} {cA : Nat → ClassId} {ad : Nat → Nat → Nat} {A : Nat → Prop} (ax : Ax ad GC A) {b : Nat} (hA : ∀ t i, GC t i → ad t i = b + offC t i) (nb : Nat) (i : Nat) (hi : ok 0 i) (mm : Mm) (Q9 : Mm → Prop) (h : w_X9_init nb i mm Q9) : Met l yX9_init (.code yX9_init cX9_init 1 none :: TG) rm_X9_init (PcM (SZ b nb) D cA ad true (GN GC offC nb) (ZC ad A) [.ref (ad 0 i)] mm) (AnsV (SZ b (nb + 422)) D cA ad true (GN GC offC (nb + 422)) A Q9) 422 25320 A := by
  have zo := ZC_ok ad A
  unfold w_X9_init at h
  refine enterN (MC := 422) (MS := 25320) pl_X9 rfl (Nat.le_of_ble_eq_true rfl) ?_
  intro p e s m args below meth c QQ X hK hZ hnm hE
  refine q_rw (c1 := 0) (s1 := (60 * 0)) rfl (by omega) ?_
  refine q_aload_n (j := 0) X dX9_init_0 rfl rfl ?_
  refine q_objI X kw_1_23 kw_1_24 kw_1_25 dX9_init_1 (Nat.le_of_ble_eq_true rfl) (Nat.le_of_ble_eq_true rfl) ?_
  refine q_aload_n (j := 0) X dX9_init_4 rfl rfl ?_
  obtain ⟨k_1, ⟨hk_2, ho_3, hz_4⟩, hd_5, h⟩ := h
  refine q_new (t := 1) (k := k_1) X ax hA hK rfl rfl inTX8 tyX8 tyX8_ok dfX8 kw_1_26 kw_1_27 kw_1_2 hk_2 ho_3 hz_4 (by show 0 + 1 ≤ 422; omega) (by show 60 * 0 + 11 ≤ 60 * 422; omega) dX9_init_5 ?_
  refine q_w (c2 := 1) (n2 := (60 * 1)) (by omega) (by omega) ?_
  refine q_dup X dX9_init_8 rfl ?_
  obtain ⟨hd_7, h⟩ := h
  refine q_callN (q_runIN X hK hZ zo [] [.ref (ad 1 k_1), .ref (ad 0 i)] rfl rfl (Nat.le_of_ble_eq_true rfl) dX9_init_9 ⟨by show 1 + 45 ≤ 422; omega, by show 60 * 1 + 60 * 45 ≤ 60 * 422; omega⟩ (c_X8_init ax hA (nb + 1) k_1 hk_2.2 mm _ h) rfl rfl (List.mem_of_getElem? (i := 0) rfl) kw_1_2 kw_1_30 kw_1_29 rfl hy_X8_init.2 ⟨(Nat.le_of_ble_eq_true rfl), (Nat.le_of_ble_eq_true rfl)⟩) (fun m_6 h => ?_)
  refine q_rw (c1 := 46) (s1 := (60 * 46)) (by omega) (by omega) ?_
  obtain ⟨g_8, h⟩ := h
  refine q_putRF (r := k_1) (k := 0) X (axN ax) hK rfl rfl (Nat.le_of_ble_eq_true rfl) inTX9 g_8 tyX9 tyX9_ok nmX9 kw_2_111 (hnm.trans rfl) rfl rfl rfl (tyX9_ok 0 (Nat.le_of_ble_eq_true rfl)) (Or.inl ⟨_, rfl⟩) rfl rfl (rv_nn (a := ad 1) (r := k_1) hk_2.2.1).symm dX9_init_12 ?_
  refine q_nmP (fun m_9 em_9 => ?_)
  have h := h m_9 em_9
  refine q_aload_n (j := 0) X dX9_init_15 rfl rfl ?_
  obtain ⟨k_10, ⟨hk_11, ho_12, hz_13⟩, hd_14, h⟩ := h
  refine q_new (t := 12) (k := k_10) X ax hA hK rfl rfl inTX3 tyX3 tyX3_ok dfX3 kw_2_36 kw_2_37 kw_1_8 hk_11 ho_12 hz_13 (by show 46 + 1 ≤ 422; omega) (by show 60 * 46 + 6 ≤ 60 * 422; omega) dX9_init_16 ?_
  refine q_w (c2 := 47) (n2 := (60 * 47)) (by omega) (by omega) ?_
  refine q_dup X dX9_init_19 rfl ?_
  obtain ⟨hd_16, h⟩ := h
  refine q_callN (q_runIN X hK hZ zo [] [.ref (ad 12 k_10), .ref (ad 0 i)] rfl rfl (Nat.le_of_ble_eq_true rfl) dX9_init_20 ⟨by show 47 + 371 ≤ 422; omega, by show 60 * 47 + 60 * 371 ≤ 60 * 422; omega⟩ (c_X3_init ax hA (nb + 47) k_10 hk_11.2 m_9 _ h) rfl rfl (List.mem_of_getElem? (i := 6) rfl) kw_1_8 kw_2_40 kw_2_39 rfl hy_X3_init.2 ⟨(Nat.le_of_ble_eq_true rfl), (Nat.le_of_ble_eq_true rfl)⟩) (fun m_15 h => ?_)
  refine q_rw (c1 := 418) (s1 := (60 * 418)) (by omega) (by omega) ?_
  obtain ⟨g_17, h⟩ := h
  refine q_putRF (r := k_10) (k := 1) X (axN ax) hK rfl rfl (Nat.le_of_ble_eq_true rfl) inTX9 g_17 tyX9 tyX9_ok nmX9 kw_2_112 (hnm.trans rfl) rfl rfl rfl (tyX9_ok 1 (Nat.le_of_ble_eq_true rfl)) (Or.inl ⟨_, rfl⟩) rfl rfl (rv_nn (a := ad 12) (r := k_10) hk_11.2.1).symm dX9_init_23 ?_
  refine q_nmP (fun m_18 em_18 => ?_)
  have h := h m_18 em_18
  refine q_aload_n (j := 0) X dX9_init_26 rfl rfl ?_
  obtain ⟨k_19, ⟨hk_20, ho_21, hz_22⟩, hd_23, h⟩ := h
  refine q_new (t := 16) (k := k_19) X ax hA hK rfl rfl inTX1 tyX1 tyX1_ok dfX1 kw_2_69 kw_2_70 kw_1_9 hk_20 ho_21 hz_22 (by show 418 + 1 ≤ 422; omega) (by show 60 * 418 + 2 ≤ 60 * 422; omega) dX9_init_27 ?_
  refine q_w (c2 := 419) (n2 := (60 * 419)) (by omega) (by omega) ?_
  refine q_dup X dX9_init_30 rfl ?_
  refine q_aload_n (j := 0) X dX9_init_31 rfl rfl ?_
  obtain ⟨g_24, h⟩ := h
  refine q_get (k := 0) (v := rv (ad 1) (m_18.2 0 i 0)) X hK rfl rfl (Nat.le_of_ble_eq_true rfl) inTX9 g_24 kw_2_111 rfl rfl dX9_init_32 ?_
  refine q_aload_n (j := 0) X dX9_init_35 rfl rfl ?_
  obtain ⟨g_25, h⟩ := h
  refine q_get (k := 1) (v := rv (ad 12) (m_18.2 0 i 1)) X hK rfl rfl (Nat.le_of_ble_eq_true rfl) inTX9 g_25 kw_2_112 rfl rfl dX9_init_36 ?_
  obtain ⟨g_26, h⟩ := h
  rw [rv_nn (a := ad 12) (r := (m_18.2 0 i 1)) g_26.1.2.1]
  obtain ⟨g_27, h⟩ := h
  rw [rv_nn (a := ad 1) (r := (m_18.2 0 i 0)) g_27.1.2.1]
  obtain ⟨hd_29, h⟩ := h
  refine q_callN (q_runIN X hK hZ zo [.ref (ad 1 (m_18.2 0 i 0)), .ref (ad 12 (m_18.2 0 i 1))] [.ref (ad 16 k_19), .ref (ad 0 i)] rfl rfl (Nat.le_of_ble_eq_true rfl) dX9_init_39 ⟨by show 419 + 0 ≤ 422; omega, by show 60 * 419 + 0 ≤ 60 * 422; omega⟩ (c_X1_init ax hA (nb + 419) k_19 hk_20.2 (m_18.2 0 i 0) g_27.1.2 (m_18.2 0 i 1) g_26.1.2 m_18 _ h) rfl rfl (List.mem_of_getElem? (i := 8) rfl) kw_1_9 kw_2_73 kw_2_72 rfl hy_X1_init.2 ⟨(Nat.le_of_ble_eq_true rfl), (Nat.le_of_ble_eq_true rfl)⟩) (fun m_28 h => ?_)
  refine q_rw (c1 := 419) (s1 := (60 * 419)) (by omega) (by omega) ?_
  obtain ⟨g_30, h⟩ := h
  refine q_putRF (r := k_19) (k := 2) X (axN ax) hK rfl rfl (Nat.le_of_ble_eq_true rfl) inTX9 g_30 tyX9 tyX9_ok nmX9 kw_2_113 (hnm.trans rfl) rfl rfl rfl (tyX9_ok 2 (Nat.le_of_ble_eq_true rfl)) (Or.inl ⟨_, rfl⟩) rfl rfl (rv_nn (a := ad 16) (r := k_19) hk_20.2.1).symm dX9_init_42 ?_
  refine q_nmP (fun m_31 em_31 => ?_)
  have h := h m_31 em_31
  refine q_aload_n (j := 0) X dX9_init_45 rfl rfl ?_
  obtain ⟨k_32, ⟨hk_33, ho_34, hz_35⟩, hd_36, h⟩ := h
  refine q_new (t := 17) (k := k_32) X ax hA hK rfl rfl inTX4 tyX4 tyX4_ok dfX4 kw_2_82 kw_2_83 kw_1_10 hk_33 ho_34 hz_35 (by show 419 + 1 ≤ 422; omega) (by show 60 * 419 + 6 ≤ 60 * 422; omega) dX9_init_46 ?_
  refine q_w (c2 := 420) (n2 := (60 * 420)) (by omega) (by omega) ?_
  refine q_dup X dX9_init_49 rfl ?_
  obtain ⟨hd_38, h⟩ := h
  refine q_callN (q_runIN X hK hZ zo [] [.ref (ad 17 k_32), .ref (ad 0 i)] rfl rfl (Nat.le_of_ble_eq_true rfl) dX9_init_50 ⟨by show 420 + 2 ≤ 422; omega, by show 60 * 420 + 60 * 2 ≤ 60 * 422; omega⟩ (c_X4_init ax hA (nb + 420) k_32 hk_33.2 m_31 _ h) rfl rfl (List.mem_of_getElem? (i := 9) rfl) kw_1_10 kw_2_86 kw_2_85 rfl hy_X4_init.2 ⟨(Nat.le_of_ble_eq_true rfl), (Nat.le_of_ble_eq_true rfl)⟩) (fun m_37 h => ?_)
  refine q_rw (c1 := 422) (s1 := (60 * 422)) (by omega) (by omega) ?_
  obtain ⟨g_39, h⟩ := h
  refine q_putRF (r := k_32) (k := 3) X (axN ax) hK rfl rfl (Nat.le_of_ble_eq_true rfl) inTX9 g_39 tyX9 tyX9_ok nmX9 kw_2_114 (hnm.trans rfl) rfl rfl rfl (tyX9_ok 3 (Nat.le_of_ble_eq_true rfl)) (Or.inl ⟨_, rfl⟩) rfl rfl (rv_nn (a := ad 17) (r := k_32) hk_33.2.1).symm dX9_init_53 ?_
  refine q_nmP (fun m_40 em_40 => ?_)
  have h := h m_40 em_40
  exact hE _ _ _ dX9_init_56 h
