theorem dX9_answer_0 : decode cX9_answer 0 = .ok (.iload_n 0, 1) := by decide +kernel
theorem dX9_answer_1 : decode cX9_answer 1 = .ok (.iconst (-1), 1) := by decide +kernel
theorem dX9_answer_2 : decode cX9_answer 2 = .ok (.if_icmp .ne 14, 3) := by decide +kernel
theorem dX9_answer_5 : decode cX9_answer 5 = .ok (.new 111, 3) := by decide +kernel
theorem dX9_answer_8 : decode cX9_answer 8 = .ok (.dup, 1) := by decide +kernel
theorem dX9_answer_9 : decode cX9_answer 9 = .ok (.ldc_w 416, 3) := by decide +kernel
theorem dX9_answer_12 : decode cX9_answer 12 = .ok (.invokespecial 115, 3) := by decide +kernel
theorem dX9_answer_15 : decode cX9_answer 15 = .ok (.athrow, 1) := by decide +kernel
theorem dX9_answer_16 : decode cX9_answer 16 = .ok (.iload_n 0, 1) := by decide +kernel
theorem dX9_answer_17 : decode cX9_answer 17 = .ok (.bipush (-2), 2) := by decide +kernel
theorem dX9_answer_19 : decode cX9_answer 19 = .ok (.if_icmp .ne 14, 3) := by decide +kernel
theorem dX9_answer_22 : decode cX9_answer 22 = .ok (.new 279, 3) := by decide +kernel
theorem dX9_answer_25 : decode cX9_answer 25 = .ok (.dup, 1) := by decide +kernel
theorem dX9_answer_26 : decode cX9_answer 26 = .ok (.ldc_w 281, 3) := by decide +kernel
theorem dX9_answer_29 : decode cX9_answer 29 = .ok (.invokespecial 283, 3) := by decide +kernel
theorem dX9_answer_32 : decode cX9_answer 32 = .ok (.athrow, 1) := by decide +kernel
theorem dX9_answer_33 : decode cX9_answer 33 = .ok (.iload_n 0, 1) := by decide +kernel
theorem dX9_answer_34 : decode cX9_answer 34 = .ok (.bipush (-3), 2) := by decide +kernel
theorem dX9_answer_36 : decode cX9_answer 36 = .ok (.if_icmp .ne 14, 3) := by decide +kernel
theorem dX9_answer_39 : decode cX9_answer 39 = .ok (.new 338, 3) := by decide +kernel
theorem dX9_answer_42 : decode cX9_answer 42 = .ok (.dup, 1) := by decide +kernel
theorem dX9_answer_43 : decode cX9_answer 43 = .ok (.ldc_w 418, 3) := by decide +kernel
theorem dX9_answer_46 : decode cX9_answer 46 = .ok (.invokespecial 342, 3) := by decide +kernel
theorem dX9_answer_49 : decode cX9_answer 49 = .ok (.athrow, 1) := by decide +kernel
theorem dX9_answer_50 : decode cX9_answer 50 = .ok (.iload_n 0, 1) := by decide +kernel
theorem dX9_answer_51 : decode cX9_answer 51 = .ok (.ireturn, 1) := by decide +kernel
def w_X9_answer (p0 : Int32) (mm : Mm) (Q9 : Int32 → Prop) (X9 : Nat → Mm → Prop) : Prop :=
  ((¬ p0 = (-1) → ((¬ p0 = (-2) → ((¬ p0 = (-3) → Q9 p0) ∧
  (p0 = (-3) → X9 3 mm))) ∧
  (p0 = (-2) → X9 2 mm))) ∧
  (p0 = (-1) → X9 1 mm))
def rm_X9_answer : Room := { frames := 6, cells := 1, slots := 6, locals := 90 }
theorem hy_X9_answer : yX9_answer.cls = RX9 ∧ yX9_answer.cls ≠ "java/lang/invoke/MethodHandle" ∧ yX9_answer.cls ≠ "java/lang/invoke/VarHandle" ∧ (parseMethodDescriptor yX9_answer.desc).map (fun d => d.parameters.length) = some 1 := by decide +kernel
set_option maxRecDepth 100000 in
set_option maxHeartbeats 4000000 in
theorem c_X9_answer {l : Launch} {D : va_G} {cA : Nat → ClassId} {ad : Nat → Nat → Nat} {A : Nat → Prop} (ax : Ax ad GC A) (hst : l.stackTraces = false) (p0 : Int32) (mm : Mm) (Q9 : Int32 → Prop) (X9 : Nat → Mm → Prop) (h : w_X9_answer p0 mm Q9 X9) : vx_Met l yX9_answer (.code yX9_answer cX9_answer 1 (some .int) :: TG) rm_X9_answer (PcM TT D cA ad false GC (ZC ad A) [.int p0] mm) (AnsI TT D cA ad false GC A (fun r mm' => Q9 r ∧ mm = mm')) (AnsX TT D cA ad false GC A X9) 1 6 A := by
  have zo := ZC_ok ad A
  unfold w_X9_answer at h
  refine enterXI pl_X9 rfl (Nat.le_of_ble_eq_true rfl) ?_
  intro p e s m args below meth c QQ X hK hZ hnm hlk htab hQ hE
  refine q_iload_n (j := 0) X dX9_answer_0 rfl rfl ?_
  refine q_iconst (v := (-1)) X dX9_answer_1 (by decide) ?_
  refine q_icmp_ne (tgt := 16) X dX9_answer_2 (by decide) (fun c_1 => ?_) (fun c_1 => ?_)
  · have h := h.1 c_1
    refine q_iload_n (j := 0) X dX9_answer_16 rfl rfl ?_
    refine q_bipush (v := (-2)) X dX9_answer_17 (by decide) ?_
    refine q_icmp_ne (tgt := 33) X dX9_answer_19 (by decide) (fun c_2 => ?_) (fun c_2 => ?_)
    · have h := h.1 c_2
      refine q_iload_n (j := 0) X dX9_answer_33 rfl rfl ?_
      refine q_bipush (v := (-3)) X dX9_answer_34 (by decide) ?_
      refine q_icmp_ne (tgt := 50) X dX9_answer_36 (by decide) (fun c_3 => ?_) (fun c_3 => ?_)
      · have h := h.1 c_3
        refine q_iload_n (j := 0) X dX9_answer_50 rfl rfl ?_
        exact hE _ _ _ _ _ _ dX9_answer_51 (Nat.le_of_ble_eq_true rfl) (Nat.le_of_ble_eq_true rfl) ⟨h, rfl⟩
      · have h := h.2 c_3
        exact q_throwSW (k := 3) X hQ hlk htab hst hZ thr_3 (List.mem_of_getElem? (i := 7) rfl) dX9_answer_39 dX9_answer_42 dX9_answer_43 dX9_answer_46 dX9_answer_49 (Nat.le_of_ble_eq_true rfl) (Nat.le_of_ble_eq_true rfl) (Nat.le_of_ble_eq_true rfl) (Nat.le_of_ble_eq_true rfl) (Nat.le_of_ble_eq_true rfl) (Nat.le_of_ble_eq_true rfl) h
    · have h := h.2 c_2
      exact q_throwSW (k := 2) X hQ hlk htab hst hZ thr_2 (List.mem_of_getElem? (i := 1) rfl) dX9_answer_22 dX9_answer_25 dX9_answer_26 dX9_answer_29 dX9_answer_32 (Nat.le_of_ble_eq_true rfl) (Nat.le_of_ble_eq_true rfl) (Nat.le_of_ble_eq_true rfl) (Nat.le_of_ble_eq_true rfl) (Nat.le_of_ble_eq_true rfl) (Nat.le_of_ble_eq_true rfl) h
  · have h := h.2 c_1
    exact q_throwSW (k := 1) X hQ hlk htab hst hZ thr_1 (List.mem_of_getElem? (i := 6) rfl) dX9_answer_5 dX9_answer_8 dX9_answer_9 dX9_answer_12 dX9_answer_15 (Nat.le_of_ble_eq_true rfl) (Nat.le_of_ble_eq_true rfl) (Nat.le_of_ble_eq_true rfl) (Nat.le_of_ble_eq_true rfl) (Nat.le_of_ble_eq_true rfl) (Nat.le_of_ble_eq_true rfl) h
theorem dX9_enter_0 : decode cX9_enter 0 = .ok (.aload_n 0, 1) := by decide +kernel
theorem dX9_enter_1 : decode cX9_enter 1 = .ok (.getfield 28, 3) := by decide +kernel
theorem dX9_enter_4 : decode cX9_enter 4 = .ok (.iload_n 1, 1) := by decide +kernel
theorem dX9_enter_5 : decode cX9_enter 5 = .ok (.iload_n 2, 1) := by decide +kernel
theorem dX9_enter_6 : decode cX9_enter 6 = .ok (.iload_n 3, 1) := by decide +kernel
theorem dX9_enter_7 : decode cX9_enter 7 = .ok (.iload 4, 2) := by decide +kernel
theorem dX9_enter_9 : decode cX9_enter 9 = .ok (.invokevirtual 39, 3) := by decide +kernel
theorem dX9_enter_12 : decode cX9_enter 12 = .ok (.invokestatic 43, 3) := by decide +kernel
theorem dX9_enter_15 : decode cX9_enter 15 = .ok (.ireturn, 1) := by decide +kernel
def w_X9_enter (p0 : Int32) (p1 : Int32) (p2 : Int32) (p3 : Int32) (mm : Mm) (Q9 : Int32 → Mm → Prop) (X9 : Nat → Mm → Prop) : Prop :=
  w_X1_bringIn p0 p1 p2 p3 mm (fun (r_1 : Int32) (m_2 : Mm) => w_X9_answer r_1 m_2 (fun (r_3 : Int32) => Q9 r_3 m_2) X9)
def rm_X9_enter : Room := { frames := 7, cells := 1, slots := 6, locals := 117 }
theorem hy_X9_enter : yX9_enter.cls = RX9 ∧ yX9_enter.cls ≠ "java/lang/invoke/MethodHandle" ∧ yX9_enter.cls ≠ "java/lang/invoke/VarHandle" ∧ (parseMethodDescriptor yX9_enter.desc).map (fun d => d.parameters.length) = some 4 := by decide +kernel
set_option maxRecDepth 100000 in
set_option maxHeartbeats 4000000 in
theorem c_X9_enter {l : Launch} {D : va_G} {cA : Nat → ClassId} {ad : Nat → Nat → Nat} {A : Nat → Prop} (ax : Ax ad GC A) (hst : l.stackTraces = false) (p0 : Int32) (p1 : Int32) (p2 : Int32) (p3 : Int32) (mm : Mm) (Q9 : Int32 → Mm → Prop) (X9 : Nat → Mm → Prop) (h : w_X9_enter p0 p1 p2 p3 mm Q9 X9) : vx_Met l yX9_enter (.code yX9_enter cX9_enter 5 (some .int) :: TG) rm_X9_enter (PcM TT D cA ad false GC (ZC ad A) [.ref (ad 0 1), .int p0, .int p1, .int p2, .int p3] mm) (AnsI TT D cA ad false GC A Q9) (AnsX TT D cA ad false GC A X9) 1 6 A := by
  have zo := ZC_ok ad A
  unfold w_X9_enter at h
  refine enterXI pl_X9 rfl (Nat.le_of_ble_eq_true rfl) ?_
  intro p e s m args below meth c QQ X hK hZ hnm hlk htab hQ hE
  refine q_aload_n (j := 0) X dX9_enter_0 rfl rfl ?_
  refine q_get (k := 2) (v := .ref (ad 16 1)) X hK rfl rfl (Nat.le_of_ble_eq_true rfl) inTX9 (gc (t := 0) (by decide) (ok1 (t := 0) (Nat.le_of_ble_eq_true rfl))) kw_2_113 rfl (rv_nn (a := ad 16) (r := 1) (ok1 (t := 16) (Nat.le_of_ble_eq_true rfl)).1) dX9_enter_1 ?_
  refine q_iload_n (j := 1) X dX9_enter_4 rfl rfl ?_
  refine q_iload_n (j := 2) X dX9_enter_5 rfl rfl ?_
  refine q_iload_n (j := 3) X dX9_enter_6 rfl rfl ?_
  refine q_iload (j := 4) X dX9_enter_7 rfl ?_
  refine q_calli (q_runVN X hK hZ zo (gc (t := 16) (by decide) (ok1 (t := 16) (Nat.le_of_ble_eq_true rfl))) rfl rfl [.int p0, .int p1, .int p2, .int p3] [] rfl rfl (Nat.le_of_ble_eq_true rfl) dX9_enter_9 ⟨Nat.le_of_ble_eq_true rfl, Nat.le_of_ble_eq_true rfl⟩ (c_X1_bringIn ax p0 p1 p2 p3 mm _ h) rfl rfl (List.mem_of_getElem? (i := 10) rfl) kw_1_9 kw_2_152 kw_2_151 ks_0 hy_X1_bringIn.2 ⟨Nat.le_of_ble_eq_true rfl, Nat.le_of_ble_eq_true rfl⟩) (fun r_1 m_2 h => ?_)
  refine q_xcalli hQ hlk htab (q_runxS X hK hZ zo [.int r_1] [] rfl rfl (Nat.le_of_ble_eq_true rfl) dX9_enter_12 ⟨Nat.le_of_ble_eq_true rfl, Nat.le_of_ble_eq_true rfl⟩ (c_X9_answer ax hst r_1 m_2 _ _ h) rfl rfl (gS kw_2_223 kw_2_224 kw_1_1 kw_2_225) hy_X9_answer.2 ⟨Nat.le_of_ble_eq_true rfl, Nat.le_of_ble_eq_true rfl⟩) ⟨Nat.le_of_ble_eq_true rfl, Nat.le_of_ble_eq_true rfl⟩ (fun k9 m9 h9 => h9) (fun r_3 m_4 h => ?_)
  obtain ⟨h, hm⟩ := h
  subst hm
  exact hE _ _ _ _ _ _ dX9_enter_15 (Nat.le_of_ble_eq_true rfl) (Nat.le_of_ble_eq_true rfl) h
theorem dX9_withdraw_0 : decode cX9_withdraw 0 = .ok (.aload_n 0, 1) := by decide +kernel
theorem dX9_withdraw_1 : decode cX9_withdraw 1 = .ok (.getfield 28, 3) := by decide +kernel
theorem dX9_withdraw_4 : decode cX9_withdraw 4 = .ok (.iload_n 1, 1) := by decide +kernel
theorem dX9_withdraw_5 : decode cX9_withdraw 5 = .ok (.iload_n 2, 1) := by decide +kernel
theorem dX9_withdraw_6 : decode cX9_withdraw 6 = .ok (.invokevirtual 47, 3) := by decide +kernel
theorem dX9_withdraw_9 : decode cX9_withdraw 9 = .ok (.invokestatic 43, 3) := by decide +kernel
theorem dX9_withdraw_12 : decode cX9_withdraw 12 = .ok (.ireturn, 1) := by decide +kernel
def w_X9_withdraw (p0 : Int32) (p1 : Int32) (mm : Mm) (Q9 : Int32 → Mm → Prop) (X9 : Nat → Mm → Prop) : Prop :=
  w_X1_takeIntoCountry p0 p1 mm (fun (r_1 : Int32) (m_2 : Mm) => w_X9_answer r_1 m_2 (fun (r_3 : Int32) => Q9 r_3 m_2) X9)
def rm_X9_withdraw : Room := { frames := 7, cells := 1, slots := 6, locals := 110 }
theorem hy_X9_withdraw : yX9_withdraw.cls = RX9 ∧ yX9_withdraw.cls ≠ "java/lang/invoke/MethodHandle" ∧ yX9_withdraw.cls ≠ "java/lang/invoke/VarHandle" ∧ (parseMethodDescriptor yX9_withdraw.desc).map (fun d => d.parameters.length) = some 2 := by decide +kernel
set_option maxRecDepth 100000 in
set_option maxHeartbeats 4000000 in
theorem c_X9_withdraw {l : Launch} {D : va_G} {cA : Nat → ClassId} {ad : Nat → Nat → Nat} {A : Nat → Prop} (ax : Ax ad GC A) (hst : l.stackTraces = false) (p0 : Int32) (p1 : Int32) (mm : Mm) (Q9 : Int32 → Mm → Prop) (X9 : Nat → Mm → Prop) (h : w_X9_withdraw p0 p1 mm Q9 X9) : vx_Met l yX9_withdraw (.code yX9_withdraw cX9_withdraw 3 (some .int) :: TG) rm_X9_withdraw (PcM TT D cA ad false GC (ZC ad A) [.ref (ad 0 1), .int p0, .int p1] mm) (AnsI TT D cA ad false GC A Q9) (AnsX TT D cA ad false GC A X9) 1 6 A := by
  have zo := ZC_ok ad A
  unfold w_X9_withdraw at h
  refine enterXI pl_X9 rfl (Nat.le_of_ble_eq_true rfl) ?_
  intro p e s m args below meth c QQ X hK hZ hnm hlk htab hQ hE
  refine q_aload_n (j := 0) X dX9_withdraw_0 rfl rfl ?_
  refine q_get (k := 2) (v := .ref (ad 16 1)) X hK rfl rfl (Nat.le_of_ble_eq_true rfl) inTX9 (gc (t := 0) (by decide) (ok1 (t := 0) (Nat.le_of_ble_eq_true rfl))) kw_2_113 rfl (rv_nn (a := ad 16) (r := 1) (ok1 (t := 16) (Nat.le_of_ble_eq_true rfl)).1) dX9_withdraw_1 ?_
  refine q_iload_n (j := 1) X dX9_withdraw_4 rfl rfl ?_
  refine q_iload_n (j := 2) X dX9_withdraw_5 rfl rfl ?_
  refine q_calli (q_runVN X hK hZ zo (gc (t := 16) (by decide) (ok1 (t := 16) (Nat.le_of_ble_eq_true rfl))) rfl rfl [.int p0, .int p1] [] rfl rfl (Nat.le_of_ble_eq_true rfl) dX9_withdraw_6 ⟨Nat.le_of_ble_eq_true rfl, Nat.le_of_ble_eq_true rfl⟩ (c_X1_takeIntoCountry ax p0 p1 mm _ h) rfl rfl (List.mem_of_getElem? (i := 23) rfl) kw_1_9 kw_3_102 kw_3_101 ks_18 hy_X1_takeIntoCountry.2 ⟨Nat.le_of_ble_eq_true rfl, Nat.le_of_ble_eq_true rfl⟩) (fun r_1 m_2 h => ?_)
  refine q_xcalli hQ hlk htab (q_runxS X hK hZ zo [.int r_1] [] rfl rfl (Nat.le_of_ble_eq_true rfl) dX9_withdraw_9 ⟨Nat.le_of_ble_eq_true rfl, Nat.le_of_ble_eq_true rfl⟩ (c_X9_answer ax hst r_1 m_2 _ _ h) rfl rfl (gS kw_2_223 kw_2_224 kw_1_1 kw_2_225) hy_X9_answer.2 ⟨Nat.le_of_ble_eq_true rfl, Nat.le_of_ble_eq_true rfl⟩) ⟨Nat.le_of_ble_eq_true rfl, Nat.le_of_ble_eq_true rfl⟩ (fun k9 m9 h9 => h9) (fun r_3 m_4 h => ?_)
  obtain ⟨h, hm⟩ := h
  subst hm
  exact hE _ _ _ _ _ _ dX9_withdraw_12 (Nat.le_of_ble_eq_true rfl) (Nat.le_of_ble_eq_true rfl) h
theorem dX9_sendAbroad_0 : decode cX9_sendAbroad 0 = .ok (.aload_n 0, 1) := by decide +kernel
theorem dX9_sendAbroad_1 : decode cX9_sendAbroad 1 = .ok (.getfield 28, 3) := by decide +kernel
theorem dX9_sendAbroad_4 : decode cX9_sendAbroad 4 = .ok (.iload_n 1, 1) := by decide +kernel
theorem dX9_sendAbroad_5 : decode cX9_sendAbroad 5 = .ok (.iload_n 2, 1) := by decide +kernel
theorem dX9_sendAbroad_6 : decode cX9_sendAbroad 6 = .ok (.invokevirtual 51, 3) := by decide +kernel
theorem dX9_sendAbroad_9 : decode cX9_sendAbroad 9 = .ok (.invokestatic 43, 3) := by decide +kernel
theorem dX9_sendAbroad_12 : decode cX9_sendAbroad 12 = .ok (.ireturn, 1) := by decide +kernel
def w_X9_sendAbroad (p0 : Int32) (p1 : Int32) (mm : Mm) (Q9 : Int32 → Mm → Prop) (X9 : Nat → Mm → Prop) : Prop :=
  w_X1_takeAbroad p0 p1 mm (fun (r_1 : Int32) (m_2 : Mm) => w_X9_answer r_1 m_2 (fun (r_3 : Int32) => Q9 r_3 m_2) X9)
def rm_X9_sendAbroad : Room := { frames := 7, cells := 1, slots := 6, locals := 110 }
theorem hy_X9_sendAbroad : yX9_sendAbroad.cls = RX9 ∧ yX9_sendAbroad.cls ≠ "java/lang/invoke/MethodHandle" ∧ yX9_sendAbroad.cls ≠ "java/lang/invoke/VarHandle" ∧ (parseMethodDescriptor yX9_sendAbroad.desc).map (fun d => d.parameters.length) = some 2 := by decide +kernel
set_option maxRecDepth 100000 in
set_option maxHeartbeats 4000000 in
theorem c_X9_sendAbroad {l : Launch} {D : va_G} {cA : Nat → ClassId} {ad : Nat → Nat → Nat} {A : Nat → Prop} (ax : Ax ad GC A) (hst : l.stackTraces = false) (p0 : Int32) (p1 : Int32) (mm : Mm) (Q9 : Int32 → Mm → Prop) (X9 : Nat → Mm → Prop) (h : w_X9_sendAbroad p0 p1 mm Q9 X9) : vx_Met l yX9_sendAbroad (.code yX9_sendAbroad cX9_sendAbroad 3 (some .int) :: TG) rm_X9_sendAbroad (PcM TT D cA ad false GC (ZC ad A) [.ref (ad 0 1), .int p0, .int p1] mm) (AnsI TT D cA ad false GC A Q9) (AnsX TT D cA ad false GC A X9) 1 6 A := by
  have zo := ZC_ok ad A
  unfold w_X9_sendAbroad at h
  refine enterXI pl_X9 rfl (Nat.le_of_ble_eq_true rfl) ?_
  intro p e s m args below meth c QQ X hK hZ hnm hlk htab hQ hE
  refine q_aload_n (j := 0) X dX9_sendAbroad_0 rfl rfl ?_
  refine q_get (k := 2) (v := .ref (ad 16 1)) X hK rfl rfl (Nat.le_of_ble_eq_true rfl) inTX9 (gc (t := 0) (by decide) (ok1 (t := 0) (Nat.le_of_ble_eq_true rfl))) kw_2_113 rfl (rv_nn (a := ad 16) (r := 1) (ok1 (t := 16) (Nat.le_of_ble_eq_true rfl)).1) dX9_sendAbroad_1 ?_
  refine q_iload_n (j := 1) X dX9_sendAbroad_4 rfl rfl ?_
  refine q_iload_n (j := 2) X dX9_sendAbroad_5 rfl rfl ?_
  refine q_calli (q_runVN X hK hZ zo (gc (t := 16) (by decide) (ok1 (t := 16) (Nat.le_of_ble_eq_true rfl))) rfl rfl [.int p0, .int p1] [] rfl rfl (Nat.le_of_ble_eq_true rfl) dX9_sendAbroad_6 ⟨Nat.le_of_ble_eq_true rfl, Nat.le_of_ble_eq_true rfl⟩ (c_X1_takeAbroad ax p0 p1 mm _ h) rfl rfl (List.mem_of_getElem? (i := 33) rfl) kw_1_9 kw_3_156 kw_3_155 ks_28 hy_X1_takeAbroad.2 ⟨Nat.le_of_ble_eq_true rfl, Nat.le_of_ble_eq_true rfl⟩) (fun r_1 m_2 h => ?_)
  refine q_xcalli hQ hlk htab (q_runxS X hK hZ zo [.int r_1] [] rfl rfl (Nat.le_of_ble_eq_true rfl) dX9_sendAbroad_9 ⟨Nat.le_of_ble_eq_true rfl, Nat.le_of_ble_eq_true rfl⟩ (c_X9_answer ax hst r_1 m_2 _ _ h) rfl rfl (gS kw_2_223 kw_2_224 kw_1_1 kw_2_225) hy_X9_answer.2 ⟨Nat.le_of_ble_eq_true rfl, Nat.le_of_ble_eq_true rfl⟩) ⟨Nat.le_of_ble_eq_true rfl, Nat.le_of_ble_eq_true rfl⟩ (fun k9 m9 h9 => h9) (fun r_3 m_4 h => ?_)
  obtain ⟨h, hm⟩ := h
  subst hm
  exact hE _ _ _ _ _ _ dX9_sendAbroad_12 (Nat.le_of_ble_eq_true rfl) (Nat.le_of_ble_eq_true rfl) h
theorem dX9_drawBack_0 : decode cX9_drawBack 0 = .ok (.aload_n 0, 1) := by decide +kernel
theorem dX9_drawBack_1 : decode cX9_drawBack 1 = .ok (.getfield 28, 3) := by decide +kernel
theorem dX9_drawBack_4 : decode cX9_drawBack 4 = .ok (.iload_n 1, 1) := by decide +kernel
theorem dX9_drawBack_5 : decode cX9_drawBack 5 = .ok (.iload_n 2, 1) := by decide +kernel
theorem dX9_drawBack_6 : decode cX9_drawBack 6 = .ok (.invokevirtual 54, 3) := by decide +kernel
theorem dX9_drawBack_9 : decode cX9_drawBack 9 = .ok (.invokestatic 43, 3) := by decide +kernel
theorem dX9_drawBack_12 : decode cX9_drawBack 12 = .ok (.ireturn, 1) := by decide +kernel
def w_X9_drawBack (p0 : Int32) (p1 : Int32) (mm : Mm) (Q9 : Int32 → Mm → Prop) (X9 : Nat → Mm → Prop) : Prop :=
  w_X1_payBack p0 p1 mm (fun (r_1 : Int32) (m_2 : Mm) => w_X9_answer r_1 m_2 (fun (r_3 : Int32) => Q9 r_3 m_2) X9)
def rm_X9_drawBack : Room := { frames := 7, cells := 1, slots := 6, locals := 110 }
theorem hy_X9_drawBack : yX9_drawBack.cls = RX9 ∧ yX9_drawBack.cls ≠ "java/lang/invoke/MethodHandle" ∧ yX9_drawBack.cls ≠ "java/lang/invoke/VarHandle" ∧ (parseMethodDescriptor yX9_drawBack.desc).map (fun d => d.parameters.length) = some 2 := by decide +kernel
set_option maxRecDepth 100000 in
set_option maxHeartbeats 4000000 in
theorem c_X9_drawBack {l : Launch} {D : va_G} {cA : Nat → ClassId} {ad : Nat → Nat → Nat} {A : Nat → Prop} (ax : Ax ad GC A) (hst : l.stackTraces = false) (p0 : Int32) (p1 : Int32) (mm : Mm) (Q9 : Int32 → Mm → Prop) (X9 : Nat → Mm → Prop) (h : w_X9_drawBack p0 p1 mm Q9 X9) : vx_Met l yX9_drawBack (.code yX9_drawBack cX9_drawBack 3 (some .int) :: TG) rm_X9_drawBack (PcM TT D cA ad false GC (ZC ad A) [.ref (ad 0 1), .int p0, .int p1] mm) (AnsI TT D cA ad false GC A Q9) (AnsX TT D cA ad false GC A X9) 1 6 A := by
  have zo := ZC_ok ad A
  unfold w_X9_drawBack at h
  refine enterXI pl_X9 rfl (Nat.le_of_ble_eq_true rfl) ?_
  intro p e s m args below meth c QQ X hK hZ hnm hlk htab hQ hE
  refine q_aload_n (j := 0) X dX9_drawBack_0 rfl rfl ?_
  refine q_get (k := 2) (v := .ref (ad 16 1)) X hK rfl rfl (Nat.le_of_ble_eq_true rfl) inTX9 (gc (t := 0) (by decide) (ok1 (t := 0) (Nat.le_of_ble_eq_true rfl))) kw_2_113 rfl (rv_nn (a := ad 16) (r := 1) (ok1 (t := 16) (Nat.le_of_ble_eq_true rfl)).1) dX9_drawBack_1 ?_
  refine q_iload_n (j := 1) X dX9_drawBack_4 rfl rfl ?_
  refine q_iload_n (j := 2) X dX9_drawBack_5 rfl rfl ?_
  refine q_calli (q_runVN X hK hZ zo (gc (t := 16) (by decide) (ok1 (t := 16) (Nat.le_of_ble_eq_true rfl))) rfl rfl [.int p0, .int p1] [] rfl rfl (Nat.le_of_ble_eq_true rfl) dX9_drawBack_6 ⟨Nat.le_of_ble_eq_true rfl, Nat.le_of_ble_eq_true rfl⟩ (c_X1_payBack ax p0 p1 mm _ h) rfl rfl (List.mem_of_getElem? (i := 35) rfl) kw_1_9 kw_3_175 kw_3_174 ks_31 hy_X1_payBack.2 ⟨Nat.le_of_ble_eq_true rfl, Nat.le_of_ble_eq_true rfl⟩) (fun r_1 m_2 h => ?_)
  refine q_xcalli hQ hlk htab (q_runxS X hK hZ zo [.int r_1] [] rfl rfl (Nat.le_of_ble_eq_true rfl) dX9_drawBack_9 ⟨Nat.le_of_ble_eq_true rfl, Nat.le_of_ble_eq_true rfl⟩ (c_X9_answer ax hst r_1 m_2 _ _ h) rfl rfl (gS kw_2_223 kw_2_224 kw_1_1 kw_2_225) hy_X9_answer.2 ⟨Nat.le_of_ble_eq_true rfl, Nat.le_of_ble_eq_true rfl⟩) ⟨Nat.le_of_ble_eq_true rfl, Nat.le_of_ble_eq_true rfl⟩ (fun k9 m9 h9 => h9) (fun r_3 m_4 h => ?_)
  obtain ⟨h, hm⟩ := h
  subst hm
  exact hE _ _ _ _ _ _ dX9_drawBack_12 (Nat.le_of_ble_eq_true rfl) (Nat.le_of_ble_eq_true rfl) h
theorem dX9_move_0 : decode cX9_move 0 = .ok (.aload_n 0, 1) := by decide +kernel
theorem dX9_move_1 : decode cX9_move 1 = .ok (.getfield 28, 3) := by decide +kernel
theorem dX9_move_4 : decode cX9_move 4 = .ok (.iload_n 1, 1) := by decide +kernel
theorem dX9_move_5 : decode cX9_move 5 = .ok (.iload_n 2, 1) := by decide +kernel
theorem dX9_move_6 : decode cX9_move 6 = .ok (.invokevirtual 57, 3) := by decide +kernel
theorem dX9_move_9 : decode cX9_move 9 = .ok (.invokestatic 43, 3) := by decide +kernel
theorem dX9_move_12 : decode cX9_move 12 = .ok (.ireturn, 1) := by decide +kernel
def w_X9_move (p0 : Int32) (p1 : Int32) (mm : Mm) (Q9 : Int32 → Mm → Prop) (X9 : Nat → Mm → Prop) : Prop :=
  w_X1_carryOver p0 p1 mm (fun (r_1 : Int32) (m_2 : Mm) => w_X9_answer r_1 m_2 (fun (r_3 : Int32) => Q9 r_3 m_2) X9)
def rm_X9_move : Room := { frames := 7, cells := 1, slots := 6, locals := 110 }
theorem hy_X9_move : yX9_move.cls = RX9 ∧ yX9_move.cls ≠ "java/lang/invoke/MethodHandle" ∧ yX9_move.cls ≠ "java/lang/invoke/VarHandle" ∧ (parseMethodDescriptor yX9_move.desc).map (fun d => d.parameters.length) = some 2 := by decide +kernel
set_option maxRecDepth 100000 in
set_option maxHeartbeats 4000000 in
theorem c_X9_move {l : Launch} {D : va_G} {cA : Nat → ClassId} {ad : Nat → Nat → Nat} {A : Nat → Prop} (ax : Ax ad GC A) (hst : l.stackTraces = false) (p0 : Int32) (p1 : Int32) (mm : Mm) (Q9 : Int32 → Mm → Prop) (X9 : Nat → Mm → Prop) (h : w_X9_move p0 p1 mm Q9 X9) : vx_Met l yX9_move (.code yX9_move cX9_move 3 (some .int) :: TG) rm_X9_move (PcM TT D cA ad false GC (ZC ad A) [.ref (ad 0 1), .int p0, .int p1] mm) (AnsI TT D cA ad false GC A Q9) (AnsX TT D cA ad false GC A X9) 1 6 A := by
  have zo := ZC_ok ad A
  unfold w_X9_move at h
  refine enterXI pl_X9 rfl (Nat.le_of_ble_eq_true rfl) ?_
  intro p e s m args below meth c QQ X hK hZ hnm hlk htab hQ hE
  refine q_aload_n (j := 0) X dX9_move_0 rfl rfl ?_
  refine q_get (k := 2) (v := .ref (ad 16 1)) X hK rfl rfl (Nat.le_of_ble_eq_true rfl) inTX9 (gc (t := 0) (by decide) (ok1 (t := 0) (Nat.le_of_ble_eq_true rfl))) kw_2_113 rfl (rv_nn (a := ad 16) (r := 1) (ok1 (t := 16) (Nat.le_of_ble_eq_true rfl)).1) dX9_move_1 ?_
  refine q_iload_n (j := 1) X dX9_move_4 rfl rfl ?_
  refine q_iload_n (j := 2) X dX9_move_5 rfl rfl ?_
  refine q_calli (q_runVN X hK hZ zo (gc (t := 16) (by decide) (ok1 (t := 16) (Nat.le_of_ble_eq_true rfl))) rfl rfl [.int p0, .int p1] [] rfl rfl (Nat.le_of_ble_eq_true rfl) dX9_move_6 ⟨Nat.le_of_ble_eq_true rfl, Nat.le_of_ble_eq_true rfl⟩ (c_X1_carryOver ax p0 p1 mm _ h) rfl rfl (List.mem_of_getElem? (i := 42) rfl) kw_1_9 kw_3_206 kw_3_205 ks_36 hy_X1_carryOver.2 ⟨Nat.le_of_ble_eq_true rfl, Nat.le_of_ble_eq_true rfl⟩) (fun r_1 m_2 h => ?_)
  refine q_xcalli hQ hlk htab (q_runxS X hK hZ zo [.int r_1] [] rfl rfl (Nat.le_of_ble_eq_true rfl) dX9_move_9 ⟨Nat.le_of_ble_eq_true rfl, Nat.le_of_ble_eq_true rfl⟩ (c_X9_answer ax hst r_1 m_2 _ _ h) rfl rfl (gS kw_2_223 kw_2_224 kw_1_1 kw_2_225) hy_X9_answer.2 ⟨Nat.le_of_ble_eq_true rfl, Nat.le_of_ble_eq_true rfl⟩) ⟨Nat.le_of_ble_eq_true rfl, Nat.le_of_ble_eq_true rfl⟩ (fun k9 m9 h9 => h9) (fun r_3 m_4 h => ?_)
  obtain ⟨h, hm⟩ := h
  subst hm
  exact hE _ _ _ _ _ _ dX9_move_12 (Nat.le_of_ble_eq_true rfl) (Nat.le_of_ble_eq_true rfl) h
theorem dX9_split_0 : decode cX9_split 0 = .ok (.aload_n 0, 1) := by decide +kernel
theorem dX9_split_1 : decode cX9_split 1 = .ok (.getfield 28, 3) := by decide +kernel
theorem dX9_split_4 : decode cX9_split 4 = .ok (.iload_n 1, 1) := by decide +kernel
theorem dX9_split_5 : decode cX9_split 5 = .ok (.iload_n 2, 1) := by decide +kernel
theorem dX9_split_6 : decode cX9_split 6 = .ok (.invokevirtual 60, 3) := by decide +kernel
theorem dX9_split_9 : decode cX9_split 9 = .ok (.invokestatic 43, 3) := by decide +kernel
theorem dX9_split_12 : decode cX9_split 12 = .ok (.ireturn, 1) := by decide +kernel
def w_X9_split (p0 : Int32) (p1 : Int32) (mm : Mm) (Q9 : Int32 → Mm → Prop) (X9 : Nat → Mm → Prop) : Prop :=
  w_X1_partOff p0 p1 mm (fun (r_1 : Int32) (m_2 : Mm) => w_X9_answer r_1 m_2 (fun (r_3 : Int32) => Q9 r_3 m_2) X9)
def rm_X9_split : Room := { frames := 7, cells := 1, slots := 6, locals := 110 }
theorem hy_X9_split : yX9_split.cls = RX9 ∧ yX9_split.cls ≠ "java/lang/invoke/MethodHandle" ∧ yX9_split.cls ≠ "java/lang/invoke/VarHandle" ∧ (parseMethodDescriptor yX9_split.desc).map (fun d => d.parameters.length) = some 2 := by decide +kernel
set_option maxRecDepth 100000 in
set_option maxHeartbeats 4000000 in
theorem c_X9_split {l : Launch} {D : va_G} {cA : Nat → ClassId} {ad : Nat → Nat → Nat} {A : Nat → Prop} (ax : Ax ad GC A) (hst : l.stackTraces = false) (p0 : Int32) (p1 : Int32) (mm : Mm) (Q9 : Int32 → Mm → Prop) (X9 : Nat → Mm → Prop) (h : w_X9_split p0 p1 mm Q9 X9) : vx_Met l yX9_split (.code yX9_split cX9_split 3 (some .int) :: TG) rm_X9_split (PcM TT D cA ad false GC (ZC ad A) [.ref (ad 0 1), .int p0, .int p1] mm) (AnsI TT D cA ad false GC A Q9) (AnsX TT D cA ad false GC A X9) 1 6 A := by
  have zo := ZC_ok ad A
  unfold w_X9_split at h
  refine enterXI pl_X9 rfl (Nat.le_of_ble_eq_true rfl) ?_
  intro p e s m args below meth c QQ X hK hZ hnm hlk htab hQ hE
  refine q_aload_n (j := 0) X dX9_split_0 rfl rfl ?_
  refine q_get (k := 2) (v := .ref (ad 16 1)) X hK rfl rfl (Nat.le_of_ble_eq_true rfl) inTX9 (gc (t := 0) (by decide) (ok1 (t := 0) (Nat.le_of_ble_eq_true rfl))) kw_2_113 rfl (rv_nn (a := ad 16) (r := 1) (ok1 (t := 16) (Nat.le_of_ble_eq_true rfl)).1) dX9_split_1 ?_
  refine q_iload_n (j := 1) X dX9_split_4 rfl rfl ?_
  refine q_iload_n (j := 2) X dX9_split_5 rfl rfl ?_
  refine q_calli (q_runVN X hK hZ zo (gc (t := 16) (by decide) (ok1 (t := 16) (Nat.le_of_ble_eq_true rfl))) rfl rfl [.int p0, .int p1] [] rfl rfl (Nat.le_of_ble_eq_true rfl) dX9_split_6 ⟨Nat.le_of_ble_eq_true rfl, Nat.le_of_ble_eq_true rfl⟩ (c_X1_partOff ax p0 p1 mm _ h) rfl rfl (List.mem_of_getElem? (i := 45) rfl) kw_1_9 kw_3_222 kw_3_221 ks_38 hy_X1_partOff.2 ⟨Nat.le_of_ble_eq_true rfl, Nat.le_of_ble_eq_true rfl⟩) (fun r_1 m_2 h => ?_)
  refine q_xcalli hQ hlk htab (q_runxS X hK hZ zo [.int r_1] [] rfl rfl (Nat.le_of_ble_eq_true rfl) dX9_split_9 ⟨Nat.le_of_ble_eq_true rfl, Nat.le_of_ble_eq_true rfl⟩ (c_X9_answer ax hst r_1 m_2 _ _ h) rfl rfl (gS kw_2_223 kw_2_224 kw_1_1 kw_2_225) hy_X9_answer.2 ⟨Nat.le_of_ble_eq_true rfl, Nat.le_of_ble_eq_true rfl⟩) ⟨Nat.le_of_ble_eq_true rfl, Nat.le_of_ble_eq_true rfl⟩ (fun k9 m9 h9 => h9) (fun r_3 m_4 h => ?_)
  obtain ⟨h, hm⟩ := h
  subst hm
  exact hE _ _ _ _ _ _ dX9_split_12 (Nat.le_of_ble_eq_true rfl) (Nat.le_of_ble_eq_true rfl) h
theorem dX9_merge_0 : decode cX9_merge 0 = .ok (.aload_n 0, 1) := by decide +kernel
theorem dX9_merge_1 : decode cX9_merge 1 = .ok (.getfield 28, 3) := by decide +kernel
theorem dX9_merge_4 : decode cX9_merge 4 = .ok (.iload_n 1, 1) := by decide +kernel
theorem dX9_merge_5 : decode cX9_merge 5 = .ok (.iload_n 2, 1) := by decide +kernel
theorem dX9_merge_6 : decode cX9_merge 6 = .ok (.invokevirtual 63, 3) := by decide +kernel
theorem dX9_merge_9 : decode cX9_merge 9 = .ok (.invokestatic 43, 3) := by decide +kernel
theorem dX9_merge_12 : decode cX9_merge 12 = .ok (.ireturn, 1) := by decide +kernel
def w_X9_merge (p0 : Int32) (p1 : Int32) (mm : Mm) (Q9 : Int32 → Mm → Prop) (X9 : Nat → Mm → Prop) : Prop :=
  w_X1_join p0 p1 mm (fun (r_1 : Int32) (m_2 : Mm) => w_X9_answer r_1 m_2 (fun (r_3 : Int32) => Q9 r_3 m_2) X9)
def rm_X9_merge : Room := { frames := 7, cells := 1, slots := 6, locals := 110 }
theorem hy_X9_merge : yX9_merge.cls = RX9 ∧ yX9_merge.cls ≠ "java/lang/invoke/MethodHandle" ∧ yX9_merge.cls ≠ "java/lang/invoke/VarHandle" ∧ (parseMethodDescriptor yX9_merge.desc).map (fun d => d.parameters.length) = some 2 := by decide +kernel
set_option maxRecDepth 100000 in
set_option maxHeartbeats 4000000 in
theorem c_X9_merge {l : Launch} {D : va_G} {cA : Nat → ClassId} {ad : Nat → Nat → Nat} {A : Nat → Prop} (ax : Ax ad GC A) (hst : l.stackTraces = false) (p0 : Int32) (p1 : Int32) (mm : Mm) (Q9 : Int32 → Mm → Prop) (X9 : Nat → Mm → Prop) (h : w_X9_merge p0 p1 mm Q9 X9) : vx_Met l yX9_merge (.code yX9_merge cX9_merge 3 (some .int) :: TG) rm_X9_merge (PcM TT D cA ad false GC (ZC ad A) [.ref (ad 0 1), .int p0, .int p1] mm) (AnsI TT D cA ad false GC A Q9) (AnsX TT D cA ad false GC A X9) 1 6 A := by
  have zo := ZC_ok ad A
  unfold w_X9_merge at h
  refine enterXI pl_X9 rfl (Nat.le_of_ble_eq_true rfl) ?_
  intro p e s m args below meth c QQ X hK hZ hnm hlk htab hQ hE
  refine q_aload_n (j := 0) X dX9_merge_0 rfl rfl ?_
  refine q_get (k := 2) (v := .ref (ad 16 1)) X hK rfl rfl (Nat.le_of_ble_eq_true rfl) inTX9 (gc (t := 0) (by decide) (ok1 (t := 0) (Nat.le_of_ble_eq_true rfl))) kw_2_113 rfl (rv_nn (a := ad 16) (r := 1) (ok1 (t := 16) (Nat.le_of_ble_eq_true rfl)).1) dX9_merge_1 ?_
  refine q_iload_n (j := 1) X dX9_merge_4 rfl rfl ?_
  refine q_iload_n (j := 2) X dX9_merge_5 rfl rfl ?_
  refine q_calli (q_runVN X hK hZ zo (gc (t := 16) (by decide) (ok1 (t := 16) (Nat.le_of_ble_eq_true rfl))) rfl rfl [.int p0, .int p1] [] rfl rfl (Nat.le_of_ble_eq_true rfl) dX9_merge_6 ⟨Nat.le_of_ble_eq_true rfl, Nat.le_of_ble_eq_true rfl⟩ (c_X1_join ax p0 p1 mm _ h) rfl rfl (List.mem_of_getElem? (i := 50) rfl) kw_1_9 kw_3_237 kw_3_236 ks_39 hy_X1_join.2 ⟨Nat.le_of_ble_eq_true rfl, Nat.le_of_ble_eq_true rfl⟩) (fun r_1 m_2 h => ?_)
  refine q_xcalli hQ hlk htab (q_runxS X hK hZ zo [.int r_1] [] rfl rfl (Nat.le_of_ble_eq_true rfl) dX9_merge_9 ⟨Nat.le_of_ble_eq_true rfl, Nat.le_of_ble_eq_true rfl⟩ (c_X9_answer ax hst r_1 m_2 _ _ h) rfl rfl (gS kw_2_223 kw_2_224 kw_1_1 kw_2_225) hy_X9_answer.2 ⟨Nat.le_of_ble_eq_true rfl, Nat.le_of_ble_eq_true rfl⟩) ⟨Nat.le_of_ble_eq_true rfl, Nat.le_of_ble_eq_true rfl⟩ (fun k9 m9 h9 => h9) (fun r_3 m_4 h => ?_)
  obtain ⟨h, hm⟩ := h
  subst hm
  exact hE _ _ _ _ _ _ dX9_merge_12 (Nat.le_of_ble_eq_true rfl) (Nat.le_of_ble_eq_true rfl) h
theorem dX9_weigh_0 : decode cX9_weigh 0 = .ok (.aload_n 0, 1) := by decide +kernel
theorem dX9_weigh_1 : decode cX9_weigh 1 = .ok (.getfield 28, 3) := by decide +kernel
theorem dX9_weigh_4 : decode cX9_weigh 4 = .ok (.iload_n 1, 1) := by decide +kernel
theorem dX9_weigh_5 : decode cX9_weigh 5 = .ok (.iload_n 2, 1) := by decide +kernel
theorem dX9_weigh_6 : decode cX9_weigh 6 = .ok (.invokevirtual 66, 3) := by decide +kernel
theorem dX9_weigh_9 : decode cX9_weigh 9 = .ok (.invokestatic 43, 3) := by decide +kernel
theorem dX9_weigh_12 : decode cX9_weigh 12 = .ok (.ireturn, 1) := by decide +kernel
def w_X9_weigh (p0 : Int32) (p1 : Int32) (mm : Mm) (Q9 : Int32 → Mm → Prop) (X9 : Nat → Mm → Prop) : Prop :=
  w_X1_putOnScales p0 p1 mm (fun (r_1 : Int32) (m_2 : Mm) => w_X9_answer r_1 m_2 (fun (r_3 : Int32) => Q9 r_3 m_2) X9)
def rm_X9_weigh : Room := { frames := 7, cells := 1, slots := 6, locals := 110 }
theorem hy_X9_weigh : yX9_weigh.cls = RX9 ∧ yX9_weigh.cls ≠ "java/lang/invoke/MethodHandle" ∧ yX9_weigh.cls ≠ "java/lang/invoke/VarHandle" ∧ (parseMethodDescriptor yX9_weigh.desc).map (fun d => d.parameters.length) = some 2 := by decide +kernel
set_option maxRecDepth 100000 in
set_option maxHeartbeats 4000000 in
theorem c_X9_weigh {l : Launch} {D : va_G} {cA : Nat → ClassId} {ad : Nat → Nat → Nat} {A : Nat → Prop} (ax : Ax ad GC A) (hst : l.stackTraces = false) (p0 : Int32) (p1 : Int32) (mm : Mm) (Q9 : Int32 → Mm → Prop) (X9 : Nat → Mm → Prop) (h : w_X9_weigh p0 p1 mm Q9 X9) : vx_Met l yX9_weigh (.code yX9_weigh cX9_weigh 3 (some .int) :: TG) rm_X9_weigh (PcM TT D cA ad false GC (ZC ad A) [.ref (ad 0 1), .int p0, .int p1] mm) (AnsI TT D cA ad false GC A Q9) (AnsX TT D cA ad false GC A X9) 1 6 A := by
  have zo := ZC_ok ad A
  unfold w_X9_weigh at h
  refine enterXI pl_X9 rfl (Nat.le_of_ble_eq_true rfl) ?_
  intro p e s m args below meth c QQ X hK hZ hnm hlk htab hQ hE
  refine q_aload_n (j := 0) X dX9_weigh_0 rfl rfl ?_
  refine q_get (k := 2) (v := .ref (ad 16 1)) X hK rfl rfl (Nat.le_of_ble_eq_true rfl) inTX9 (gc (t := 0) (by decide) (ok1 (t := 0) (Nat.le_of_ble_eq_true rfl))) kw_2_113 rfl (rv_nn (a := ad 16) (r := 1) (ok1 (t := 16) (Nat.le_of_ble_eq_true rfl)).1) dX9_weigh_1 ?_
  refine q_iload_n (j := 1) X dX9_weigh_4 rfl rfl ?_
  refine q_iload_n (j := 2) X dX9_weigh_5 rfl rfl ?_
  refine q_calli (q_runVN X hK hZ zo (gc (t := 16) (by decide) (ok1 (t := 16) (Nat.le_of_ble_eq_true rfl))) rfl rfl [.int p0, .int p1] [] rfl rfl (Nat.le_of_ble_eq_true rfl) dX9_weigh_6 ⟨Nat.le_of_ble_eq_true rfl, Nat.le_of_ble_eq_true rfl⟩ (c_X1_putOnScales ax p0 p1 mm _ h) rfl rfl (List.mem_of_getElem? (i := 53) rfl) kw_1_9 kw_4_20 kw_4_19 ks_42 hy_X1_putOnScales.2 ⟨Nat.le_of_ble_eq_true rfl, Nat.le_of_ble_eq_true rfl⟩) (fun r_1 m_2 h => ?_)
  refine q_xcalli hQ hlk htab (q_runxS X hK hZ zo [.int r_1] [] rfl rfl (Nat.le_of_ble_eq_true rfl) dX9_weigh_9 ⟨Nat.le_of_ble_eq_true rfl, Nat.le_of_ble_eq_true rfl⟩ (c_X9_answer ax hst r_1 m_2 _ _ h) rfl rfl (gS kw_2_223 kw_2_224 kw_1_1 kw_2_225) hy_X9_answer.2 ⟨Nat.le_of_ble_eq_true rfl, Nat.le_of_ble_eq_true rfl⟩) ⟨Nat.le_of_ble_eq_true rfl, Nat.le_of_ble_eq_true rfl⟩ (fun k9 m9 h9 => h9) (fun r_3 m_4 h => ?_)
  obtain ⟨h, hm⟩ := h
  subst hm
  exact hE _ _ _ _ _ _ dX9_weigh_12 (Nat.le_of_ble_eq_true rfl) (Nat.le_of_ble_eq_true rfl) h
theorem dX9_lock_0 : decode cX9_lock 0 = .ok (.aload_n 0, 1) := by decide +kernel
theorem dX9_lock_1 : decode cX9_lock 1 = .ok (.getfield 28, 3) := by decide +kernel
theorem dX9_lock_4 : decode cX9_lock 4 = .ok (.iload_n 1, 1) := by decide +kernel
theorem dX9_lock_5 : decode cX9_lock 5 = .ok (.invokevirtual 69, 3) := by decide +kernel
theorem dX9_lock_8 : decode cX9_lock 8 = .ok (.invokestatic 43, 3) := by decide +kernel
theorem dX9_lock_11 : decode cX9_lock 11 = .ok (.ireturn, 1) := by decide +kernel
def w_X9_lock (p0 : Int32) (mm : Mm) (Q9 : Int32 → Mm → Prop) (X9 : Nat → Mm → Prop) : Prop :=
  w_X1_putSeal p0 mm (fun (r_1 : Int32) (m_2 : Mm) => w_X9_answer r_1 m_2 (fun (r_3 : Int32) => Q9 r_3 m_2) X9)
def rm_X9_lock : Room := { frames := 7, cells := 1, slots := 6, locals := 110 }
theorem hy_X9_lock : yX9_lock.cls = RX9 ∧ yX9_lock.cls ≠ "java/lang/invoke/MethodHandle" ∧ yX9_lock.cls ≠ "java/lang/invoke/VarHandle" ∧ (parseMethodDescriptor yX9_lock.desc).map (fun d => d.parameters.length) = some 1 := by decide +kernel
set_option maxRecDepth 100000 in
set_option maxHeartbeats 4000000 in
theorem c_X9_lock {l : Launch} {D : va_G} {cA : Nat → ClassId} {ad : Nat → Nat → Nat} {A : Nat → Prop} (ax : Ax ad GC A) (hst : l.stackTraces = false) (p0 : Int32) (mm : Mm) (Q9 : Int32 → Mm → Prop) (X9 : Nat → Mm → Prop) (h : w_X9_lock p0 mm Q9 X9) : vx_Met l yX9_lock (.code yX9_lock cX9_lock 2 (some .int) :: TG) rm_X9_lock (PcM TT D cA ad false GC (ZC ad A) [.ref (ad 0 1), .int p0] mm) (AnsI TT D cA ad false GC A Q9) (AnsX TT D cA ad false GC A X9) 1 6 A := by
  have zo := ZC_ok ad A
  unfold w_X9_lock at h
  refine enterXI pl_X9 rfl (Nat.le_of_ble_eq_true rfl) ?_
  intro p e s m args below meth c QQ X hK hZ hnm hlk htab hQ hE
  refine q_aload_n (j := 0) X dX9_lock_0 rfl rfl ?_
  refine q_get (k := 2) (v := .ref (ad 16 1)) X hK rfl rfl (Nat.le_of_ble_eq_true rfl) inTX9 (gc (t := 0) (by decide) (ok1 (t := 0) (Nat.le_of_ble_eq_true rfl))) kw_2_113 rfl (rv_nn (a := ad 16) (r := 1) (ok1 (t := 16) (Nat.le_of_ble_eq_true rfl)).1) dX9_lock_1 ?_
  refine q_iload_n (j := 1) X dX9_lock_4 rfl rfl ?_
  refine q_calli (q_runVN X hK hZ zo (gc (t := 16) (by decide) (ok1 (t := 16) (Nat.le_of_ble_eq_true rfl))) rfl rfl [.int p0] [] rfl rfl (Nat.le_of_ble_eq_true rfl) dX9_lock_5 ⟨Nat.le_of_ble_eq_true rfl, Nat.le_of_ble_eq_true rfl⟩ (c_X1_putSeal ax p0 mm _ h) rfl rfl (List.mem_of_getElem? (i := 57) rfl) kw_1_9 kw_4_51 kw_4_50 ks_47 hy_X1_putSeal.2 ⟨Nat.le_of_ble_eq_true rfl, Nat.le_of_ble_eq_true rfl⟩) (fun r_1 m_2 h => ?_)
  refine q_xcalli hQ hlk htab (q_runxS X hK hZ zo [.int r_1] [] rfl rfl (Nat.le_of_ble_eq_true rfl) dX9_lock_8 ⟨Nat.le_of_ble_eq_true rfl, Nat.le_of_ble_eq_true rfl⟩ (c_X9_answer ax hst r_1 m_2 _ _ h) rfl rfl (gS kw_2_223 kw_2_224 kw_1_1 kw_2_225) hy_X9_answer.2 ⟨Nat.le_of_ble_eq_true rfl, Nat.le_of_ble_eq_true rfl⟩) ⟨Nat.le_of_ble_eq_true rfl, Nat.le_of_ble_eq_true rfl⟩ (fun k9 m9 h9 => h9) (fun r_3 m_4 h => ?_)
  obtain ⟨h, hm⟩ := h
  subst hm
  exact hE _ _ _ _ _ _ dX9_lock_11 (Nat.le_of_ble_eq_true rfl) (Nat.le_of_ble_eq_true rfl) h
theorem dX9_open_0 : decode cX9_open 0 = .ok (.aload_n 0, 1) := by decide +kernel
theorem dX9_open_1 : decode cX9_open 1 = .ok (.getfield 28, 3) := by decide +kernel
theorem dX9_open_4 : decode cX9_open 4 = .ok (.iload_n 1, 1) := by decide +kernel
theorem dX9_open_5 : decode cX9_open 5 = .ok (.invokevirtual 72, 3) := by decide +kernel
theorem dX9_open_8 : decode cX9_open 8 = .ok (.invokestatic 43, 3) := by decide +kernel
theorem dX9_open_11 : decode cX9_open 11 = .ok (.ireturn, 1) := by decide +kernel
def w_X9_open (p0 : Int32) (mm : Mm) (Q9 : Int32 → Mm → Prop) (X9 : Nat → Mm → Prop) : Prop :=
  w_X1_takeSealOff p0 mm (fun (r_1 : Int32) (m_2 : Mm) => w_X9_answer r_1 m_2 (fun (r_3 : Int32) => Q9 r_3 m_2) X9)
def rm_X9_open : Room := { frames := 7, cells := 1, slots := 6, locals := 110 }
theorem hy_X9_open : yX9_open.cls = RX9 ∧ yX9_open.cls ≠ "java/lang/invoke/MethodHandle" ∧ yX9_open.cls ≠ "java/lang/invoke/VarHandle" ∧ (parseMethodDescriptor yX9_open.desc).map (fun d => d.parameters.length) = some 1 := by decide +kernel
set_option maxRecDepth 100000 in
set_option maxHeartbeats 4000000 in
theorem c_X9_open {l : Launch} {D : va_G} {cA : Nat → ClassId} {ad : Nat → Nat → Nat} {A : Nat → Prop} (ax : Ax ad GC A) (hst : l.stackTraces = false) (p0 : Int32) (mm : Mm) (Q9 : Int32 → Mm → Prop) (X9 : Nat → Mm → Prop) (h : w_X9_open p0 mm Q9 X9) : vx_Met l yX9_open (.code yX9_open cX9_open 2 (some .int) :: TG) rm_X9_open (PcM TT D cA ad false GC (ZC ad A) [.ref (ad 0 1), .int p0] mm) (AnsI TT D cA ad false GC A Q9) (AnsX TT D cA ad false GC A X9) 1 6 A := by
  have zo := ZC_ok ad A
  unfold w_X9_open at h
  refine enterXI pl_X9 rfl (Nat.le_of_ble_eq_true rfl) ?_
  intro p e s m args below meth c QQ X hK hZ hnm hlk htab hQ hE
  refine q_aload_n (j := 0) X dX9_open_0 rfl rfl ?_
  refine q_get (k := 2) (v := .ref (ad 16 1)) X hK rfl rfl (Nat.le_of_ble_eq_true rfl) inTX9 (gc (t := 0) (by decide) (ok1 (t := 0) (Nat.le_of_ble_eq_true rfl))) kw_2_113 rfl (rv_nn (a := ad 16) (r := 1) (ok1 (t := 16) (Nat.le_of_ble_eq_true rfl)).1) dX9_open_1 ?_
  refine q_iload_n (j := 1) X dX9_open_4 rfl rfl ?_
  refine q_calli (q_runVN X hK hZ zo (gc (t := 16) (by decide) (ok1 (t := 16) (Nat.le_of_ble_eq_true rfl))) rfl rfl [.int p0] [] rfl rfl (Nat.le_of_ble_eq_true rfl) dX9_open_5 ⟨Nat.le_of_ble_eq_true rfl, Nat.le_of_ble_eq_true rfl⟩ (c_X1_takeSealOff ax p0 mm _ h) rfl rfl (List.mem_of_getElem? (i := 58) rfl) kw_1_9 kw_4_62 kw_4_61 ks_48 hy_X1_takeSealOff.2 ⟨Nat.le_of_ble_eq_true rfl, Nat.le_of_ble_eq_true rfl⟩) (fun r_1 m_2 h => ?_)
  refine q_xcalli hQ hlk htab (q_runxS X hK hZ zo [.int r_1] [] rfl rfl (Nat.le_of_ble_eq_true rfl) dX9_open_8 ⟨Nat.le_of_ble_eq_true rfl, Nat.le_of_ble_eq_true rfl⟩ (c_X9_answer ax hst r_1 m_2 _ _ h) rfl rfl (gS kw_2_223 kw_2_224 kw_1_1 kw_2_225) hy_X9_answer.2 ⟨Nat.le_of_ble_eq_true rfl, Nat.le_of_ble_eq_true rfl⟩) ⟨Nat.le_of_ble_eq_true rfl, Nat.le_of_ble_eq_true rfl⟩ (fun k9 m9 h9 => h9) (fun r_3 m_4 h => ?_)
  obtain ⟨h, hm⟩ := h
  subst hm
  exact hE _ _ _ _ _ _ dX9_open_11 (Nat.le_of_ble_eq_true rfl) (Nat.le_of_ble_eq_true rfl) h
theorem dX9_breakSeal_0 : decode cX9_breakSeal 0 = .ok (.aload_n 0, 1) := by decide +kernel
theorem dX9_breakSeal_1 : decode cX9_breakSeal 1 = .ok (.getfield 28, 3) := by decide +kernel
theorem dX9_breakSeal_4 : decode cX9_breakSeal 4 = .ok (.iload_n 1, 1) := by decide +kernel
theorem dX9_breakSeal_5 : decode cX9_breakSeal 5 = .ok (.invokevirtual 75, 3) := by decide +kernel
theorem dX9_breakSeal_8 : decode cX9_breakSeal 8 = .ok (.invokestatic 43, 3) := by decide +kernel
theorem dX9_breakSeal_11 : decode cX9_breakSeal 11 = .ok (.ireturn, 1) := by decide +kernel
def w_X9_breakSeal (p0 : Int32) (mm : Mm) (Q9 : Int32 → Mm → Prop) (X9 : Nat → Mm → Prop) : Prop :=
  w_X1_damageSeal p0 mm (fun (r_1 : Int32) (m_2 : Mm) => w_X9_answer r_1 m_2 (fun (r_3 : Int32) => Q9 r_3 m_2) X9)
def rm_X9_breakSeal : Room := { frames := 7, cells := 1, slots := 6, locals := 110 }
theorem hy_X9_breakSeal : yX9_breakSeal.cls = RX9 ∧ yX9_breakSeal.cls ≠ "java/lang/invoke/MethodHandle" ∧ yX9_breakSeal.cls ≠ "java/lang/invoke/VarHandle" ∧ (parseMethodDescriptor yX9_breakSeal.desc).map (fun d => d.parameters.length) = some 1 := by decide +kernel
set_option maxRecDepth 100000 in
set_option maxHeartbeats 4000000 in
theorem c_X9_breakSeal {l : Launch} {D : va_G} {cA : Nat → ClassId} {ad : Nat → Nat → Nat} {A : Nat → Prop} (ax : Ax ad GC A) (hst : l.stackTraces = false) (p0 : Int32) (mm : Mm) (Q9 : Int32 → Mm → Prop) (X9 : Nat → Mm → Prop) (h : w_X9_breakSeal p0 mm Q9 X9) : vx_Met l yX9_breakSeal (.code yX9_breakSeal cX9_breakSeal 2 (some .int) :: TG) rm_X9_breakSeal (PcM TT D cA ad false GC (ZC ad A) [.ref (ad 0 1), .int p0] mm) (AnsI TT D cA ad false GC A Q9) (AnsX TT D cA ad false GC A X9) 1 6 A := by
  have zo := ZC_ok ad A
  unfold w_X9_breakSeal at h
  refine enterXI pl_X9 rfl (Nat.le_of_ble_eq_true rfl) ?_
  intro p e s m args below meth c QQ X hK hZ hnm hlk htab hQ hE
  refine q_aload_n (j := 0) X dX9_breakSeal_0 rfl rfl ?_
  refine q_get (k := 2) (v := .ref (ad 16 1)) X hK rfl rfl (Nat.le_of_ble_eq_true rfl) inTX9 (gc (t := 0) (by decide) (ok1 (t := 0) (Nat.le_of_ble_eq_true rfl))) kw_2_113 rfl (rv_nn (a := ad 16) (r := 1) (ok1 (t := 16) (Nat.le_of_ble_eq_true rfl)).1) dX9_breakSeal_1 ?_
  refine q_iload_n (j := 1) X dX9_breakSeal_4 rfl rfl ?_
  refine q_calli (q_runVN X hK hZ zo (gc (t := 16) (by decide) (ok1 (t := 16) (Nat.le_of_ble_eq_true rfl))) rfl rfl [.int p0] [] rfl rfl (Nat.le_of_ble_eq_true rfl) dX9_breakSeal_5 ⟨Nat.le_of_ble_eq_true rfl, Nat.le_of_ble_eq_true rfl⟩ (c_X1_damageSeal ax p0 mm _ h) rfl rfl (List.mem_of_getElem? (i := 59) rfl) kw_1_9 kw_4_73 kw_4_72 ks_49 hy_X1_damageSeal.2 ⟨Nat.le_of_ble_eq_true rfl, Nat.le_of_ble_eq_true rfl⟩) (fun r_1 m_2 h => ?_)
  refine q_xcalli hQ hlk htab (q_runxS X hK hZ zo [.int r_1] [] rfl rfl (Nat.le_of_ble_eq_true rfl) dX9_breakSeal_8 ⟨Nat.le_of_ble_eq_true rfl, Nat.le_of_ble_eq_true rfl⟩ (c_X9_answer ax hst r_1 m_2 _ _ h) rfl rfl (gS kw_2_223 kw_2_224 kw_1_1 kw_2_225) hy_X9_answer.2 ⟨Nat.le_of_ble_eq_true rfl, Nat.le_of_ble_eq_true rfl⟩) ⟨Nat.le_of_ble_eq_true rfl, Nat.le_of_ble_eq_true rfl⟩ (fun k9 m9 h9 => h9) (fun r_3 m_4 h => ?_)
  obtain ⟨h, hm⟩ := h
  subst hm
  exact hE _ _ _ _ _ _ dX9_breakSeal_11 (Nat.le_of_ble_eq_true rfl) (Nat.le_of_ble_eq_true rfl) h
theorem dX9_deposit_0 : decode cX9_deposit 0 = .ok (.aload_n 0, 1) := by decide +kernel
theorem dX9_deposit_1 : decode cX9_deposit 1 = .ok (.getfield 28, 3) := by decide +kernel
theorem dX9_deposit_4 : decode cX9_deposit 4 = .ok (.iload_n 1, 1) := by decide +kernel
theorem dX9_deposit_5 : decode cX9_deposit 5 = .ok (.invokevirtual 78, 3) := by decide +kernel
theorem dX9_deposit_8 : decode cX9_deposit 8 = .ok (.invokestatic 43, 3) := by decide +kernel
theorem dX9_deposit_11 : decode cX9_deposit 11 = .ok (.ireturn, 1) := by decide +kernel
def w_X9_deposit (p0 : Int32) (mm : Mm) (Q9 : Int32 → Mm → Prop) (X9 : Nat → Mm → Prop) : Prop :=
  w_X1_payIn p0 mm (fun (r_1 : Int32) (m_2 : Mm) => w_X9_answer r_1 m_2 (fun (r_3 : Int32) => Q9 r_3 m_2) X9)
def rm_X9_deposit : Room := { frames := 7, cells := 1, slots := 6, locals := 110 }
theorem hy_X9_deposit : yX9_deposit.cls = RX9 ∧ yX9_deposit.cls ≠ "java/lang/invoke/MethodHandle" ∧ yX9_deposit.cls ≠ "java/lang/invoke/VarHandle" ∧ (parseMethodDescriptor yX9_deposit.desc).map (fun d => d.parameters.length) = some 1 := by decide +kernel
set_option maxRecDepth 100000 in
set_option maxHeartbeats 4000000 in
theorem c_X9_deposit {l : Launch} {D : va_G} {cA : Nat → ClassId} {ad : Nat → Nat → Nat} {A : Nat → Prop} (ax : Ax ad GC A) (hst : l.stackTraces = false) (p0 : Int32) (mm : Mm) (Q9 : Int32 → Mm → Prop) (X9 : Nat → Mm → Prop) (h : w_X9_deposit p0 mm Q9 X9) : vx_Met l yX9_deposit (.code yX9_deposit cX9_deposit 2 (some .int) :: TG) rm_X9_deposit (PcM TT D cA ad false GC (ZC ad A) [.ref (ad 0 1), .int p0] mm) (AnsI TT D cA ad false GC A Q9) (AnsX TT D cA ad false GC A X9) 1 6 A := by
  have zo := ZC_ok ad A
  unfold w_X9_deposit at h
  refine enterXI pl_X9 rfl (Nat.le_of_ble_eq_true rfl) ?_
  intro p e s m args below meth c QQ X hK hZ hnm hlk htab hQ hE
  refine q_aload_n (j := 0) X dX9_deposit_0 rfl rfl ?_
  refine q_get (k := 2) (v := .ref (ad 16 1)) X hK rfl rfl (Nat.le_of_ble_eq_true rfl) inTX9 (gc (t := 0) (by decide) (ok1 (t := 0) (Nat.le_of_ble_eq_true rfl))) kw_2_113 rfl (rv_nn (a := ad 16) (r := 1) (ok1 (t := 16) (Nat.le_of_ble_eq_true rfl)).1) dX9_deposit_1 ?_
  refine q_iload_n (j := 1) X dX9_deposit_4 rfl rfl ?_
  refine q_calli (q_runVN X hK hZ zo (gc (t := 16) (by decide) (ok1 (t := 16) (Nat.le_of_ble_eq_true rfl))) rfl rfl [.int p0] [] rfl rfl (Nat.le_of_ble_eq_true rfl) dX9_deposit_5 ⟨Nat.le_of_ble_eq_true rfl, Nat.le_of_ble_eq_true rfl⟩ (c_X1_payIn ax p0 mm _ h) rfl rfl (List.mem_of_getElem? (i := 60) rfl) kw_1_9 kw_4_84 kw_4_83 ks_50 hy_X1_payIn.2 ⟨Nat.le_of_ble_eq_true rfl, Nat.le_of_ble_eq_true rfl⟩) (fun r_1 m_2 h => ?_)
  refine q_xcalli hQ hlk htab (q_runxS X hK hZ zo [.int r_1] [] rfl rfl (Nat.le_of_ble_eq_true rfl) dX9_deposit_8 ⟨Nat.le_of_ble_eq_true rfl, Nat.le_of_ble_eq_true rfl⟩ (c_X9_answer ax hst r_1 m_2 _ _ h) rfl rfl (gS kw_2_223 kw_2_224 kw_1_1 kw_2_225) hy_X9_answer.2 ⟨Nat.le_of_ble_eq_true rfl, Nat.le_of_ble_eq_true rfl⟩) ⟨Nat.le_of_ble_eq_true rfl, Nat.le_of_ble_eq_true rfl⟩ (fun k9 m9 h9 => h9) (fun r_3 m_4 h => ?_)
  obtain ⟨h, hm⟩ := h
  subst hm
  exact hE _ _ _ _ _ _ dX9_deposit_11 (Nat.le_of_ble_eq_true rfl) (Nat.le_of_ble_eq_true rfl) h
theorem dX9_setBond_0 : decode cX9_setBond 0 = .ok (.aload_n 0, 1) := by decide +kernel
theorem dX9_setBond_1 : decode cX9_setBond 1 = .ok (.getfield 28, 3) := by decide +kernel
theorem dX9_setBond_4 : decode cX9_setBond 4 = .ok (.iload_n 1, 1) := by decide +kernel
theorem dX9_setBond_5 : decode cX9_setBond 5 = .ok (.invokevirtual 81, 3) := by decide +kernel
theorem dX9_setBond_8 : decode cX9_setBond 8 = .ok (.invokestatic 43, 3) := by decide +kernel
theorem dX9_setBond_11 : decode cX9_setBond 11 = .ok (.ireturn, 1) := by decide +kernel
def w_X9_setBond (p0 : Int32) (mm : Mm) (Q9 : Int32 → Mm → Prop) (X9 : Nat → Mm → Prop) : Prop :=
  w_X1_changeBond p0 mm (fun (r_1 : Int32) (m_2 : Mm) => w_X9_answer r_1 m_2 (fun (r_3 : Int32) => Q9 r_3 m_2) X9)
def rm_X9_setBond : Room := { frames := 7, cells := 1, slots := 6, locals := 110 }
theorem hy_X9_setBond : yX9_setBond.cls = RX9 ∧ yX9_setBond.cls ≠ "java/lang/invoke/MethodHandle" ∧ yX9_setBond.cls ≠ "java/lang/invoke/VarHandle" ∧ (parseMethodDescriptor yX9_setBond.desc).map (fun d => d.parameters.length) = some 1 := by decide +kernel
set_option maxRecDepth 100000 in
set_option maxHeartbeats 4000000 in
theorem c_X9_setBond {l : Launch} {D : va_G} {cA : Nat → ClassId} {ad : Nat → Nat → Nat} {A : Nat → Prop} (ax : Ax ad GC A) (hst : l.stackTraces = false) (p0 : Int32) (mm : Mm) (Q9 : Int32 → Mm → Prop) (X9 : Nat → Mm → Prop) (h : w_X9_setBond p0 mm Q9 X9) : vx_Met l yX9_setBond (.code yX9_setBond cX9_setBond 2 (some .int) :: TG) rm_X9_setBond (PcM TT D cA ad false GC (ZC ad A) [.ref (ad 0 1), .int p0] mm) (AnsI TT D cA ad false GC A Q9) (AnsX TT D cA ad false GC A X9) 1 6 A := by
  have zo := ZC_ok ad A
  unfold w_X9_setBond at h
  refine enterXI pl_X9 rfl (Nat.le_of_ble_eq_true rfl) ?_
  intro p e s m args below meth c QQ X hK hZ hnm hlk htab hQ hE
  refine q_aload_n (j := 0) X dX9_setBond_0 rfl rfl ?_
  refine q_get (k := 2) (v := .ref (ad 16 1)) X hK rfl rfl (Nat.le_of_ble_eq_true rfl) inTX9 (gc (t := 0) (by decide) (ok1 (t := 0) (Nat.le_of_ble_eq_true rfl))) kw_2_113 rfl (rv_nn (a := ad 16) (r := 1) (ok1 (t := 16) (Nat.le_of_ble_eq_true rfl)).1) dX9_setBond_1 ?_
  refine q_iload_n (j := 1) X dX9_setBond_4 rfl rfl ?_
  refine q_calli (q_runVN X hK hZ zo (gc (t := 16) (by decide) (ok1 (t := 16) (Nat.le_of_ble_eq_true rfl))) rfl rfl [.int p0] [] rfl rfl (Nat.le_of_ble_eq_true rfl) dX9_setBond_5 ⟨Nat.le_of_ble_eq_true rfl, Nat.le_of_ble_eq_true rfl⟩ (c_X1_changeBond ax p0 mm _ h) rfl rfl (List.mem_of_getElem? (i := 63) rfl) kw_1_9 kw_4_105 kw_4_104 ks_53 hy_X1_changeBond.2 ⟨Nat.le_of_ble_eq_true rfl, Nat.le_of_ble_eq_true rfl⟩) (fun r_1 m_2 h => ?_)
  refine q_xcalli hQ hlk htab (q_runxS X hK hZ zo [.int r_1] [] rfl rfl (Nat.le_of_ble_eq_true rfl) dX9_setBond_8 ⟨Nat.le_of_ble_eq_true rfl, Nat.le_of_ble_eq_true rfl⟩ (c_X9_answer ax hst r_1 m_2 _ _ h) rfl rfl (gS kw_2_223 kw_2_224 kw_1_1 kw_2_225) hy_X9_answer.2 ⟨Nat.le_of_ble_eq_true rfl, Nat.le_of_ble_eq_true rfl⟩) ⟨Nat.le_of_ble_eq_true rfl, Nat.le_of_ble_eq_true rfl⟩ (fun k9 m9 h9 => h9) (fun r_3 m_4 h => ?_)
  obtain ⟨h, hm⟩ := h
  subst hm
  exact hE _ _ _ _ _ _ dX9_setBond_11 (Nat.le_of_ble_eq_true rfl) (Nat.le_of_ble_eq_true rfl) h
theorem dX9_setRateByValue_0 : decode cX9_setRateByValue 0 = .ok (.aload_n 0, 1) := by decide +kernel
theorem dX9_setRateByValue_1 : decode cX9_setRateByValue 1 = .ok (.getfield 28, 3) := by decide +kernel
theorem dX9_setRateByValue_4 : decode cX9_setRateByValue 4 = .ok (.iload_n 1, 1) := by decide +kernel
theorem dX9_setRateByValue_5 : decode cX9_setRateByValue 5 = .ok (.iload_n 2, 1) := by decide +kernel
theorem dX9_setRateByValue_6 : decode cX9_setRateByValue 6 = .ok (.invokevirtual 84, 3) := by decide +kernel
theorem dX9_setRateByValue_9 : decode cX9_setRateByValue 9 = .ok (.invokestatic 43, 3) := by decide +kernel
theorem dX9_setRateByValue_12 : decode cX9_setRateByValue 12 = .ok (.ireturn, 1) := by decide +kernel
def w_X9_setRateByValue (p0 : Int32) (p1 : Int32) (mm : Mm) (Q9 : Int32 → Mm → Prop) (X9 : Nat → Mm → Prop) : Prop :=
  w_X1_changeRateByValue p0 p1 mm (fun (r_1 : Int32) (m_2 : Mm) => w_X9_answer r_1 m_2 (fun (r_3 : Int32) => Q9 r_3 m_2) X9)
def rm_X9_setRateByValue : Room := { frames := 7, cells := 1, slots := 6, locals := 110 }
theorem hy_X9_setRateByValue : yX9_setRateByValue.cls = RX9 ∧ yX9_setRateByValue.cls ≠ "java/lang/invoke/MethodHandle" ∧ yX9_setRateByValue.cls ≠ "java/lang/invoke/VarHandle" ∧ (parseMethodDescriptor yX9_setRateByValue.desc).map (fun d => d.parameters.length) = some 2 := by decide +kernel
set_option maxRecDepth 100000 in
set_option maxHeartbeats 4000000 in
theorem c_X9_setRateByValue {l : Launch} {D : va_G} {cA : Nat → ClassId} {ad : Nat → Nat → Nat} {A : Nat → Prop} (ax : Ax ad GC A) (hst : l.stackTraces = false) (p0 : Int32) (p1 : Int32) (mm : Mm) (Q9 : Int32 → Mm → Prop) (X9 : Nat → Mm → Prop) (h : w_X9_setRateByValue p0 p1 mm Q9 X9) : vx_Met l yX9_setRateByValue (.code yX9_setRateByValue cX9_setRateByValue 3 (some .int) :: TG) rm_X9_setRateByValue (PcM TT D cA ad false GC (ZC ad A) [.ref (ad 0 1), .int p0, .int p1] mm) (AnsI TT D cA ad false GC A Q9) (AnsX TT D cA ad false GC A X9) 1 6 A := by
  have zo := ZC_ok ad A
  unfold w_X9_setRateByValue at h
  refine enterXI pl_X9 rfl (Nat.le_of_ble_eq_true rfl) ?_
  intro p e s m args below meth c QQ X hK hZ hnm hlk htab hQ hE
  refine q_aload_n (j := 0) X dX9_setRateByValue_0 rfl rfl ?_
  refine q_get (k := 2) (v := .ref (ad 16 1)) X hK rfl rfl (Nat.le_of_ble_eq_true rfl) inTX9 (gc (t := 0) (by decide) (ok1 (t := 0) (Nat.le_of_ble_eq_true rfl))) kw_2_113 rfl (rv_nn (a := ad 16) (r := 1) (ok1 (t := 16) (Nat.le_of_ble_eq_true rfl)).1) dX9_setRateByValue_1 ?_
  refine q_iload_n (j := 1) X dX9_setRateByValue_4 rfl rfl ?_
  refine q_iload_n (j := 2) X dX9_setRateByValue_5 rfl rfl ?_
  refine q_calli (q_runVN X hK hZ zo (gc (t := 16) (by decide) (ok1 (t := 16) (Nat.le_of_ble_eq_true rfl))) rfl rfl [.int p0, .int p1] [] rfl rfl (Nat.le_of_ble_eq_true rfl) dX9_setRateByValue_6 ⟨Nat.le_of_ble_eq_true rfl, Nat.le_of_ble_eq_true rfl⟩ (c_X1_changeRateByValue ax p0 p1 mm _ h) rfl rfl (List.mem_of_getElem? (i := 65) rfl) kw_1_9 kw_4_118 kw_4_117 ks_54 hy_X1_changeRateByValue.2 ⟨Nat.le_of_ble_eq_true rfl, Nat.le_of_ble_eq_true rfl⟩) (fun r_1 m_2 h => ?_)
  refine q_xcalli hQ hlk htab (q_runxS X hK hZ zo [.int r_1] [] rfl rfl (Nat.le_of_ble_eq_true rfl) dX9_setRateByValue_9 ⟨Nat.le_of_ble_eq_true rfl, Nat.le_of_ble_eq_true rfl⟩ (c_X9_answer ax hst r_1 m_2 _ _ h) rfl rfl (gS kw_2_223 kw_2_224 kw_1_1 kw_2_225) hy_X9_answer.2 ⟨Nat.le_of_ble_eq_true rfl, Nat.le_of_ble_eq_true rfl⟩) ⟨Nat.le_of_ble_eq_true rfl, Nat.le_of_ble_eq_true rfl⟩ (fun k9 m9 h9 => h9) (fun r_3 m_4 h => ?_)
  obtain ⟨h, hm⟩ := h
  subst hm
  exact hE _ _ _ _ _ _ dX9_setRateByValue_12 (Nat.le_of_ble_eq_true rfl) (Nat.le_of_ble_eq_true rfl) h
theorem dX9_setRateByWeight_0 : decode cX9_setRateByWeight 0 = .ok (.aload_n 0, 1) := by decide +kernel
theorem dX9_setRateByWeight_1 : decode cX9_setRateByWeight 1 = .ok (.getfield 28, 3) := by decide +kernel
theorem dX9_setRateByWeight_4 : decode cX9_setRateByWeight 4 = .ok (.iload_n 1, 1) := by decide +kernel
theorem dX9_setRateByWeight_5 : decode cX9_setRateByWeight 5 = .ok (.iload_n 2, 1) := by decide +kernel
theorem dX9_setRateByWeight_6 : decode cX9_setRateByWeight 6 = .ok (.invokevirtual 87, 3) := by decide +kernel
theorem dX9_setRateByWeight_9 : decode cX9_setRateByWeight 9 = .ok (.invokestatic 43, 3) := by decide +kernel
theorem dX9_setRateByWeight_12 : decode cX9_setRateByWeight 12 = .ok (.ireturn, 1) := by decide +kernel
def w_X9_setRateByWeight (p0 : Int32) (p1 : Int32) (mm : Mm) (Q9 : Int32 → Mm → Prop) (X9 : Nat → Mm → Prop) : Prop :=
  w_X1_changeRateByWeight p0 p1 mm (fun (r_1 : Int32) (m_2 : Mm) => w_X9_answer r_1 m_2 (fun (r_3 : Int32) => Q9 r_3 m_2) X9)
def rm_X9_setRateByWeight : Room := { frames := 7, cells := 1, slots := 6, locals := 110 }
theorem hy_X9_setRateByWeight : yX9_setRateByWeight.cls = RX9 ∧ yX9_setRateByWeight.cls ≠ "java/lang/invoke/MethodHandle" ∧ yX9_setRateByWeight.cls ≠ "java/lang/invoke/VarHandle" ∧ (parseMethodDescriptor yX9_setRateByWeight.desc).map (fun d => d.parameters.length) = some 2 := by decide +kernel
set_option maxRecDepth 100000 in
set_option maxHeartbeats 4000000 in
theorem c_X9_setRateByWeight {l : Launch} {D : va_G} {cA : Nat → ClassId} {ad : Nat → Nat → Nat} {A : Nat → Prop} (ax : Ax ad GC A) (hst : l.stackTraces = false) (p0 : Int32) (p1 : Int32) (mm : Mm) (Q9 : Int32 → Mm → Prop) (X9 : Nat → Mm → Prop) (h : w_X9_setRateByWeight p0 p1 mm Q9 X9) : vx_Met l yX9_setRateByWeight (.code yX9_setRateByWeight cX9_setRateByWeight 3 (some .int) :: TG) rm_X9_setRateByWeight (PcM TT D cA ad false GC (ZC ad A) [.ref (ad 0 1), .int p0, .int p1] mm) (AnsI TT D cA ad false GC A Q9) (AnsX TT D cA ad false GC A X9) 1 6 A := by
  have zo := ZC_ok ad A
  unfold w_X9_setRateByWeight at h
  refine enterXI pl_X9 rfl (Nat.le_of_ble_eq_true rfl) ?_
  intro p e s m args below meth c QQ X hK hZ hnm hlk htab hQ hE
  refine q_aload_n (j := 0) X dX9_setRateByWeight_0 rfl rfl ?_
  refine q_get (k := 2) (v := .ref (ad 16 1)) X hK rfl rfl (Nat.le_of_ble_eq_true rfl) inTX9 (gc (t := 0) (by decide) (ok1 (t := 0) (Nat.le_of_ble_eq_true rfl))) kw_2_113 rfl (rv_nn (a := ad 16) (r := 1) (ok1 (t := 16) (Nat.le_of_ble_eq_true rfl)).1) dX9_setRateByWeight_1 ?_
  refine q_iload_n (j := 1) X dX9_setRateByWeight_4 rfl rfl ?_
  refine q_iload_n (j := 2) X dX9_setRateByWeight_5 rfl rfl ?_
  refine q_calli (q_runVN X hK hZ zo (gc (t := 16) (by decide) (ok1 (t := 16) (Nat.le_of_ble_eq_true rfl))) rfl rfl [.int p0, .int p1] [] rfl rfl (Nat.le_of_ble_eq_true rfl) dX9_setRateByWeight_6 ⟨Nat.le_of_ble_eq_true rfl, Nat.le_of_ble_eq_true rfl⟩ (c_X1_changeRateByWeight ax p0 p1 mm _ h) rfl rfl (List.mem_of_getElem? (i := 66) rfl) kw_1_9 kw_4_129 kw_4_128 ks_55 hy_X1_changeRateByWeight.2 ⟨Nat.le_of_ble_eq_true rfl, Nat.le_of_ble_eq_true rfl⟩) (fun r_1 m_2 h => ?_)
  refine q_xcalli hQ hlk htab (q_runxS X hK hZ zo [.int r_1] [] rfl rfl (Nat.le_of_ble_eq_true rfl) dX9_setRateByWeight_9 ⟨Nat.le_of_ble_eq_true rfl, Nat.le_of_ble_eq_true rfl⟩ (c_X9_answer ax hst r_1 m_2 _ _ h) rfl rfl (gS kw_2_223 kw_2_224 kw_1_1 kw_2_225) hy_X9_answer.2 ⟨Nat.le_of_ble_eq_true rfl, Nat.le_of_ble_eq_true rfl⟩) ⟨Nat.le_of_ble_eq_true rfl, Nat.le_of_ble_eq_true rfl⟩ (fun k9 m9 h9 => h9) (fun r_3 m_4 h => ?_)
  obtain ⟨h, hm⟩ := h
  subst hm
  exact hE _ _ _ _ _ _ dX9_setRateByWeight_12 (Nat.le_of_ble_eq_true rfl) (Nat.le_of_ble_eq_true rfl) h
theorem dX9_pass_0 : decode cX9_pass 0 = .ok (.aload_n 0, 1) := by decide +kernel
theorem dX9_pass_1 : decode cX9_pass 1 = .ok (.getfield 28, 3) := by decide +kernel
theorem dX9_pass_4 : decode cX9_pass 4 = .ok (.iload_n 1, 1) := by decide +kernel
theorem dX9_pass_5 : decode cX9_pass 5 = .ok (.invokevirtual 90, 3) := by decide +kernel
theorem dX9_pass_8 : decode cX9_pass 8 = .ok (.invokestatic 43, 3) := by decide +kernel
theorem dX9_pass_11 : decode cX9_pass 11 = .ok (.ireturn, 1) := by decide +kernel
def w_X9_pass (p0 : Int32) (mm : Mm) (Q9 : Int32 → Mm → Prop) (X9 : Nat → Mm → Prop) : Prop :=
  w_X1_letPass p0 mm (fun (r_1 : Int32) (m_2 : Mm) => w_X9_answer r_1 m_2 (fun (r_3 : Int32) => Q9 r_3 m_2) X9)
def rm_X9_pass : Room := { frames := 7, cells := 1, slots := 6, locals := 110 }
theorem hy_X9_pass : yX9_pass.cls = RX9 ∧ yX9_pass.cls ≠ "java/lang/invoke/MethodHandle" ∧ yX9_pass.cls ≠ "java/lang/invoke/VarHandle" ∧ (parseMethodDescriptor yX9_pass.desc).map (fun d => d.parameters.length) = some 1 := by decide +kernel
set_option maxRecDepth 100000 in
set_option maxHeartbeats 4000000 in
theorem c_X9_pass {l : Launch} {D : va_G} {cA : Nat → ClassId} {ad : Nat → Nat → Nat} {A : Nat → Prop} (ax : Ax ad GC A) (hst : l.stackTraces = false) (p0 : Int32) (mm : Mm) (Q9 : Int32 → Mm → Prop) (X9 : Nat → Mm → Prop) (h : w_X9_pass p0 mm Q9 X9) : vx_Met l yX9_pass (.code yX9_pass cX9_pass 2 (some .int) :: TG) rm_X9_pass (PcM TT D cA ad false GC (ZC ad A) [.ref (ad 0 1), .int p0] mm) (AnsI TT D cA ad false GC A Q9) (AnsX TT D cA ad false GC A X9) 1 6 A := by
  have zo := ZC_ok ad A
  unfold w_X9_pass at h
  refine enterXI pl_X9 rfl (Nat.le_of_ble_eq_true rfl) ?_
  intro p e s m args below meth c QQ X hK hZ hnm hlk htab hQ hE
  refine q_aload_n (j := 0) X dX9_pass_0 rfl rfl ?_
  refine q_get (k := 2) (v := .ref (ad 16 1)) X hK rfl rfl (Nat.le_of_ble_eq_true rfl) inTX9 (gc (t := 0) (by decide) (ok1 (t := 0) (Nat.le_of_ble_eq_true rfl))) kw_2_113 rfl (rv_nn (a := ad 16) (r := 1) (ok1 (t := 16) (Nat.le_of_ble_eq_true rfl)).1) dX9_pass_1 ?_
  refine q_iload_n (j := 1) X dX9_pass_4 rfl rfl ?_
  refine q_calli (q_runVN X hK hZ zo (gc (t := 16) (by decide) (ok1 (t := 16) (Nat.le_of_ble_eq_true rfl))) rfl rfl [.int p0] [] rfl rfl (Nat.le_of_ble_eq_true rfl) dX9_pass_5 ⟨Nat.le_of_ble_eq_true rfl, Nat.le_of_ble_eq_true rfl⟩ (c_X1_letPass ax p0 mm _ h) rfl rfl (List.mem_of_getElem? (i := 67) rfl) kw_1_9 kw_4_140 kw_4_139 ks_56 hy_X1_letPass.2 ⟨Nat.le_of_ble_eq_true rfl, Nat.le_of_ble_eq_true rfl⟩) (fun r_1 m_2 h => ?_)
  refine q_xcalli hQ hlk htab (q_runxS X hK hZ zo [.int r_1] [] rfl rfl (Nat.le_of_ble_eq_true rfl) dX9_pass_8 ⟨Nat.le_of_ble_eq_true rfl, Nat.le_of_ble_eq_true rfl⟩ (c_X9_answer ax hst r_1 m_2 _ _ h) rfl rfl (gS kw_2_223 kw_2_224 kw_1_1 kw_2_225) hy_X9_answer.2 ⟨Nat.le_of_ble_eq_true rfl, Nat.le_of_ble_eq_true rfl⟩) ⟨Nat.le_of_ble_eq_true rfl, Nat.le_of_ble_eq_true rfl⟩ (fun k9 m9 h9 => h9) (fun r_3 m_4 h => ?_)
  obtain ⟨h, hm⟩ := h
  subst hm
  exact hE _ _ _ _ _ _ dX9_pass_11 (Nat.le_of_ble_eq_true rfl) (Nat.le_of_ble_eq_true rfl) h
theorem dX9_entryAt_0 : decode cX9_entryAt 0 = .ok (.iload_n 1, 1) := by decide +kernel
theorem dX9_entryAt_1 : decode cX9_entryAt 1 = .ok (.iconst 0, 1) := by decide +kernel
theorem dX9_entryAt_2 : decode cX9_entryAt 2 = .ok (.aload_n 0, 1) := by decide +kernel
theorem dX9_entryAt_3 : decode cX9_entryAt 3 = .ok (.getfield 10, 3) := by decide +kernel
theorem dX9_entryAt_6 : decode cX9_entryAt 6 = .ok (.getfield 97, 3) := by decide +kernel
theorem dX9_entryAt_9 : decode cX9_entryAt 9 = .ok (.iconst 1, 1) := by decide +kernel
theorem dX9_entryAt_10 : decode cX9_entryAt 10 = .ok (.isub, 1) := by decide +kernel
theorem dX9_entryAt_11 : decode cX9_entryAt 11 = .ok (.invokestatic 107, 3) := by decide +kernel
theorem dX9_entryAt_14 : decode cX9_entryAt 14 = .ok (.ifCond .ne 13, 3) := by decide +kernel
theorem dX9_entryAt_17 : decode cX9_entryAt 17 = .ok (.new 111, 3) := by decide +kernel
theorem dX9_entryAt_20 : decode cX9_entryAt 20 = .ok (.dup, 1) := by decide +kernel
theorem dX9_entryAt_21 : decode cX9_entryAt 21 = .ok (.ldc 113, 2) := by decide +kernel
theorem dX9_entryAt_23 : decode cX9_entryAt 23 = .ok (.invokespecial 115, 3) := by decide +kernel
theorem dX9_entryAt_26 : decode cX9_entryAt 26 = .ok (.athrow, 1) := by decide +kernel
theorem dX9_entryAt_27 : decode cX9_entryAt 27 = .ok (.aload_n 0, 1) := by decide +kernel
theorem dX9_entryAt_28 : decode cX9_entryAt 28 = .ok (.getfield 10, 3) := by decide +kernel
theorem dX9_entryAt_31 : decode cX9_entryAt 31 = .ok (.getfield 118, 3) := by decide +kernel
theorem dX9_entryAt_34 : decode cX9_entryAt 34 = .ok (.iload_n 1, 1) := by decide +kernel
theorem dX9_entryAt_35 : decode cX9_entryAt 35 = .ok (.aaload, 1) := by decide +kernel
theorem dX9_entryAt_36 : decode cX9_entryAt 36 = .ok (.getfield 122, 3) := by decide +kernel
theorem dX9_entryAt_39 : decode cX9_entryAt 39 = .ok (.ireturn, 1) := by decide +kernel
def w_X9_entryAt (p0 : Int32) (mm : Mm) (Q9 : Int32 → Prop) (X9 : Nat → Mm → Prop) : Prop :=
  w_X9_isWithin p0 0 ((mm.1 1 1 1) - 1) mm (fun (r_1 : Int32) => ((¬ r_1 = 0 → vp_in p0 16 ∧ (ok 3 (mm.2 7 1 p0.toNatClampNeg) ∧ (Q9 (mm.1 3 (mm.2 7 1 p0.toNatClampNeg) 0)))) ∧
  (r_1 = 0 → X9 1 mm)))
def rm_X9_entryAt : Room := { frames := 6, cells := 1, slots := 6, locals := 90 }
theorem hy_X9_entryAt : yX9_entryAt.cls = RX9 ∧ yX9_entryAt.cls ≠ "java/lang/invoke/MethodHandle" ∧ yX9_entryAt.cls ≠ "java/lang/invoke/VarHandle" ∧ (parseMethodDescriptor yX9_entryAt.desc).map (fun d => d.parameters.length) = some 1 := by decide +kernel
set_option maxRecDepth 100000 in
set_option maxHeartbeats 4000000 in
theorem c_X9_entryAt {l : Launch} {D : va_G} {cA : Nat → ClassId} {ad : Nat → Nat → Nat} {A : Nat → Prop} (ax : Ax ad GC A) (hst : l.stackTraces = false) (p0 : Int32) (mm : Mm) (Q9 : Int32 → Prop) (X9 : Nat → Mm → Prop) (h : w_X9_entryAt p0 mm Q9 X9) : vx_Met l yX9_entryAt (.code yX9_entryAt cX9_entryAt 2 (some .int) :: TG) rm_X9_entryAt (PcM TT D cA ad false GC (ZC ad A) [.ref (ad 0 1), .int p0] mm) (AnsI TT D cA ad false GC A (fun r mm' => Q9 r ∧ mm = mm')) (AnsX TT D cA ad false GC A X9) 1 6 A := by
  have zo := ZC_ok ad A
  unfold w_X9_entryAt at h
  refine enterXI pl_X9 rfl (Nat.le_of_ble_eq_true rfl) ?_
  intro p e s m args below meth c QQ X hK hZ hnm hlk htab hQ hE
  refine q_iload_n (j := 1) X dX9_entryAt_0 rfl rfl ?_
  refine q_iconst (v := 0) X dX9_entryAt_1 (by decide) ?_
  refine q_aload_n (j := 0) X dX9_entryAt_2 rfl rfl ?_
  refine q_get (k := 0) (v := .ref (ad 1 1)) X hK rfl rfl (Nat.le_of_ble_eq_true rfl) inTX9 (gc (t := 0) (by decide) (ok1 (t := 0) (Nat.le_of_ble_eq_true rfl))) kw_2_111 rfl (rv_nn (a := ad 1) (r := 1) (ok1 (t := 1) (Nat.le_of_ble_eq_true rfl)).1) dX9_entryAt_3 ?_
  refine q_getN (k := 1) (v := .int (mm.1 1 1 1)) X hK rfl rfl (Nat.le_of_ble_eq_true rfl) inTX8 (gc (t := 1) (by decide) (ok1 (t := 1) (Nat.le_of_ble_eq_true rfl))) (List.mem_of_getElem? (i := 69) rfl) rfl rfl dX9_entryAt_6 ?_
  refine q_iconst (v := 1) X dX9_entryAt_9 (by decide) ?_
  refine q_isub X dX9_entryAt_10 ?_
  refine q_calli (q_runS X hK hZ zo [.int p0, .int 0, .int ((mm.1 1 1 1) - 1)] [] rfl rfl (Nat.le_of_ble_eq_true rfl) dX9_entryAt_11 ⟨Nat.le_of_ble_eq_true rfl, Nat.le_of_ble_eq_true rfl⟩ (c_X9_isWithin ax p0 0 ((mm.1 1 1 1) - 1) mm _ h) rfl rfl (gS kw_2_156 kw_2_157 kw_1_1 kw_2_158) hy_X9_isWithin.2 ⟨Nat.le_of_ble_eq_true rfl, Nat.le_of_ble_eq_true rfl⟩) (fun r_1 m_2 h => ?_)
  obtain ⟨h, hm⟩ := h
  subst hm
  refine q_if_ne (tgt := 27) X dX9_entryAt_14 (by decide) (fun c_3 => ?_) (fun c_3 => ?_)
  · have h := h.1 c_3
    refine q_aload_n (j := 0) X dX9_entryAt_27 rfl rfl ?_
    refine q_get (k := 0) (v := .ref (ad 1 1)) X hK rfl rfl (Nat.le_of_ble_eq_true rfl) inTX9 (gc (t := 0) (by decide) (ok1 (t := 0) (Nat.le_of_ble_eq_true rfl))) kw_2_111 rfl (rv_nn (a := ad 1) (r := 1) (ok1 (t := 1) (Nat.le_of_ble_eq_true rfl)).1) dX9_entryAt_28 ?_
    refine q_getN (k := 6) (v := .ref (ad 7 1)) X hK rfl rfl (Nat.le_of_ble_eq_true rfl) inTX8 (gc (t := 1) (by decide) (ok1 (t := 1) (Nat.le_of_ble_eq_true rfl))) (List.mem_of_getElem? (i := 76) rfl) rfl (rv_nn (a := ad 7) (r := 1) (ok1 (t := 7) (Nat.le_of_ble_eq_true rfl)).1) dX9_entryAt_31 ?_
    refine q_iload_n (j := 1) X dX9_entryAt_34 rfl rfl ?_
    obtain ⟨b_4, h⟩ := h
    refine q_aald (t := 7) (i := 1) (jn := p0.toNatClampNeg) (v := rv (ad 3) (mm.2 7 1 p0.toNatClampNeg)) X hK rfl rfl (gc (t := 7) (by decide) (ok1 (t := 7) (Nat.le_of_ble_eq_true rfl))) rfl b_4 rfl rfl dX9_entryAt_35 ?_
    obtain ⟨k_5, h⟩ := h
    rw [rv_nn (a := ad 3) (r := (mm.2 7 1 p0.toNatClampNeg)) k_5.1]
    refine q_getN (k := 0) (v := .int (mm.1 3 (mm.2 7 1 p0.toNatClampNeg) 0)) X hK rfl rfl (Nat.le_of_ble_eq_true rfl) inTX2 (gc (t := 3) (by decide) k_5) (List.mem_of_getElem? (i := 14) rfl) rfl rfl dX9_entryAt_36 ?_
    exact hE _ _ _ _ _ _ dX9_entryAt_39 (Nat.le_of_ble_eq_true rfl) (Nat.le_of_ble_eq_true rfl) ⟨h, rfl⟩
  · have h := h.2 c_3
    exact q_throwS (k := 1) X hQ hlk htab hst hZ thr_1 (List.mem_of_getElem? (i := 0) rfl) dX9_entryAt_17 dX9_entryAt_20 dX9_entryAt_21 dX9_entryAt_23 dX9_entryAt_26 (Nat.le_of_ble_eq_true rfl) (Nat.le_of_ble_eq_true rfl) (Nat.le_of_ble_eq_true rfl) (Nat.le_of_ble_eq_true rfl) (Nat.le_of_ble_eq_true rfl) (Nat.le_of_ble_eq_true rfl) h
theorem dX9_entryNumbered_0 : decode cX9_entryNumbered 0 = .ok (.aload_n 0, 1) := by decide +kernel
theorem dX9_entryNumbered_1 : decode cX9_entryNumbered 1 = .ok (.getfield 10, 3) := by decide +kernel
theorem dX9_entryNumbered_4 : decode cX9_entryNumbered 4 = .ok (.iload_n 1, 1) := by decide +kernel
theorem dX9_entryNumbered_5 : decode cX9_entryNumbered 5 = .ok (.invokevirtual 103, 3) := by decide +kernel
theorem dX9_entryNumbered_8 : decode cX9_entryNumbered 8 = .ok (.astore_n 2, 1) := by decide +kernel
theorem dX9_entryNumbered_9 : decode cX9_entryNumbered 9 = .ok (.aload_n 2, 1) := by decide +kernel
theorem dX9_entryNumbered_10 : decode cX9_entryNumbered 10 = .ok (.ifnonnull 14, 3) := by decide +kernel
theorem dX9_entryNumbered_13 : decode cX9_entryNumbered 13 = .ok (.new 111, 3) := by decide +kernel
theorem dX9_entryNumbered_16 : decode cX9_entryNumbered 16 = .ok (.dup, 1) := by decide +kernel
theorem dX9_entryNumbered_17 : decode cX9_entryNumbered 17 = .ok (.ldc_w 424, 3) := by decide +kernel
theorem dX9_entryNumbered_20 : decode cX9_entryNumbered 20 = .ok (.invokespecial 115, 3) := by decide +kernel
theorem dX9_entryNumbered_23 : decode cX9_entryNumbered 23 = .ok (.athrow, 1) := by decide +kernel
theorem dX9_entryNumbered_24 : decode cX9_entryNumbered 24 = .ok (.aload_n 2, 1) := by decide +kernel
theorem dX9_entryNumbered_25 : decode cX9_entryNumbered 25 = .ok (.areturn, 1) := by decide +kernel
def w_X9_entryNumbered (p0 : Int32) (mm : Mm) (Q9 : Nat → Prop) (X9 : Nat → Mm → Prop) : Prop :=
  w_X8_findEntry 1 p0 mm (fun (r_1 : Nat) => ((¬ r_1 = 0 → Q9 r_1) ∧
  (r_1 = 0 → X9 1 mm)))
def rm_X9_entryNumbered : Room := { frames := 6, cells := 1, slots := 6, locals := 90 }
theorem hy_X9_entryNumbered : yX9_entryNumbered.cls = RX9 ∧ yX9_entryNumbered.cls ≠ "java/lang/invoke/MethodHandle" ∧ yX9_entryNumbered.cls ≠ "java/lang/invoke/VarHandle" ∧ (parseMethodDescriptor yX9_entryNumbered.desc).map (fun d => d.parameters.length) = some 1 := by decide +kernel
set_option maxRecDepth 100000 in
set_option maxHeartbeats 4000000 in
theorem c_X9_entryNumbered {l : Launch} {D : va_G} {cA : Nat → ClassId} {ad : Nat → Nat → Nat} {A : Nat → Prop} (ax : Ax ad GC A) (hst : l.stackTraces = false) (p0 : Int32) (mm : Mm) (Q9 : Nat → Prop) (X9 : Nat → Mm → Prop) (h : w_X9_entryNumbered p0 mm Q9 X9) : vx_Met l yX9_entryNumbered (.code yX9_entryNumbered cX9_entryNumbered 3 (some (.object "BondWarehouse$Entry")) :: TG) rm_X9_entryNumbered (PcM TT D cA ad false GC (ZC ad A) [.ref (ad 0 1), .int p0] mm) (AnsQ TT D cA ad false GC 3 A (fun r mm' => Q9 r ∧ mm = mm')) (AnsX TT D cA ad false GC A X9) 1 6 A := by
  have zo := ZC_ok ad A
  unfold w_X9_entryNumbered at h
  refine enterXR (Or.inl ⟨_, rfl⟩) pl_X9 rfl (Nat.le_of_ble_eq_true rfl) ?_
  intro p e s m args below meth c QQ X hK hZ hnm hlk htab hQ hE
  refine q_aload_n (j := 0) X dX9_entryNumbered_0 rfl rfl ?_
  refine q_get (k := 0) (v := .ref (ad 1 1)) X hK rfl rfl (Nat.le_of_ble_eq_true rfl) inTX9 (gc (t := 0) (by decide) (ok1 (t := 0) (Nat.le_of_ble_eq_true rfl))) kw_2_111 rfl (rv_nn (a := ad 1) (r := 1) (ok1 (t := 1) (Nat.le_of_ble_eq_true rfl)).1) dX9_entryNumbered_1 ?_
  refine q_iload_n (j := 1) X dX9_entryNumbered_4 rfl rfl ?_
  refine q_callr (q_runVN X hK hZ zo (gc (t := 1) (by decide) (ok1 (t := 1) (Nat.le_of_ble_eq_true rfl))) rfl rfl [.int p0] [] rfl rfl (Nat.le_of_ble_eq_true rfl) dX9_entryNumbered_5 ⟨Nat.le_of_ble_eq_true rfl, Nat.le_of_ble_eq_true rfl⟩ (c_X8_findEntry ax 1 (ok1 (t := 1) (Nat.le_of_ble_eq_true rfl)) p0 mm _ h) rfl rfl (List.mem_of_getElem? (i := 69) rfl) kw_1_2 kw_3_106 kw_3_105 ks_19 hy_X8_findEntry.2 ⟨Nat.le_of_ble_eq_true rfl, Nat.le_of_ble_eq_true rfl⟩) (fun r_1 m_2 h => ?_)
  obtain ⟨h, hm⟩ := h
  subst hm
  refine q_vstore_n (lv' := [(2, rv (ad 3) r_1), (0, .ref (ad 0 1)), (1, .int p0)]) X dX9_entryNumbered_8 rfl (by decide) rfl ?_
  refine q_vload_n (j := 0) X dX9_entryNumbered_9 rfl rfl ?_
  refine q_ifnonnull (tgt := 24) X dX9_entryNumbered_10 (by decide) (fun c_3 => ?_) (fun c_3 => ?_)
  · have h := h.1 c_3
    refine q_vload_n (j := 0) X dX9_entryNumbered_24 rfl rfl ?_
    exact hE _ _ _ _ r_1 _ dX9_entryNumbered_25 (Nat.le_of_ble_eq_true rfl) (Nat.le_of_ble_eq_true rfl) ⟨h, rfl⟩
  · have h := h.2 c_3
    exact q_throwSW (k := 1) X hQ hlk htab hst hZ thr_1 (List.mem_of_getElem? (i := 10) rfl) dX9_entryNumbered_13 dX9_entryNumbered_16 dX9_entryNumbered_17 dX9_entryNumbered_20 dX9_entryNumbered_23 (Nat.le_of_ble_eq_true rfl) (Nat.le_of_ble_eq_true rfl) (Nat.le_of_ble_eq_true rfl) (Nat.le_of_ble_eq_true rfl) (Nat.le_of_ble_eq_true rfl) (Nat.le_of_ble_eq_true rfl) h
theorem dX9_kindOf_0 : decode cX9_kindOf 0 = .ok (.aload_n 0, 1) := by decide +kernel
theorem dX9_kindOf_1 : decode cX9_kindOf 1 = .ok (.iload_n 1, 1) := by decide +kernel
theorem dX9_kindOf_2 : decode cX9_kindOf 2 = .ok (.invokevirtual 127, 3) := by decide +kernel
theorem dX9_kindOf_5 : decode cX9_kindOf 5 = .ok (.getfield 130, 3) := by decide +kernel
theorem dX9_kindOf_8 : decode cX9_kindOf 8 = .ok (.ireturn, 1) := by decide +kernel
def w_X9_kindOf (p0 : Int32) (mm : Mm) (Q9 : Int32 → Prop) (X9 : Nat → Mm → Prop) : Prop :=
  w_X9_entryNumbered p0 mm (fun (r_1 : Nat) => ok 3 r_1 ∧ (Q9 (mm.1 3 r_1 1))) X9
def rm_X9_kindOf : Room := { frames := 7, cells := 1, slots := 6, locals := 112 }
theorem hy_X9_kindOf : yX9_kindOf.cls = RX9 ∧ yX9_kindOf.cls ≠ "java/lang/invoke/MethodHandle" ∧ yX9_kindOf.cls ≠ "java/lang/invoke/VarHandle" ∧ (parseMethodDescriptor yX9_kindOf.desc).map (fun d => d.parameters.length) = some 1 := by decide +kernel
set_option maxRecDepth 100000 in
set_option maxHeartbeats 4000000 in
theorem c_X9_kindOf {l : Launch} {D : va_G} {cA : Nat → ClassId} {ad : Nat → Nat → Nat} {A : Nat → Prop} (ax : Ax ad GC A) (hst : l.stackTraces = false) (p0 : Int32) (mm : Mm) (Q9 : Int32 → Prop) (X9 : Nat → Mm → Prop) (h : w_X9_kindOf p0 mm Q9 X9) : vx_Met l yX9_kindOf (.code yX9_kindOf cX9_kindOf 2 (some .int) :: TG) rm_X9_kindOf (PcM TT D cA ad false GC (ZC ad A) [.ref (ad 0 1), .int p0] mm) (AnsI TT D cA ad false GC A (fun r mm' => Q9 r ∧ mm = mm')) (AnsX TT D cA ad false GC A X9) 1 6 A := by
  have zo := ZC_ok ad A
  unfold w_X9_kindOf at h
  refine enterXI pl_X9 rfl (Nat.le_of_ble_eq_true rfl) ?_
  intro p e s m args below meth c QQ X hK hZ hnm hlk htab hQ hE
  refine q_aload_n (j := 0) X dX9_kindOf_0 rfl rfl ?_
  refine q_iload_n (j := 1) X dX9_kindOf_1 rfl rfl ?_
  refine q_xcallr hQ hlk htab (q_runxV X hK hZ zo (gc (t := 0) (by decide) (ok1 (t := 0) (Nat.le_of_ble_eq_true rfl))) rfl rfl [.int p0] [] rfl rfl (Nat.le_of_ble_eq_true rfl) dX9_kindOf_2 ⟨Nat.le_of_ble_eq_true rfl, Nat.le_of_ble_eq_true rfl⟩ (c_X9_entryNumbered ax hst p0 mm _ _ h) rfl rfl (gV kw_4_161 kw_4_163 ks_58 kw_1_1 kw_4_164) hy_X9_entryNumbered ⟨Nat.le_of_ble_eq_true rfl, Nat.le_of_ble_eq_true rfl⟩) ⟨Nat.le_of_ble_eq_true rfl, Nat.le_of_ble_eq_true rfl⟩ (fun k9 m9 h9 => h9) (fun r_1 m_2 h => ?_)
  obtain ⟨h, hm⟩ := h
  subst hm
  obtain ⟨k_3, h⟩ := h
  rw [rv_nn (a := ad 3) (r := r_1) k_3.1]
  refine q_getN (k := 1) (v := .int (mm.1 3 r_1 1)) X hK rfl rfl (Nat.le_of_ble_eq_true rfl) inTX2 (gc (t := 3) (by decide) k_3) (List.mem_of_getElem? (i := 17) rfl) rfl rfl dX9_kindOf_5 ?_
  exact hE _ _ _ _ _ _ dX9_kindOf_8 (Nat.le_of_ble_eq_true rfl) (Nat.le_of_ble_eq_true rfl) ⟨h, rfl⟩
theorem dX9_weightOf_0 : decode cX9_weightOf 0 = .ok (.aload_n 0, 1) := by decide +kernel
theorem dX9_weightOf_1 : decode cX9_weightOf 1 = .ok (.iload_n 1, 1) := by decide +kernel
theorem dX9_weightOf_2 : decode cX9_weightOf 2 = .ok (.invokevirtual 127, 3) := by decide +kernel
theorem dX9_weightOf_5 : decode cX9_weightOf 5 = .ok (.getfield 133, 3) := by decide +kernel
theorem dX9_weightOf_8 : decode cX9_weightOf 8 = .ok (.ireturn, 1) := by decide +kernel
def w_X9_weightOf (p0 : Int32) (mm : Mm) (Q9 : Int32 → Prop) (X9 : Nat → Mm → Prop) : Prop :=
  w_X9_entryNumbered p0 mm (fun (r_1 : Nat) => ok 3 r_1 ∧ (Q9 (mm.1 3 r_1 2))) X9
def rm_X9_weightOf : Room := { frames := 7, cells := 1, slots := 6, locals := 112 }
theorem hy_X9_weightOf : yX9_weightOf.cls = RX9 ∧ yX9_weightOf.cls ≠ "java/lang/invoke/MethodHandle" ∧ yX9_weightOf.cls ≠ "java/lang/invoke/VarHandle" ∧ (parseMethodDescriptor yX9_weightOf.desc).map (fun d => d.parameters.length) = some 1 := by decide +kernel
set_option maxRecDepth 100000 in
set_option maxHeartbeats 4000000 in
theorem c_X9_weightOf {l : Launch} {D : va_G} {cA : Nat → ClassId} {ad : Nat → Nat → Nat} {A : Nat → Prop} (ax : Ax ad GC A) (hst : l.stackTraces = false) (p0 : Int32) (mm : Mm) (Q9 : Int32 → Prop) (X9 : Nat → Mm → Prop) (h : w_X9_weightOf p0 mm Q9 X9) : vx_Met l yX9_weightOf (.code yX9_weightOf cX9_weightOf 2 (some .int) :: TG) rm_X9_weightOf (PcM TT D cA ad false GC (ZC ad A) [.ref (ad 0 1), .int p0] mm) (AnsI TT D cA ad false GC A (fun r mm' => Q9 r ∧ mm = mm')) (AnsX TT D cA ad false GC A X9) 1 6 A := by
  have zo := ZC_ok ad A
  unfold w_X9_weightOf at h
  refine enterXI pl_X9 rfl (Nat.le_of_ble_eq_true rfl) ?_
  intro p e s m args below meth c QQ X hK hZ hnm hlk htab hQ hE
  refine q_aload_n (j := 0) X dX9_weightOf_0 rfl rfl ?_
  refine q_iload_n (j := 1) X dX9_weightOf_1 rfl rfl ?_
  refine q_xcallr hQ hlk htab (q_runxV X hK hZ zo (gc (t := 0) (by decide) (ok1 (t := 0) (Nat.le_of_ble_eq_true rfl))) rfl rfl [.int p0] [] rfl rfl (Nat.le_of_ble_eq_true rfl) dX9_weightOf_2 ⟨Nat.le_of_ble_eq_true rfl, Nat.le_of_ble_eq_true rfl⟩ (c_X9_entryNumbered ax hst p0 mm _ _ h) rfl rfl (gV kw_4_161 kw_4_163 ks_58 kw_1_1 kw_4_164) hy_X9_entryNumbered ⟨Nat.le_of_ble_eq_true rfl, Nat.le_of_ble_eq_true rfl⟩) ⟨Nat.le_of_ble_eq_true rfl, Nat.le_of_ble_eq_true rfl⟩ (fun k9 m9 h9 => h9) (fun r_1 m_2 h => ?_)
  obtain ⟨h, hm⟩ := h
  subst hm
  obtain ⟨k_3, h⟩ := h
  rw [rv_nn (a := ad 3) (r := r_1) k_3.1]
  refine q_getN (k := 2) (v := .int (mm.1 3 r_1 2)) X hK rfl rfl (Nat.le_of_ble_eq_true rfl) inTX2 (gc (t := 3) (by decide) k_3) (List.mem_of_getElem? (i := 20) rfl) rfl rfl dX9_weightOf_5 ?_
  exact hE _ _ _ _ _ _ dX9_weightOf_8 (Nat.le_of_ble_eq_true rfl) (Nat.le_of_ble_eq_true rfl) ⟨h, rfl⟩
theorem dX9_valueOf_0 : decode cX9_valueOf 0 = .ok (.aload_n 0, 1) := by decide +kernel
theorem dX9_valueOf_1 : decode cX9_valueOf 1 = .ok (.iload_n 1, 1) := by decide +kernel
theorem dX9_valueOf_2 : decode cX9_valueOf 2 = .ok (.invokevirtual 127, 3) := by decide +kernel
theorem dX9_valueOf_5 : decode cX9_valueOf 5 = .ok (.getfield 136, 3) := by decide +kernel
theorem dX9_valueOf_8 : decode cX9_valueOf 8 = .ok (.ireturn, 1) := by decide +kernel
def w_X9_valueOf (p0 : Int32) (mm : Mm) (Q9 : Int32 → Prop) (X9 : Nat → Mm → Prop) : Prop :=
  w_X9_entryNumbered p0 mm (fun (r_1 : Nat) => ok 3 r_1 ∧ (Q9 (mm.1 3 r_1 3))) X9
def rm_X9_valueOf : Room := { frames := 7, cells := 1, slots := 6, locals := 112 }
theorem hy_X9_valueOf : yX9_valueOf.cls = RX9 ∧ yX9_valueOf.cls ≠ "java/lang/invoke/MethodHandle" ∧ yX9_valueOf.cls ≠ "java/lang/invoke/VarHandle" ∧ (parseMethodDescriptor yX9_valueOf.desc).map (fun d => d.parameters.length) = some 1 := by decide +kernel
set_option maxRecDepth 100000 in
set_option maxHeartbeats 4000000 in
theorem c_X9_valueOf {l : Launch} {D : va_G} {cA : Nat → ClassId} {ad : Nat → Nat → Nat} {A : Nat → Prop} (ax : Ax ad GC A) (hst : l.stackTraces = false) (p0 : Int32) (mm : Mm) (Q9 : Int32 → Prop) (X9 : Nat → Mm → Prop) (h : w_X9_valueOf p0 mm Q9 X9) : vx_Met l yX9_valueOf (.code yX9_valueOf cX9_valueOf 2 (some .int) :: TG) rm_X9_valueOf (PcM TT D cA ad false GC (ZC ad A) [.ref (ad 0 1), .int p0] mm) (AnsI TT D cA ad false GC A (fun r mm' => Q9 r ∧ mm = mm')) (AnsX TT D cA ad false GC A X9) 1 6 A := by
  have zo := ZC_ok ad A
  unfold w_X9_valueOf at h
  refine enterXI pl_X9 rfl (Nat.le_of_ble_eq_true rfl) ?_
  intro p e s m args below meth c QQ X hK hZ hnm hlk htab hQ hE
  refine q_aload_n (j := 0) X dX9_valueOf_0 rfl rfl ?_
  refine q_iload_n (j := 1) X dX9_valueOf_1 rfl rfl ?_
  refine q_xcallr hQ hlk htab (q_runxV X hK hZ zo (gc (t := 0) (by decide) (ok1 (t := 0) (Nat.le_of_ble_eq_true rfl))) rfl rfl [.int p0] [] rfl rfl (Nat.le_of_ble_eq_true rfl) dX9_valueOf_2 ⟨Nat.le_of_ble_eq_true rfl, Nat.le_of_ble_eq_true rfl⟩ (c_X9_entryNumbered ax hst p0 mm _ _ h) rfl rfl (gV kw_4_161 kw_4_163 ks_58 kw_1_1 kw_4_164) hy_X9_entryNumbered ⟨Nat.le_of_ble_eq_true rfl, Nat.le_of_ble_eq_true rfl⟩) ⟨Nat.le_of_ble_eq_true rfl, Nat.le_of_ble_eq_true rfl⟩ (fun k9 m9 h9 => h9) (fun r_1 m_2 h => ?_)
  obtain ⟨h, hm⟩ := h
  subst hm
  obtain ⟨k_3, h⟩ := h
  rw [rv_nn (a := ad 3) (r := r_1) k_3.1]
  refine q_getN (k := 3) (v := .int (mm.1 3 r_1 3)) X hK rfl rfl (Nat.le_of_ble_eq_true rfl) inTX2 (gc (t := 3) (by decide) k_3) (List.mem_of_getElem? (i := 23) rfl) rfl rfl dX9_valueOf_5 ?_
  exact hE _ _ _ _ _ _ dX9_valueOf_8 (Nat.le_of_ble_eq_true rfl) (Nat.le_of_ble_eq_true rfl) ⟨h, rfl⟩
theorem dX9_chamberOf_0 : decode cX9_chamberOf 0 = .ok (.aload_n 0, 1) := by decide +kernel
theorem dX9_chamberOf_1 : decode cX9_chamberOf 1 = .ok (.iload_n 1, 1) := by decide +kernel
theorem dX9_chamberOf_2 : decode cX9_chamberOf 2 = .ok (.invokevirtual 127, 3) := by decide +kernel
theorem dX9_chamberOf_5 : decode cX9_chamberOf 5 = .ok (.getfield 139, 3) := by decide +kernel
theorem dX9_chamberOf_8 : decode cX9_chamberOf 8 = .ok (.ireturn, 1) := by decide +kernel
def w_X9_chamberOf (p0 : Int32) (mm : Mm) (Q9 : Int32 → Prop) (X9 : Nat → Mm → Prop) : Prop :=
  w_X9_entryNumbered p0 mm (fun (r_1 : Nat) => ok 3 r_1 ∧ (Q9 (mm.1 3 r_1 4))) X9
def rm_X9_chamberOf : Room := { frames := 7, cells := 1, slots := 6, locals := 112 }
theorem hy_X9_chamberOf : yX9_chamberOf.cls = RX9 ∧ yX9_chamberOf.cls ≠ "java/lang/invoke/MethodHandle" ∧ yX9_chamberOf.cls ≠ "java/lang/invoke/VarHandle" ∧ (parseMethodDescriptor yX9_chamberOf.desc).map (fun d => d.parameters.length) = some 1 := by decide +kernel
set_option maxRecDepth 100000 in
set_option maxHeartbeats 4000000 in
theorem c_X9_chamberOf {l : Launch} {D : va_G} {cA : Nat → ClassId} {ad : Nat → Nat → Nat} {A : Nat → Prop} (ax : Ax ad GC A) (hst : l.stackTraces = false) (p0 : Int32) (mm : Mm) (Q9 : Int32 → Prop) (X9 : Nat → Mm → Prop) (h : w_X9_chamberOf p0 mm Q9 X9) : vx_Met l yX9_chamberOf (.code yX9_chamberOf cX9_chamberOf 2 (some .int) :: TG) rm_X9_chamberOf (PcM TT D cA ad false GC (ZC ad A) [.ref (ad 0 1), .int p0] mm) (AnsI TT D cA ad false GC A (fun r mm' => Q9 r ∧ mm = mm')) (AnsX TT D cA ad false GC A X9) 1 6 A := by
  have zo := ZC_ok ad A
  unfold w_X9_chamberOf at h
  refine enterXI pl_X9 rfl (Nat.le_of_ble_eq_true rfl) ?_
  intro p e s m args below meth c QQ X hK hZ hnm hlk htab hQ hE
  refine q_aload_n (j := 0) X dX9_chamberOf_0 rfl rfl ?_
  refine q_iload_n (j := 1) X dX9_chamberOf_1 rfl rfl ?_
  refine q_xcallr hQ hlk htab (q_runxV X hK hZ zo (gc (t := 0) (by decide) (ok1 (t := 0) (Nat.le_of_ble_eq_true rfl))) rfl rfl [.int p0] [] rfl rfl (Nat.le_of_ble_eq_true rfl) dX9_chamberOf_2 ⟨Nat.le_of_ble_eq_true rfl, Nat.le_of_ble_eq_true rfl⟩ (c_X9_entryNumbered ax hst p0 mm _ _ h) rfl rfl (gV kw_4_161 kw_4_163 ks_58 kw_1_1 kw_4_164) hy_X9_entryNumbered ⟨Nat.le_of_ble_eq_true rfl, Nat.le_of_ble_eq_true rfl⟩) ⟨Nat.le_of_ble_eq_true rfl, Nat.le_of_ble_eq_true rfl⟩ (fun k9 m9 h9 => h9) (fun r_1 m_2 h => ?_)
  obtain ⟨h, hm⟩ := h
  subst hm
  obtain ⟨k_3, h⟩ := h
  rw [rv_nn (a := ad 3) (r := r_1) k_3.1]
  refine q_getN (k := 4) (v := .int (mm.1 3 r_1 4)) X hK rfl rfl (Nat.le_of_ble_eq_true rfl) inTX2 (gc (t := 3) (by decide) k_3) (List.mem_of_getElem? (i := 26) rfl) rfl rfl dX9_chamberOf_5 ?_
  exact hE _ _ _ _ _ _ dX9_chamberOf_8 (Nat.le_of_ble_eq_true rfl) (Nat.le_of_ble_eq_true rfl) ⟨h, rfl⟩
theorem dX9_ageOf_0 : decode cX9_ageOf 0 = .ok (.aload_n 0, 1) := by decide +kernel
theorem dX9_ageOf_1 : decode cX9_ageOf 1 = .ok (.getfield 10, 3) := by decide +kernel
theorem dX9_ageOf_4 : decode cX9_ageOf 4 = .ok (.aload_n 0, 1) := by decide +kernel
theorem dX9_ageOf_5 : decode cX9_ageOf 5 = .ok (.iload_n 1, 1) := by decide +kernel
theorem dX9_ageOf_6 : decode cX9_ageOf 6 = .ok (.invokevirtual 127, 3) := by decide +kernel
theorem dX9_ageOf_9 : decode cX9_ageOf 9 = .ok (.invokevirtual 142, 3) := by decide +kernel
theorem dX9_ageOf_12 : decode cX9_ageOf 12 = .ok (.ireturn, 1) := by decide +kernel
def w_X9_ageOf (p0 : Int32) (mm : Mm) (Q9 : Int32 → Prop) (X9 : Nat → Mm → Prop) : Prop :=
  w_X9_entryNumbered p0 mm (fun (r_1 : Nat) => ok 3 r_1 ∧ w_X8_ageNow 1 r_1 mm (fun (r_4 : Int32) => Q9 r_4)) X9
def rm_X9_ageOf : Room := { frames := 7, cells := 1, slots := 6, locals := 112 }
theorem hy_X9_ageOf : yX9_ageOf.cls = RX9 ∧ yX9_ageOf.cls ≠ "java/lang/invoke/MethodHandle" ∧ yX9_ageOf.cls ≠ "java/lang/invoke/VarHandle" ∧ (parseMethodDescriptor yX9_ageOf.desc).map (fun d => d.parameters.length) = some 1 := by decide +kernel
set_option maxRecDepth 100000 in
set_option maxHeartbeats 4000000 in
theorem c_X9_ageOf {l : Launch} {D : va_G} {cA : Nat → ClassId} {ad : Nat → Nat → Nat} {A : Nat → Prop} (ax : Ax ad GC A) (hst : l.stackTraces = false) (p0 : Int32) (mm : Mm) (Q9 : Int32 → Prop) (X9 : Nat → Mm → Prop) (h : w_X9_ageOf p0 mm Q9 X9) : vx_Met l yX9_ageOf (.code yX9_ageOf cX9_ageOf 2 (some .int) :: TG) rm_X9_ageOf (PcM TT D cA ad false GC (ZC ad A) [.ref (ad 0 1), .int p0] mm) (AnsI TT D cA ad false GC A (fun r mm' => Q9 r ∧ mm = mm')) (AnsX TT D cA ad false GC A X9) 1 6 A := by
  have zo := ZC_ok ad A
  unfold w_X9_ageOf at h
  refine enterXI pl_X9 rfl (Nat.le_of_ble_eq_true rfl) ?_
  intro p e s m args below meth c QQ X hK hZ hnm hlk htab hQ hE
  refine q_aload_n (j := 0) X dX9_ageOf_0 rfl rfl ?_
  refine q_get (k := 0) (v := .ref (ad 1 1)) X hK rfl rfl (Nat.le_of_ble_eq_true rfl) inTX9 (gc (t := 0) (by decide) (ok1 (t := 0) (Nat.le_of_ble_eq_true rfl))) kw_2_111 rfl (rv_nn (a := ad 1) (r := 1) (ok1 (t := 1) (Nat.le_of_ble_eq_true rfl)).1) dX9_ageOf_1 ?_
  refine q_aload_n (j := 0) X dX9_ageOf_4 rfl rfl ?_
  refine q_iload_n (j := 1) X dX9_ageOf_5 rfl rfl ?_
  refine q_xcallr hQ hlk htab (q_runxV X hK hZ zo (gc (t := 0) (by decide) (ok1 (t := 0) (Nat.le_of_ble_eq_true rfl))) rfl rfl [.int p0] [.ref (ad 1 1)] rfl rfl (Nat.le_of_ble_eq_true rfl) dX9_ageOf_6 ⟨Nat.le_of_ble_eq_true rfl, Nat.le_of_ble_eq_true rfl⟩ (c_X9_entryNumbered ax hst p0 mm _ _ h) rfl rfl (gV kw_4_161 kw_4_163 ks_58 kw_1_1 kw_4_164) hy_X9_entryNumbered ⟨Nat.le_of_ble_eq_true rfl, Nat.le_of_ble_eq_true rfl⟩) ⟨Nat.le_of_ble_eq_true rfl, Nat.le_of_ble_eq_true rfl⟩ (fun k9 m9 h9 => h9) (fun r_1 m_2 h => ?_)
  obtain ⟨h, hm⟩ := h
  subst hm
  obtain ⟨k_3, h⟩ := h
  rw [rv_nn (a := ad 3) (r := r_1) k_3.1]
  refine q_calli (q_runVN X hK hZ zo (gc (t := 1) (by decide) (ok1 (t := 1) (Nat.le_of_ble_eq_true rfl))) rfl rfl [.ref (ad 3 r_1)] [] rfl rfl (Nat.le_of_ble_eq_true rfl) dX9_ageOf_9 ⟨Nat.le_of_ble_eq_true rfl, Nat.le_of_ble_eq_true rfl⟩ (c_X8_ageNow ax 1 (ok1 (t := 1) (Nat.le_of_ble_eq_true rfl)) r_1 k_3 mm _ h) rfl rfl (List.mem_of_getElem? (i := 70) rfl) kw_1_2 kw_2_182 kw_2_181 ks_6 hy_X8_ageNow.2 ⟨Nat.le_of_ble_eq_true rfl, Nat.le_of_ble_eq_true rfl⟩) (fun r_4 m_5 h => ?_)
  obtain ⟨h, hm⟩ := h
  subst hm
  exact hE _ _ _ _ _ _ dX9_ageOf_12 (Nat.le_of_ble_eq_true rfl) (Nat.le_of_ble_eq_true rfl) ⟨h, rfl⟩
theorem dX9_isProved_0 : decode cX9_isProved 0 = .ok (.aload_n 0, 1) := by decide +kernel
theorem dX9_isProved_1 : decode cX9_isProved 1 = .ok (.iload_n 1, 1) := by decide +kernel
theorem dX9_isProved_2 : decode cX9_isProved 2 = .ok (.invokevirtual 127, 3) := by decide +kernel
theorem dX9_isProved_5 : decode cX9_isProved 5 = .ok (.getfield 146, 3) := by decide +kernel
theorem dX9_isProved_8 : decode cX9_isProved 8 = .ok (.ireturn, 1) := by decide +kernel
def w_X9_isProved (p0 : Int32) (mm : Mm) (Q9 : Int32 → Prop) (X9 : Nat → Mm → Prop) : Prop :=
  w_X9_entryNumbered p0 mm (fun (r_1 : Nat) => ok 3 r_1 ∧ (isB (mm.1 3 r_1 7) ∧ Q9 (mm.1 3 r_1 7))) X9
def rm_X9_isProved : Room := { frames := 7, cells := 1, slots := 6, locals := 112 }
theorem hy_X9_isProved : yX9_isProved.cls = RX9 ∧ yX9_isProved.cls ≠ "java/lang/invoke/MethodHandle" ∧ yX9_isProved.cls ≠ "java/lang/invoke/VarHandle" ∧ (parseMethodDescriptor yX9_isProved.desc).map (fun d => d.parameters.length) = some 1 := by decide +kernel
set_option maxRecDepth 100000 in
set_option maxHeartbeats 4000000 in
theorem c_X9_isProved {l : Launch} {D : va_G} {cA : Nat → ClassId} {ad : Nat → Nat → Nat} {A : Nat → Prop} (ax : Ax ad GC A) (hst : l.stackTraces = false) (p0 : Int32) (mm : Mm) (Q9 : Int32 → Prop) (X9 : Nat → Mm → Prop) (h : w_X9_isProved p0 mm Q9 X9) : vx_Met l yX9_isProved (.code yX9_isProved cX9_isProved 2 (some .boolean) :: TG) rm_X9_isProved (PcM TT D cA ad false GC (ZC ad A) [.ref (ad 0 1), .int p0] mm) (AnsI TT D cA ad false GC A (fun r mm' => Q9 r ∧ mm = mm')) (AnsX TT D cA ad false GC A X9) 1 6 A := by
  have zo := ZC_ok ad A
  unfold w_X9_isProved at h
  refine enterXZ pl_X9 rfl (Nat.le_of_ble_eq_true rfl) ?_
  intro p e s m args below meth c QQ X hK hZ hnm hlk htab hQ hE
  refine q_aload_n (j := 0) X dX9_isProved_0 rfl rfl ?_
  refine q_iload_n (j := 1) X dX9_isProved_1 rfl rfl ?_
  refine q_xcallr hQ hlk htab (q_runxV X hK hZ zo (gc (t := 0) (by decide) (ok1 (t := 0) (Nat.le_of_ble_eq_true rfl))) rfl rfl [.int p0] [] rfl rfl (Nat.le_of_ble_eq_true rfl) dX9_isProved_2 ⟨Nat.le_of_ble_eq_true rfl, Nat.le_of_ble_eq_true rfl⟩ (c_X9_entryNumbered ax hst p0 mm _ _ h) rfl rfl (gV kw_4_161 kw_4_163 ks_58 kw_1_1 kw_4_164) hy_X9_entryNumbered ⟨Nat.le_of_ble_eq_true rfl, Nat.le_of_ble_eq_true rfl⟩) ⟨Nat.le_of_ble_eq_true rfl, Nat.le_of_ble_eq_true rfl⟩ (fun k9 m9 h9 => h9) (fun r_1 m_2 h => ?_)
  obtain ⟨h, hm⟩ := h
  subst hm
  obtain ⟨k_3, h⟩ := h
  rw [rv_nn (a := ad 3) (r := r_1) k_3.1]
  refine q_getN (k := 7) (v := .int (mm.1 3 r_1 7)) X hK rfl rfl (Nat.le_of_ble_eq_true rfl) inTX2 (gc (t := 3) (by decide) k_3) (List.mem_of_getElem? (i := 33) rfl) rfl rfl dX9_isProved_5 ?_
  obtain ⟨b_4, h⟩ := h
  exact hE _ _ _ _ _ _ dX9_isProved_8 (Nat.le_of_ble_eq_true rfl) (Nat.le_of_ble_eq_true rfl) b_4 ⟨h, rfl⟩
theorem dX9_isOverdue_0 : decode cX9_isOverdue 0 = .ok (.aload_n 0, 1) := by decide +kernel
theorem dX9_isOverdue_1 : decode cX9_isOverdue 1 = .ok (.getfield 10, 3) := by decide +kernel
theorem dX9_isOverdue_4 : decode cX9_isOverdue 4 = .ok (.aload_n 0, 1) := by decide +kernel
theorem dX9_isOverdue_5 : decode cX9_isOverdue 5 = .ok (.iload_n 1, 1) := by decide +kernel
theorem dX9_isOverdue_6 : decode cX9_isOverdue 6 = .ok (.invokevirtual 127, 3) := by decide +kernel
theorem dX9_isOverdue_9 : decode cX9_isOverdue 9 = .ok (.invokevirtual 150, 3) := by decide +kernel
theorem dX9_isOverdue_12 : decode cX9_isOverdue 12 = .ok (.ireturn, 1) := by decide +kernel
def w_X9_isOverdue (p0 : Int32) (mm : Mm) (Q9 : Int32 → Prop) (X9 : Nat → Mm → Prop) : Prop :=
  w_X9_entryNumbered p0 mm (fun (r_1 : Nat) => ok 3 r_1 ∧ w_X8_isLate 1 r_1 mm (fun (r_4 : Int32) => isB r_4 ∧ Q9 r_4)) X9
def rm_X9_isOverdue : Room := { frames := 7, cells := 1, slots := 6, locals := 112 }
theorem hy_X9_isOverdue : yX9_isOverdue.cls = RX9 ∧ yX9_isOverdue.cls ≠ "java/lang/invoke/MethodHandle" ∧ yX9_isOverdue.cls ≠ "java/lang/invoke/VarHandle" ∧ (parseMethodDescriptor yX9_isOverdue.desc).map (fun d => d.parameters.length) = some 1 := by decide +kernel
set_option maxRecDepth 100000 in
set_option maxHeartbeats 4000000 in
theorem c_X9_isOverdue {l : Launch} {D : va_G} {cA : Nat → ClassId} {ad : Nat → Nat → Nat} {A : Nat → Prop} (ax : Ax ad GC A) (hst : l.stackTraces = false) (p0 : Int32) (mm : Mm) (Q9 : Int32 → Prop) (X9 : Nat → Mm → Prop) (h : w_X9_isOverdue p0 mm Q9 X9) : vx_Met l yX9_isOverdue (.code yX9_isOverdue cX9_isOverdue 2 (some .boolean) :: TG) rm_X9_isOverdue (PcM TT D cA ad false GC (ZC ad A) [.ref (ad 0 1), .int p0] mm) (AnsI TT D cA ad false GC A (fun r mm' => Q9 r ∧ mm = mm')) (AnsX TT D cA ad false GC A X9) 1 6 A := by
  have zo := ZC_ok ad A
  unfold w_X9_isOverdue at h
  refine enterXZ pl_X9 rfl (Nat.le_of_ble_eq_true rfl) ?_
  intro p e s m args below meth c QQ X hK hZ hnm hlk htab hQ hE
  refine q_aload_n (j := 0) X dX9_isOverdue_0 rfl rfl ?_
  refine q_get (k := 0) (v := .ref (ad 1 1)) X hK rfl rfl (Nat.le_of_ble_eq_true rfl) inTX9 (gc (t := 0) (by decide) (ok1 (t := 0) (Nat.le_of_ble_eq_true rfl))) kw_2_111 rfl (rv_nn (a := ad 1) (r := 1) (ok1 (t := 1) (Nat.le_of_ble_eq_true rfl)).1) dX9_isOverdue_1 ?_
  refine q_aload_n (j := 0) X dX9_isOverdue_4 rfl rfl ?_
  refine q_iload_n (j := 1) X dX9_isOverdue_5 rfl rfl ?_
  refine q_xcallr hQ hlk htab (q_runxV X hK hZ zo (gc (t := 0) (by decide) (ok1 (t := 0) (Nat.le_of_ble_eq_true rfl))) rfl rfl [.int p0] [.ref (ad 1 1)] rfl rfl (Nat.le_of_ble_eq_true rfl) dX9_isOverdue_6 ⟨Nat.le_of_ble_eq_true rfl, Nat.le_of_ble_eq_true rfl⟩ (c_X9_entryNumbered ax hst p0 mm _ _ h) rfl rfl (gV kw_4_161 kw_4_163 ks_58 kw_1_1 kw_4_164) hy_X9_entryNumbered ⟨Nat.le_of_ble_eq_true rfl, Nat.le_of_ble_eq_true rfl⟩) ⟨Nat.le_of_ble_eq_true rfl, Nat.le_of_ble_eq_true rfl⟩ (fun k9 m9 h9 => h9) (fun r_1 m_2 h => ?_)
  obtain ⟨h, hm⟩ := h
  subst hm
  obtain ⟨k_3, h⟩ := h
  rw [rv_nn (a := ad 3) (r := r_1) k_3.1]
  refine q_calli (q_runVN X hK hZ zo (gc (t := 1) (by decide) (ok1 (t := 1) (Nat.le_of_ble_eq_true rfl))) rfl rfl [.ref (ad 3 r_1)] [] rfl rfl (Nat.le_of_ble_eq_true rfl) dX9_isOverdue_9 ⟨Nat.le_of_ble_eq_true rfl, Nat.le_of_ble_eq_true rfl⟩ (c_X8_isLate ax 1 (ok1 (t := 1) (Nat.le_of_ble_eq_true rfl)) r_1 k_3 mm _ h) rfl rfl (List.mem_of_getElem? (i := 104) rfl) kw_1_2 kw_3_164 kw_3_163 ks_30 hy_X8_isLate.2 ⟨Nat.le_of_ble_eq_true rfl, Nat.le_of_ble_eq_true rfl⟩) (fun r_4 m_5 h => ?_)
  obtain ⟨h, hm⟩ := h
  subst hm
  obtain ⟨b_6, h⟩ := h
  exact hE _ _ _ _ _ _ dX9_isOverdue_12 (Nat.le_of_ble_eq_true rfl) (Nat.le_of_ble_eq_true rfl) b_6 ⟨h, rfl⟩
theorem dX9_requireWithin_0 : decode cX9_requireWithin 0 = .ok (.iload_n 0, 1) := by decide +kernel
theorem dX9_requireWithin_1 : decode cX9_requireWithin 1 = .ok (.iload_n 1, 1) := by decide +kernel
theorem dX9_requireWithin_2 : decode cX9_requireWithin 2 = .ok (.iload_n 2, 1) := by decide +kernel
theorem dX9_requireWithin_3 : decode cX9_requireWithin 3 = .ok (.invokestatic 107, 3) := by decide +kernel
theorem dX9_requireWithin_6 : decode cX9_requireWithin 6 = .ok (.ifCond .ne 14, 3) := by decide +kernel
theorem dX9_requireWithin_9 : decode cX9_requireWithin 9 = .ok (.new 279, 3) := by decide +kernel
theorem dX9_requireWithin_12 : decode cX9_requireWithin 12 = .ok (.dup, 1) := by decide +kernel
theorem dX9_requireWithin_13 : decode cX9_requireWithin 13 = .ok (.ldc_w 281, 3) := by decide +kernel
theorem dX9_requireWithin_16 : decode cX9_requireWithin 16 = .ok (.invokespecial 283, 3) := by decide +kernel
theorem dX9_requireWithin_19 : decode cX9_requireWithin 19 = .ok (.athrow, 1) := by decide +kernel
theorem dX9_requireWithin_20 : decode cX9_requireWithin 20 = .ok (.return_, 1) := by decide +kernel
def w_X9_requireWithin (p0 : Int32) (p1 : Int32) (p2 : Int32) (mm : Mm) (Q9 : Prop) (X9 : Nat → Mm → Prop) : Prop :=
  w_X9_isWithin p0 p1 p2 mm (fun (r_1 : Int32) => ((¬ r_1 = 0 → Q9) ∧
  (r_1 = 0 → X9 2 mm)))
def rm_X9_requireWithin : Room := { frames := 6, cells := 1, slots := 6, locals := 90 }
theorem hy_X9_requireWithin : yX9_requireWithin.cls = RX9 ∧ yX9_requireWithin.cls ≠ "java/lang/invoke/MethodHandle" ∧ yX9_requireWithin.cls ≠ "java/lang/invoke/VarHandle" ∧ (parseMethodDescriptor yX9_requireWithin.desc).map (fun d => d.parameters.length) = some 3 := by decide +kernel
set_option maxRecDepth 100000 in
set_option maxHeartbeats 4000000 in
theorem c_X9_requireWithin {l : Launch} {D : va_G} {cA : Nat → ClassId} {ad : Nat → Nat → Nat} {A : Nat → Prop} (ax : Ax ad GC A) (hst : l.stackTraces = false) (p0 : Int32) (p1 : Int32) (p2 : Int32) (mm : Mm) (Q9 : Prop) (X9 : Nat → Mm → Prop) (h : w_X9_requireWithin p0 p1 p2 mm Q9 X9) : vx_Met l yX9_requireWithin (.code yX9_requireWithin cX9_requireWithin 3 none :: TG) rm_X9_requireWithin (PcM TT D cA ad false GC (ZC ad A) [.int p0, .int p1, .int p2] mm) (AnsV TT D cA ad false GC A (fun mm' => Q9 ∧ mm = mm')) (AnsX TT D cA ad false GC A X9) 1 6 A := by
  have zo := ZC_ok ad A
  unfold w_X9_requireWithin at h
  refine enterXV pl_X9 rfl (Nat.le_of_ble_eq_true rfl) ?_
  intro p e s m args below meth c QQ X hK hZ hnm hlk htab hQ hE
  refine q_iload_n (j := 0) X dX9_requireWithin_0 rfl rfl ?_
  refine q_iload_n (j := 1) X dX9_requireWithin_1 rfl rfl ?_
  refine q_iload_n (j := 2) X dX9_requireWithin_2 rfl rfl ?_
  refine q_calli (q_runS X hK hZ zo [.int p0, .int p1, .int p2] [] rfl rfl (Nat.le_of_ble_eq_true rfl) dX9_requireWithin_3 ⟨Nat.le_of_ble_eq_true rfl, Nat.le_of_ble_eq_true rfl⟩ (c_X9_isWithin ax p0 p1 p2 mm _ h) rfl rfl (gS kw_2_156 kw_2_157 kw_1_1 kw_2_158) hy_X9_isWithin.2 ⟨Nat.le_of_ble_eq_true rfl, Nat.le_of_ble_eq_true rfl⟩) (fun r_1 m_2 h => ?_)
  obtain ⟨h, hm⟩ := h
  subst hm
  refine q_if_ne (tgt := 20) X dX9_requireWithin_6 (by decide) (fun c_3 => ?_) (fun c_3 => ?_)
  · have h := h.1 c_3
    exact hE _ _ _ _ _ dX9_requireWithin_20 (Nat.le_of_ble_eq_true rfl) (Nat.le_of_ble_eq_true rfl) ⟨h, rfl⟩
  · have h := h.2 c_3
    exact q_throwSW (k := 2) X hQ hlk htab hst hZ thr_2 (List.mem_of_getElem? (i := 1) rfl) dX9_requireWithin_9 dX9_requireWithin_12 dX9_requireWithin_13 dX9_requireWithin_16 dX9_requireWithin_19 (Nat.le_of_ble_eq_true rfl) (Nat.le_of_ble_eq_true rfl) (Nat.le_of_ble_eq_true rfl) (Nat.le_of_ble_eq_true rfl) (Nat.le_of_ble_eq_true rfl) (Nat.le_of_ble_eq_true rfl) h
theorem dX9_dutyOfPart_0 : decode cX9_dutyOfPart 0 = .ok (.aload_n 0, 1) := by decide +kernel
theorem dX9_dutyOfPart_1 : decode cX9_dutyOfPart 1 = .ok (.iload_n 1, 1) := by decide +kernel
theorem dX9_dutyOfPart_2 : decode cX9_dutyOfPart 2 = .ok (.invokevirtual 127, 3) := by decide +kernel
theorem dX9_dutyOfPart_5 : decode cX9_dutyOfPart 5 = .ok (.astore_n 3, 1) := by decide +kernel
theorem dX9_dutyOfPart_6 : decode cX9_dutyOfPart 6 = .ok (.iload_n 2, 1) := by decide +kernel
theorem dX9_dutyOfPart_7 : decode cX9_dutyOfPart 7 = .ok (.iconst 1, 1) := by decide +kernel
theorem dX9_dutyOfPart_8 : decode cX9_dutyOfPart 8 = .ok (.aload_n 3, 1) := by decide +kernel
theorem dX9_dutyOfPart_9 : decode cX9_dutyOfPart 9 = .ok (.getfield 133, 3) := by decide +kernel
theorem dX9_dutyOfPart_12 : decode cX9_dutyOfPart 12 = .ok (.invokestatic 154, 3) := by decide +kernel
theorem dX9_dutyOfPart_15 : decode cX9_dutyOfPart 15 = .ok (.aload_n 0, 1) := by decide +kernel
theorem dX9_dutyOfPart_16 : decode cX9_dutyOfPart 16 = .ok (.getfield 10, 3) := by decide +kernel
theorem dX9_dutyOfPart_19 : decode cX9_dutyOfPart 19 = .ok (.aload_n 3, 1) := by decide +kernel
theorem dX9_dutyOfPart_20 : decode cX9_dutyOfPart 20 = .ok (.iload_n 2, 1) := by decide +kernel
theorem dX9_dutyOfPart_21 : decode cX9_dutyOfPart 21 = .ok (.invokevirtual 158, 3) := by decide +kernel
theorem dX9_dutyOfPart_24 : decode cX9_dutyOfPart 24 = .ok (.ireturn, 1) := by decide +kernel
def w_X9_dutyOfPart (p0 : Int32) (p1 : Int32) (mm : Mm) (Q9 : Int32 → Prop) (X9 : Nat → Mm → Prop) : Prop :=
  w_X9_entryNumbered p0 mm (fun (r_1 : Nat) => ok 3 r_1 ∧ (w_X9_requireWithin p1 1 (mm.1 3 r_1 2) mm (w_X8_dutyNow 1 r_1 p1 mm (fun (r_6 : Int32) => Q9 r_6)) X9)) X9
def rm_X9_dutyOfPart : Room := { frames := 7, cells := 2, slots := 12, locals := 112 }
theorem hy_X9_dutyOfPart : yX9_dutyOfPart.cls = RX9 ∧ yX9_dutyOfPart.cls ≠ "java/lang/invoke/MethodHandle" ∧ yX9_dutyOfPart.cls ≠ "java/lang/invoke/VarHandle" ∧ (parseMethodDescriptor yX9_dutyOfPart.desc).map (fun d => d.parameters.length) = some 2 := by decide +kernel
set_option maxRecDepth 100000 in
set_option maxHeartbeats 4000000 in
theorem c_X9_dutyOfPart {l : Launch} {D : va_G} {cA : Nat → ClassId} {ad : Nat → Nat → Nat} {A : Nat → Prop} (ax : Ax ad GC A) (hst : l.stackTraces = false) (p0 : Int32) (p1 : Int32) (mm : Mm) (Q9 : Int32 → Prop) (X9 : Nat → Mm → Prop) (h : w_X9_dutyOfPart p0 p1 mm Q9 X9) : vx_Met l yX9_dutyOfPart (.code yX9_dutyOfPart cX9_dutyOfPart 4 (some .int) :: TG) rm_X9_dutyOfPart (PcM TT D cA ad false GC (ZC ad A) [.ref (ad 0 1), .int p0, .int p1] mm) (AnsI TT D cA ad false GC A (fun r mm' => Q9 r ∧ mm = mm')) (AnsX TT D cA ad false GC A X9) 2 12 A := by
  have zo := ZC_ok ad A
  unfold w_X9_dutyOfPart at h
  refine enterXI pl_X9 rfl (Nat.le_of_ble_eq_true rfl) ?_
  intro p e s m args below meth c QQ X hK hZ hnm hlk htab hQ hE
  refine q_aload_n (j := 0) X dX9_dutyOfPart_0 rfl rfl ?_
  refine q_iload_n (j := 1) X dX9_dutyOfPart_1 rfl rfl ?_
  refine q_xcallr hQ hlk htab (q_runxV X hK hZ zo (gc (t := 0) (by decide) (ok1 (t := 0) (Nat.le_of_ble_eq_true rfl))) rfl rfl [.int p0] [] rfl rfl (Nat.le_of_ble_eq_true rfl) dX9_dutyOfPart_2 ⟨Nat.le_of_ble_eq_true rfl, Nat.le_of_ble_eq_true rfl⟩ (c_X9_entryNumbered ax hst p0 mm _ _ h) rfl rfl (gV kw_4_161 kw_4_163 ks_58 kw_1_1 kw_4_164) hy_X9_entryNumbered ⟨Nat.le_of_ble_eq_true rfl, Nat.le_of_ble_eq_true rfl⟩) ⟨Nat.le_of_ble_eq_true rfl, Nat.le_of_ble_eq_true rfl⟩ (fun k9 m9 h9 => h9) (fun r_1 m_2 h => ?_)
  obtain ⟨h, hm⟩ := h
  subst hm
  refine q_vstore_n (lv' := [(3, rv (ad 3) r_1), (0, .ref (ad 0 1)), (1, .int p0), (2, .int p1)]) X dX9_dutyOfPart_5 rfl (by decide) rfl ?_
  refine q_iload_n (j := 3) X dX9_dutyOfPart_6 rfl rfl ?_
  refine q_iconst (v := 1) X dX9_dutyOfPart_7 (by decide) ?_
  refine q_vload_n (j := 0) X dX9_dutyOfPart_8 rfl rfl ?_
  obtain ⟨k_3, h⟩ := h
  rw [rv_nn (a := ad 3) (r := r_1) k_3.1]
  refine q_getN (k := 2) (v := .int (mm.1 3 r_1 2)) X hK rfl rfl (Nat.le_of_ble_eq_true rfl) inTX2 (gc (t := 3) (by decide) k_3) (List.mem_of_getElem? (i := 20) rfl) rfl rfl dX9_dutyOfPart_9 ?_
  refine q_xcallv hQ hlk htab (q_runxS X hK hZ zo [.int p1, .int 1, .int (mm.1 3 r_1 2)] [] rfl rfl (Nat.le_of_ble_eq_true rfl) dX9_dutyOfPart_12 ⟨Nat.le_of_ble_eq_true rfl, Nat.le_of_ble_eq_true rfl⟩ (c_X9_requireWithin ax hst p1 1 (mm.1 3 r_1 2) mm _ _ h) rfl rfl (gS kw_4_203 kw_4_204 kw_1_1 kw_4_205) hy_X9_requireWithin.2 ⟨Nat.le_of_ble_eq_true rfl, Nat.le_of_ble_eq_true rfl⟩) ⟨Nat.le_of_ble_eq_true rfl, Nat.le_of_ble_eq_true rfl⟩ (fun k9 m9 h9 => h9) (fun m_5 h => ?_)
  obtain ⟨h, hm⟩ := h
  subst hm
  refine q_aload_n (j := 1) X dX9_dutyOfPart_15 rfl rfl ?_
  refine q_get (k := 0) (v := .ref (ad 1 1)) X hK rfl rfl (Nat.le_of_ble_eq_true rfl) inTX9 (gc (t := 0) (by decide) (ok1 (t := 0) (Nat.le_of_ble_eq_true rfl))) kw_2_111 rfl (rv_nn (a := ad 1) (r := 1) (ok1 (t := 1) (Nat.le_of_ble_eq_true rfl)).1) dX9_dutyOfPart_16 ?_
  refine q_aload_n (j := 0) X dX9_dutyOfPart_19 rfl rfl ?_
  refine q_iload_n (j := 3) X dX9_dutyOfPart_20 rfl rfl ?_
  refine q_calli (q_runVN X hK hZ zo (gc (t := 1) (by decide) (ok1 (t := 1) (Nat.le_of_ble_eq_true rfl))) rfl rfl [.ref (ad 3 r_1), .int p1] [] rfl rfl (Nat.le_of_ble_eq_true rfl) dX9_dutyOfPart_21 ⟨Nat.le_of_ble_eq_true rfl, Nat.le_of_ble_eq_true rfl⟩ (c_X8_dutyNow ax 1 (ok1 (t := 1) (Nat.le_of_ble_eq_true rfl)) r_1 k_3 p1 mm _ h) rfl rfl (List.mem_of_getElem? (i := 71) rfl) kw_1_2 kw_3_119 kw_3_118 ks_22 hy_X8_dutyNow.2 ⟨Nat.le_of_ble_eq_true rfl, Nat.le_of_ble_eq_true rfl⟩) (fun r_6 m_7 h => ?_)
  obtain ⟨h, hm⟩ := h
  subst hm
  exact hE _ _ _ _ _ _ dX9_dutyOfPart_24 (Nat.le_of_ble_eq_true rfl) (Nat.le_of_ble_eq_true rfl) ⟨h, rfl⟩
theorem dX9_dutyOf_0 : decode cX9_dutyOf 0 = .ok (.aload_n 0, 1) := by decide +kernel
theorem dX9_dutyOf_1 : decode cX9_dutyOf 1 = .ok (.iload_n 1, 1) := by decide +kernel
theorem dX9_dutyOf_2 : decode cX9_dutyOf 2 = .ok (.invokevirtual 127, 3) := by decide +kernel
theorem dX9_dutyOf_5 : decode cX9_dutyOf 5 = .ok (.astore_n 2, 1) := by decide +kernel
theorem dX9_dutyOf_6 : decode cX9_dutyOf 6 = .ok (.aload_n 0, 1) := by decide +kernel
theorem dX9_dutyOf_7 : decode cX9_dutyOf 7 = .ok (.getfield 10, 3) := by decide +kernel
theorem dX9_dutyOf_10 : decode cX9_dutyOf 10 = .ok (.aload_n 2, 1) := by decide +kernel
theorem dX9_dutyOf_11 : decode cX9_dutyOf 11 = .ok (.aload_n 0, 1) := by decide +kernel
theorem dX9_dutyOf_12 : decode cX9_dutyOf 12 = .ok (.getfield 10, 3) := by decide +kernel
theorem dX9_dutyOf_15 : decode cX9_dutyOf 15 = .ok (.aload_n 2, 1) := by decide +kernel
theorem dX9_dutyOf_16 : decode cX9_dutyOf 16 = .ok (.invokevirtual 142, 3) := by decide +kernel
theorem dX9_dutyOf_19 : decode cX9_dutyOf 19 = .ok (.invokevirtual 162, 3) := by decide +kernel
theorem dX9_dutyOf_22 : decode cX9_dutyOf 22 = .ok (.ireturn, 1) := by decide +kernel
def w_X9_dutyOf (p0 : Int32) (mm : Mm) (Q9 : Int32 → Prop) (X9 : Nat → Mm → Prop) : Prop :=
  w_X9_entryNumbered p0 mm (fun (r_1 : Nat) => ok 3 r_1 ∧ w_X8_ageNow 1 r_1 mm (fun (r_4 : Int32) => w_X8_wholeDuty 1 r_1 r_4 mm (fun (r_6 : Int32) => Q9 r_6))) X9
def rm_X9_dutyOf : Room := { frames := 7, cells := 1, slots := 6, locals := 112 }
theorem hy_X9_dutyOf : yX9_dutyOf.cls = RX9 ∧ yX9_dutyOf.cls ≠ "java/lang/invoke/MethodHandle" ∧ yX9_dutyOf.cls ≠ "java/lang/invoke/VarHandle" ∧ (parseMethodDescriptor yX9_dutyOf.desc).map (fun d => d.parameters.length) = some 1 := by decide +kernel
set_option maxRecDepth 100000 in
set_option maxHeartbeats 4000000 in
theorem c_X9_dutyOf {l : Launch} {D : va_G} {cA : Nat → ClassId} {ad : Nat → Nat → Nat} {A : Nat → Prop} (ax : Ax ad GC A) (hst : l.stackTraces = false) (p0 : Int32) (mm : Mm) (Q9 : Int32 → Prop) (X9 : Nat → Mm → Prop) (h : w_X9_dutyOf p0 mm Q9 X9) : vx_Met l yX9_dutyOf (.code yX9_dutyOf cX9_dutyOf 3 (some .int) :: TG) rm_X9_dutyOf (PcM TT D cA ad false GC (ZC ad A) [.ref (ad 0 1), .int p0] mm) (AnsI TT D cA ad false GC A (fun r mm' => Q9 r ∧ mm = mm')) (AnsX TT D cA ad false GC A X9) 1 6 A := by
  have zo := ZC_ok ad A
  unfold w_X9_dutyOf at h
  refine enterXI pl_X9 rfl (Nat.le_of_ble_eq_true rfl) ?_
  intro p e s m args below meth c QQ X hK hZ hnm hlk htab hQ hE
  refine q_aload_n (j := 0) X dX9_dutyOf_0 rfl rfl ?_
  refine q_iload_n (j := 1) X dX9_dutyOf_1 rfl rfl ?_
  refine q_xcallr hQ hlk htab (q_runxV X hK hZ zo (gc (t := 0) (by decide) (ok1 (t := 0) (Nat.le_of_ble_eq_true rfl))) rfl rfl [.int p0] [] rfl rfl (Nat.le_of_ble_eq_true rfl) dX9_dutyOf_2 ⟨Nat.le_of_ble_eq_true rfl, Nat.le_of_ble_eq_true rfl⟩ (c_X9_entryNumbered ax hst p0 mm _ _ h) rfl rfl (gV kw_4_161 kw_4_163 ks_58 kw_1_1 kw_4_164) hy_X9_entryNumbered ⟨Nat.le_of_ble_eq_true rfl, Nat.le_of_ble_eq_true rfl⟩) ⟨Nat.le_of_ble_eq_true rfl, Nat.le_of_ble_eq_true rfl⟩ (fun k9 m9 h9 => h9) (fun r_1 m_2 h => ?_)
  obtain ⟨h, hm⟩ := h
  subst hm
  refine q_vstore_n (lv' := [(2, rv (ad 3) r_1), (0, .ref (ad 0 1)), (1, .int p0)]) X dX9_dutyOf_5 rfl (by decide) rfl ?_
  refine q_aload_n (j := 1) X dX9_dutyOf_6 rfl rfl ?_
  refine q_get (k := 0) (v := .ref (ad 1 1)) X hK rfl rfl (Nat.le_of_ble_eq_true rfl) inTX9 (gc (t := 0) (by decide) (ok1 (t := 0) (Nat.le_of_ble_eq_true rfl))) kw_2_111 rfl (rv_nn (a := ad 1) (r := 1) (ok1 (t := 1) (Nat.le_of_ble_eq_true rfl)).1) dX9_dutyOf_7 ?_
  refine q_vload_n (j := 0) X dX9_dutyOf_10 rfl rfl ?_
  refine q_aload_n (j := 1) X dX9_dutyOf_11 rfl rfl ?_
  refine q_get (k := 0) (v := .ref (ad 1 1)) X hK rfl rfl (Nat.le_of_ble_eq_true rfl) inTX9 (gc (t := 0) (by decide) (ok1 (t := 0) (Nat.le_of_ble_eq_true rfl))) kw_2_111 rfl (rv_nn (a := ad 1) (r := 1) (ok1 (t := 1) (Nat.le_of_ble_eq_true rfl)).1) dX9_dutyOf_12 ?_
  refine q_vload_n (j := 0) X dX9_dutyOf_15 rfl rfl ?_
  obtain ⟨k_3, h⟩ := h
  rw [rv_nn (a := ad 3) (r := r_1) k_3.1]
  refine q_calli (q_runVN X hK hZ zo (gc (t := 1) (by decide) (ok1 (t := 1) (Nat.le_of_ble_eq_true rfl))) rfl rfl [.ref (ad 3 r_1)] [.ref (ad 3 r_1), .ref (ad 1 1)] rfl rfl (Nat.le_of_ble_eq_true rfl) dX9_dutyOf_16 ⟨Nat.le_of_ble_eq_true rfl, Nat.le_of_ble_eq_true rfl⟩ (c_X8_ageNow ax 1 (ok1 (t := 1) (Nat.le_of_ble_eq_true rfl)) r_1 k_3 mm _ h) rfl rfl (List.mem_of_getElem? (i := 70) rfl) kw_1_2 kw_2_182 kw_2_181 ks_6 hy_X8_ageNow.2 ⟨Nat.le_of_ble_eq_true rfl, Nat.le_of_ble_eq_true rfl⟩) (fun r_4 m_5 h => ?_)
  obtain ⟨h, hm⟩ := h
  subst hm
  refine q_calli (q_runVN X hK hZ zo (gc (t := 1) (by decide) (ok1 (t := 1) (Nat.le_of_ble_eq_true rfl))) rfl rfl [.ref (ad 3 r_1), .int r_4] [] rfl rfl (Nat.le_of_ble_eq_true rfl) dX9_dutyOf_19 ⟨Nat.le_of_ble_eq_true rfl, Nat.le_of_ble_eq_true rfl⟩ (c_X8_wholeDuty ax 1 (ok1 (t := 1) (Nat.le_of_ble_eq_true rfl)) r_1 k_3 r_4 mm _ h) rfl rfl (List.mem_of_getElem? (i := 72) rfl) kw_1_2 kw_2_186 kw_2_185 ks_7 hy_X8_wholeDuty.2 ⟨Nat.le_of_ble_eq_true rfl, Nat.le_of_ble_eq_true rfl⟩) (fun r_6 m_7 h => ?_)
  obtain ⟨h, hm⟩ := h
  subst hm
  exact hE _ _ _ _ _ _ dX9_dutyOf_22 (Nat.le_of_ble_eq_true rfl) (Nat.le_of_ble_eq_true rfl) ⟨h, rfl⟩
theorem dX9_allowedWaste_0 : decode cX9_allowedWaste 0 = .ok (.aload_n 0, 1) := by decide +kernel
theorem dX9_allowedWaste_1 : decode cX9_allowedWaste 1 = .ok (.getfield 10, 3) := by decide +kernel
theorem dX9_allowedWaste_4 : decode cX9_allowedWaste 4 = .ok (.aload_n 0, 1) := by decide +kernel
theorem dX9_allowedWaste_5 : decode cX9_allowedWaste 5 = .ok (.iload_n 1, 1) := by decide +kernel
theorem dX9_allowedWaste_6 : decode cX9_allowedWaste 6 = .ok (.invokevirtual 127, 3) := by decide +kernel
theorem dX9_allowedWaste_9 : decode cX9_allowedWaste 9 = .ok (.invokevirtual 165, 3) := by decide +kernel
theorem dX9_allowedWaste_12 : decode cX9_allowedWaste 12 = .ok (.ireturn, 1) := by decide +kernel
def w_X9_allowedWaste (p0 : Int32) (mm : Mm) (Q9 : Int32 → Prop) (X9 : Nat → Mm → Prop) : Prop :=
  w_X9_entryNumbered p0 mm (fun (r_1 : Nat) => ok 3 r_1 ∧ w_X8_wasteAllowedNow 1 r_1 mm (fun (r_4 : Int32) => Q9 r_4)) X9
def rm_X9_allowedWaste : Room := { frames := 7, cells := 1, slots := 6, locals := 112 }
theorem hy_X9_allowedWaste : yX9_allowedWaste.cls = RX9 ∧ yX9_allowedWaste.cls ≠ "java/lang/invoke/MethodHandle" ∧ yX9_allowedWaste.cls ≠ "java/lang/invoke/VarHandle" ∧ (parseMethodDescriptor yX9_allowedWaste.desc).map (fun d => d.parameters.length) = some 1 := by decide +kernel
set_option maxRecDepth 100000 in
set_option maxHeartbeats 4000000 in
theorem c_X9_allowedWaste {l : Launch} {D : va_G} {cA : Nat → ClassId} {ad : Nat → Nat → Nat} {A : Nat → Prop} (ax : Ax ad GC A) (hst : l.stackTraces = false) (p0 : Int32) (mm : Mm) (Q9 : Int32 → Prop) (X9 : Nat → Mm → Prop) (h : w_X9_allowedWaste p0 mm Q9 X9) : vx_Met l yX9_allowedWaste (.code yX9_allowedWaste cX9_allowedWaste 2 (some .int) :: TG) rm_X9_allowedWaste (PcM TT D cA ad false GC (ZC ad A) [.ref (ad 0 1), .int p0] mm) (AnsI TT D cA ad false GC A (fun r mm' => Q9 r ∧ mm = mm')) (AnsX TT D cA ad false GC A X9) 1 6 A := by
  have zo := ZC_ok ad A
  unfold w_X9_allowedWaste at h
  refine enterXI pl_X9 rfl (Nat.le_of_ble_eq_true rfl) ?_
  intro p e s m args below meth c QQ X hK hZ hnm hlk htab hQ hE
  refine q_aload_n (j := 0) X dX9_allowedWaste_0 rfl rfl ?_
  refine q_get (k := 0) (v := .ref (ad 1 1)) X hK rfl rfl (Nat.le_of_ble_eq_true rfl) inTX9 (gc (t := 0) (by decide) (ok1 (t := 0) (Nat.le_of_ble_eq_true rfl))) kw_2_111 rfl (rv_nn (a := ad 1) (r := 1) (ok1 (t := 1) (Nat.le_of_ble_eq_true rfl)).1) dX9_allowedWaste_1 ?_
  refine q_aload_n (j := 0) X dX9_allowedWaste_4 rfl rfl ?_
  refine q_iload_n (j := 1) X dX9_allowedWaste_5 rfl rfl ?_
  refine q_xcallr hQ hlk htab (q_runxV X hK hZ zo (gc (t := 0) (by decide) (ok1 (t := 0) (Nat.le_of_ble_eq_true rfl))) rfl rfl [.int p0] [.ref (ad 1 1)] rfl rfl (Nat.le_of_ble_eq_true rfl) dX9_allowedWaste_6 ⟨Nat.le_of_ble_eq_true rfl, Nat.le_of_ble_eq_true rfl⟩ (c_X9_entryNumbered ax hst p0 mm _ _ h) rfl rfl (gV kw_4_161 kw_4_163 ks_58 kw_1_1 kw_4_164) hy_X9_entryNumbered ⟨Nat.le_of_ble_eq_true rfl, Nat.le_of_ble_eq_true rfl⟩) ⟨Nat.le_of_ble_eq_true rfl, Nat.le_of_ble_eq_true rfl⟩ (fun k9 m9 h9 => h9) (fun r_1 m_2 h => ?_)
  obtain ⟨h, hm⟩ := h
  subst hm
  obtain ⟨k_3, h⟩ := h
  rw [rv_nn (a := ad 3) (r := r_1) k_3.1]
  refine q_calli (q_runVN X hK hZ zo (gc (t := 1) (by decide) (ok1 (t := 1) (Nat.le_of_ble_eq_true rfl))) rfl rfl [.ref (ad 3 r_1)] [] rfl rfl (Nat.le_of_ble_eq_true rfl) dX9_allowedWaste_9 ⟨Nat.le_of_ble_eq_true rfl, Nat.le_of_ble_eq_true rfl⟩ (c_X8_wasteAllowedNow ax 1 (ok1 (t := 1) (Nat.le_of_ble_eq_true rfl)) r_1 k_3 mm _ h) rfl rfl (List.mem_of_getElem? (i := 73) rfl) kw_1_2 kw_4_28 kw_4_27 ks_44 hy_X8_wasteAllowedNow.2 ⟨Nat.le_of_ble_eq_true rfl, Nat.le_of_ble_eq_true rfl⟩) (fun r_4 m_5 h => ?_)
  obtain ⟨h, hm⟩ := h
  subst hm
  exact hE _ _ _ _ _ _ dX9_allowedWaste_12 (Nat.le_of_ble_eq_true rfl) (Nat.le_of_ble_eq_true rfl) ⟨h, rfl⟩
theorem dX9_requireChamber_0 : decode cX9_requireChamber 0 = .ok (.iload_n 0, 1) := by decide +kernel
theorem dX9_requireChamber_1 : decode cX9_requireChamber 1 = .ok (.iconst 0, 1) := by decide +kernel
theorem dX9_requireChamber_2 : decode cX9_requireChamber 2 = .ok (.iconst 4, 1) := by decide +kernel
theorem dX9_requireChamber_3 : decode cX9_requireChamber 3 = .ok (.invokestatic 107, 3) := by decide +kernel
theorem dX9_requireChamber_6 : decode cX9_requireChamber 6 = .ok (.ifCond .ne 14, 3) := by decide +kernel
theorem dX9_requireChamber_9 : decode cX9_requireChamber 9 = .ok (.new 111, 3) := by decide +kernel
theorem dX9_requireChamber_12 : decode cX9_requireChamber 12 = .ok (.dup, 1) := by decide +kernel
theorem dX9_requireChamber_13 : decode cX9_requireChamber 13 = .ok (.ldc_w 420, 3) := by decide +kernel
theorem dX9_requireChamber_16 : decode cX9_requireChamber 16 = .ok (.invokespecial 115, 3) := by decide +kernel
theorem dX9_requireChamber_19 : decode cX9_requireChamber 19 = .ok (.athrow, 1) := by decide +kernel
theorem dX9_requireChamber_20 : decode cX9_requireChamber 20 = .ok (.return_, 1) := by decide +kernel
def w_X9_requireChamber (p0 : Int32) (mm : Mm) (Q9 : Prop) (X9 : Nat → Mm → Prop) : Prop :=
  w_X9_isWithin p0 0 4 mm (fun (r_1 : Int32) => ((¬ r_1 = 0 → Q9) ∧
  (r_1 = 0 → X9 1 mm)))
def rm_X9_requireChamber : Room := { frames := 6, cells := 1, slots := 6, locals := 90 }
theorem hy_X9_requireChamber : yX9_requireChamber.cls = RX9 ∧ yX9_requireChamber.cls ≠ "java/lang/invoke/MethodHandle" ∧ yX9_requireChamber.cls ≠ "java/lang/invoke/VarHandle" ∧ (parseMethodDescriptor yX9_requireChamber.desc).map (fun d => d.parameters.length) = some 1 := by decide +kernel
set_option maxRecDepth 100000 in
set_option maxHeartbeats 4000000 in
theorem c_X9_requireChamber {l : Launch} {D : va_G} {cA : Nat → ClassId} {ad : Nat → Nat → Nat} {A : Nat → Prop} (ax : Ax ad GC A) (hst : l.stackTraces = false) (p0 : Int32) (mm : Mm) (Q9 : Prop) (X9 : Nat → Mm → Prop) (h : w_X9_requireChamber p0 mm Q9 X9) : vx_Met l yX9_requireChamber (.code yX9_requireChamber cX9_requireChamber 1 none :: TG) rm_X9_requireChamber (PcM TT D cA ad false GC (ZC ad A) [.int p0] mm) (AnsV TT D cA ad false GC A (fun mm' => Q9 ∧ mm = mm')) (AnsX TT D cA ad false GC A X9) 1 6 A := by
  have zo := ZC_ok ad A
  unfold w_X9_requireChamber at h
  refine enterXV pl_X9 rfl (Nat.le_of_ble_eq_true rfl) ?_
  intro p e s m args below meth c QQ X hK hZ hnm hlk htab hQ hE
  refine q_iload_n (j := 0) X dX9_requireChamber_0 rfl rfl ?_
  refine q_iconst (v := 0) X dX9_requireChamber_1 (by decide) ?_
  refine q_iconst (v := 4) X dX9_requireChamber_2 (by decide) ?_
  refine q_calli (q_runS X hK hZ zo [.int p0, .int 0, .int 4] [] rfl rfl (Nat.le_of_ble_eq_true rfl) dX9_requireChamber_3 ⟨Nat.le_of_ble_eq_true rfl, Nat.le_of_ble_eq_true rfl⟩ (c_X9_isWithin ax p0 0 4 mm _ h) rfl rfl (gS kw_2_156 kw_2_157 kw_1_1 kw_2_158) hy_X9_isWithin.2 ⟨Nat.le_of_ble_eq_true rfl, Nat.le_of_ble_eq_true rfl⟩) (fun r_1 m_2 h => ?_)
  obtain ⟨h, hm⟩ := h
  subst hm
  refine q_if_ne (tgt := 20) X dX9_requireChamber_6 (by decide) (fun c_3 => ?_) (fun c_3 => ?_)
  · have h := h.1 c_3
    exact hE _ _ _ _ _ dX9_requireChamber_20 (Nat.le_of_ble_eq_true rfl) (Nat.le_of_ble_eq_true rfl) ⟨h, rfl⟩
  · have h := h.2 c_3
    exact q_throwSW (k := 1) X hQ hlk htab hst hZ thr_1 (List.mem_of_getElem? (i := 8) rfl) dX9_requireChamber_9 dX9_requireChamber_12 dX9_requireChamber_13 dX9_requireChamber_16 dX9_requireChamber_19 (Nat.le_of_ble_eq_true rfl) (Nat.le_of_ble_eq_true rfl) (Nat.le_of_ble_eq_true rfl) (Nat.le_of_ble_eq_true rfl) (Nat.le_of_ble_eq_true rfl) (Nat.le_of_ble_eq_true rfl) h
theorem dX9_chamberNumbered_0 : decode cX9_chamberNumbered 0 = .ok (.iload_n 1, 1) := by decide +kernel
theorem dX9_chamberNumbered_1 : decode cX9_chamberNumbered 1 = .ok (.invokestatic 188, 3) := by decide +kernel
theorem dX9_chamberNumbered_4 : decode cX9_chamberNumbered 4 = .ok (.aload_n 0, 1) := by decide +kernel
theorem dX9_chamberNumbered_5 : decode cX9_chamberNumbered 5 = .ok (.getfield 10, 3) := by decide +kernel
theorem dX9_chamberNumbered_8 : decode cX9_chamberNumbered 8 = .ok (.getfield 431, 3) := by decide +kernel
theorem dX9_chamberNumbered_11 : decode cX9_chamberNumbered 11 = .ok (.iload_n 1, 1) := by decide +kernel
theorem dX9_chamberNumbered_12 : decode cX9_chamberNumbered 12 = .ok (.aaload, 1) := by decide +kernel
theorem dX9_chamberNumbered_13 : decode cX9_chamberNumbered 13 = .ok (.areturn, 1) := by decide +kernel
def w_X9_chamberNumbered (p0 : Int32) (mm : Mm) (Q9 : Nat → Prop) (X9 : Nat → Mm → Prop) : Prop :=
  w_X9_requireChamber p0 mm (vp_in p0 5 ∧ (Q9 (5 * (1 - 1) + p0.toNatClampNeg + 1))) X9
def rm_X9_chamberNumbered : Room := { frames := 7, cells := 1, slots := 6, locals := 110 }
theorem hy_X9_chamberNumbered : yX9_chamberNumbered.cls = RX9 ∧ yX9_chamberNumbered.cls ≠ "java/lang/invoke/MethodHandle" ∧ yX9_chamberNumbered.cls ≠ "java/lang/invoke/VarHandle" ∧ (parseMethodDescriptor yX9_chamberNumbered.desc).map (fun d => d.parameters.length) = some 1 := by decide +kernel
set_option maxRecDepth 100000 in
set_option maxHeartbeats 4000000 in
theorem c_X9_chamberNumbered {l : Launch} {D : va_G} {cA : Nat → ClassId} {ad : Nat → Nat → Nat} {A : Nat → Prop} (ax : Ax ad GC A) (hst : l.stackTraces = false) (p0 : Int32) (mm : Mm) (Q9 : Nat → Prop) (X9 : Nat → Mm → Prop) (h : w_X9_chamberNumbered p0 mm Q9 X9) : vx_Met l yX9_chamberNumbered (.code yX9_chamberNumbered cX9_chamberNumbered 2 (some (.object "BondWarehouse$Chamber")) :: TG) rm_X9_chamberNumbered (PcM TT D cA ad false GC (ZC ad A) [.ref (ad 0 1), .int p0] mm) (AnsQ TT D cA ad false GC 5 A (fun r mm' => Q9 r ∧ mm = mm')) (AnsX TT D cA ad false GC A X9) 1 6 A := by
  have zo := ZC_ok ad A
  unfold w_X9_chamberNumbered at h
  refine enterXR (Or.inl ⟨_, rfl⟩) pl_X9 rfl (Nat.le_of_ble_eq_true rfl) ?_
  intro p e s m args below meth c QQ X hK hZ hnm hlk htab hQ hE
  refine q_iload_n (j := 1) X dX9_chamberNumbered_0 rfl rfl ?_
  refine q_xcallv hQ hlk htab (q_runxS X hK hZ zo [.int p0] [] rfl rfl (Nat.le_of_ble_eq_true rfl) dX9_chamberNumbered_1 ⟨Nat.le_of_ble_eq_true rfl, Nat.le_of_ble_eq_true rfl⟩ (c_X9_requireChamber ax hst p0 mm _ _ h) rfl rfl (gS kw_4_234 kw_4_235 kw_1_1 kw_4_236) hy_X9_requireChamber.2 ⟨Nat.le_of_ble_eq_true rfl, Nat.le_of_ble_eq_true rfl⟩) ⟨Nat.le_of_ble_eq_true rfl, Nat.le_of_ble_eq_true rfl⟩ (fun k9 m9 h9 => h9) (fun m_2 h => ?_)
  obtain ⟨h, hm⟩ := h
  subst hm
  refine q_aload_n (j := 0) X dX9_chamberNumbered_4 rfl rfl ?_
  refine q_get (k := 0) (v := .ref (ad 1 1)) X hK rfl rfl (Nat.le_of_ble_eq_true rfl) inTX9 (gc (t := 0) (by decide) (ok1 (t := 0) (Nat.le_of_ble_eq_true rfl))) kw_2_111 rfl (rv_nn (a := ad 1) (r := 1) (ok1 (t := 1) (Nat.le_of_ble_eq_true rfl)).1) dX9_chamberNumbered_5 ?_
  refine q_getN (k := 8) (v := .ref (ad 9 1)) X hK rfl rfl (Nat.le_of_ble_eq_true rfl) inTX8 (gc (t := 1) (by decide) (ok1 (t := 1) (Nat.le_of_ble_eq_true rfl))) (List.mem_of_getElem? (i := 78) rfl) rfl (rv_nn (a := ad 9) (r := 1) (ok1 (t := 9) (Nat.le_of_ble_eq_true rfl)).1) dX9_chamberNumbered_8 ?_
  refine q_iload_n (j := 1) X dX9_chamberNumbered_11 rfl rfl ?_
  obtain ⟨b_3, h⟩ := h
  refine q_aald (t := 9) (i := 1) (jn := p0.toNatClampNeg) (v := .ref (ad 5 (5 * (1 - 1) + p0.toNatClampNeg + 1))) X hK rfl rfl (gc (t := 9) (by decide) (ok1 (t := 9) (Nat.le_of_ble_eq_true rfl))) rfl b_3 rfl (rv_nn (a := ad 5) (r := (5 * (1 - 1) + p0.toNatClampNeg + 1)) (ok_ch (ok1 (t := 9) (Nat.le_of_ble_eq_true rfl)) b_3).1) dX9_chamberNumbered_12 ?_
  rw [← rv_nn (a := ad 5) (r := (5 * (1 - 1) + p0.toNatClampNeg + 1)) (ok_ch (ok1 (t := 9) (Nat.le_of_ble_eq_true rfl)) b_3).1]
  exact hE _ _ _ _ (5 * (1 - 1) + p0.toNatClampNeg + 1) _ dX9_chamberNumbered_13 (Nat.le_of_ble_eq_true rfl) (Nat.le_of_ble_eq_true rfl) ⟨h, rfl⟩
theorem dX9_isLocked_0 : decode cX9_isLocked 0 = .ok (.aload_n 0, 1) := by decide +kernel
theorem dX9_isLocked_1 : decode cX9_isLocked 1 = .ok (.iload_n 1, 1) := by decide +kernel
theorem dX9_isLocked_2 : decode cX9_isLocked 2 = .ok (.invokevirtual 172, 3) := by decide +kernel
theorem dX9_isLocked_5 : decode cX9_isLocked 5 = .ok (.invokevirtual 176, 3) := by decide +kernel
theorem dX9_isLocked_8 : decode cX9_isLocked 8 = .ok (.ireturn, 1) := by decide +kernel
def w_X9_isLocked (p0 : Int32) (mm : Mm) (Q9 : Int32 → Prop) (X9 : Nat → Mm → Prop) : Prop :=
  w_X9_chamberNumbered p0 mm (fun (r_1 : Nat) => ok 5 r_1 ∧ w_X0_isSealed r_1 mm (fun (r_4 : Int32) => isB r_4 ∧ Q9 r_4)) X9
def rm_X9_isLocked : Room := { frames := 8, cells := 1, slots := 6, locals := 131 }
theorem hy_X9_isLocked : yX9_isLocked.cls = RX9 ∧ yX9_isLocked.cls ≠ "java/lang/invoke/MethodHandle" ∧ yX9_isLocked.cls ≠ "java/lang/invoke/VarHandle" ∧ (parseMethodDescriptor yX9_isLocked.desc).map (fun d => d.parameters.length) = some 1 := by decide +kernel
set_option maxRecDepth 100000 in
set_option maxHeartbeats 4000000 in
theorem c_X9_isLocked {l : Launch} {D : va_G} {cA : Nat → ClassId} {ad : Nat → Nat → Nat} {A : Nat → Prop} (ax : Ax ad GC A) (hst : l.stackTraces = false) (p0 : Int32) (mm : Mm) (Q9 : Int32 → Prop) (X9 : Nat → Mm → Prop) (h : w_X9_isLocked p0 mm Q9 X9) : vx_Met l yX9_isLocked (.code yX9_isLocked cX9_isLocked 2 (some .boolean) :: TG) rm_X9_isLocked (PcM TT D cA ad false GC (ZC ad A) [.ref (ad 0 1), .int p0] mm) (AnsI TT D cA ad false GC A (fun r mm' => Q9 r ∧ mm = mm')) (AnsX TT D cA ad false GC A X9) 1 6 A := by
  have zo := ZC_ok ad A
  unfold w_X9_isLocked at h
  refine enterXZ pl_X9 rfl (Nat.le_of_ble_eq_true rfl) ?_
  intro p e s m args below meth c QQ X hK hZ hnm hlk htab hQ hE
  refine q_aload_n (j := 0) X dX9_isLocked_0 rfl rfl ?_
  refine q_iload_n (j := 1) X dX9_isLocked_1 rfl rfl ?_
  refine q_xcallr hQ hlk htab (q_runxV X hK hZ zo (gc (t := 0) (by decide) (ok1 (t := 0) (Nat.le_of_ble_eq_true rfl))) rfl rfl [.int p0] [] rfl rfl (Nat.le_of_ble_eq_true rfl) dX9_isLocked_2 ⟨Nat.le_of_ble_eq_true rfl, Nat.le_of_ble_eq_true rfl⟩ (c_X9_chamberNumbered ax hst p0 mm _ _ h) rfl rfl (gV kw_4_230 kw_4_232 ks_59 kw_1_1 kw_4_233) hy_X9_chamberNumbered ⟨Nat.le_of_ble_eq_true rfl, Nat.le_of_ble_eq_true rfl⟩) ⟨Nat.le_of_ble_eq_true rfl, Nat.le_of_ble_eq_true rfl⟩ (fun k9 m9 h9 => h9) (fun r_1 m_2 h => ?_)
  obtain ⟨h, hm⟩ := h
  subst hm
  obtain ⟨k_3, h⟩ := h
  rw [rv_nn (a := ad 5) (r := r_1) k_3.1]
  refine q_calli (q_runVN X hK hZ zo (gc (t := 5) (by decide) k_3) rfl rfl [] [] rfl rfl (Nat.le_of_ble_eq_true rfl) dX9_isLocked_5 ⟨Nat.le_of_ble_eq_true rfl, Nat.le_of_ble_eq_true rfl⟩ (c_X0_isSealed ax r_1 k_3 mm _ h) rfl rfl (List.mem_of_getElem? (i := 101) rfl) kw_1_6 kw_2_166 kw_2_165 ks_2 hy_X0_isSealed.2 ⟨Nat.le_of_ble_eq_true rfl, Nat.le_of_ble_eq_true rfl⟩) (fun r_4 m_5 h => ?_)
  obtain ⟨h, hm⟩ := h
  subst hm
  obtain ⟨b_6, h⟩ := h
  exact hE _ _ _ _ _ _ dX9_isLocked_8 (Nat.le_of_ble_eq_true rfl) (Nat.le_of_ble_eq_true rfl) b_6 ⟨h, rfl⟩
theorem dX9_sealOf_0 : decode cX9_sealOf 0 = .ok (.aload_n 0, 1) := by decide +kernel
theorem dX9_sealOf_1 : decode cX9_sealOf 1 = .ok (.iload_n 1, 1) := by decide +kernel
theorem dX9_sealOf_2 : decode cX9_sealOf 2 = .ok (.invokevirtual 172, 3) := by decide +kernel
theorem dX9_sealOf_5 : decode cX9_sealOf 5 = .ok (.getfield 182, 3) := by decide +kernel
theorem dX9_sealOf_8 : decode cX9_sealOf 8 = .ok (.ireturn, 1) := by decide +kernel
def w_X9_sealOf (p0 : Int32) (mm : Mm) (Q9 : Int32 → Prop) (X9 : Nat → Mm → Prop) : Prop :=
  w_X9_chamberNumbered p0 mm (fun (r_1 : Nat) => ok 5 r_1 ∧ (Q9 (mm.1 5 r_1 0))) X9
def rm_X9_sealOf : Room := { frames := 8, cells := 1, slots := 6, locals := 131 }
theorem hy_X9_sealOf : yX9_sealOf.cls = RX9 ∧ yX9_sealOf.cls ≠ "java/lang/invoke/MethodHandle" ∧ yX9_sealOf.cls ≠ "java/lang/invoke/VarHandle" ∧ (parseMethodDescriptor yX9_sealOf.desc).map (fun d => d.parameters.length) = some 1 := by decide +kernel
set_option maxRecDepth 100000 in
set_option maxHeartbeats 4000000 in
theorem c_X9_sealOf {l : Launch} {D : va_G} {cA : Nat → ClassId} {ad : Nat → Nat → Nat} {A : Nat → Prop} (ax : Ax ad GC A) (hst : l.stackTraces = false) (p0 : Int32) (mm : Mm) (Q9 : Int32 → Prop) (X9 : Nat → Mm → Prop) (h : w_X9_sealOf p0 mm Q9 X9) : vx_Met l yX9_sealOf (.code yX9_sealOf cX9_sealOf 2 (some .int) :: TG) rm_X9_sealOf (PcM TT D cA ad false GC (ZC ad A) [.ref (ad 0 1), .int p0] mm) (AnsI TT D cA ad false GC A (fun r mm' => Q9 r ∧ mm = mm')) (AnsX TT D cA ad false GC A X9) 1 6 A := by
  have zo := ZC_ok ad A
  unfold w_X9_sealOf at h
  refine enterXI pl_X9 rfl (Nat.le_of_ble_eq_true rfl) ?_
  intro p e s m args below meth c QQ X hK hZ hnm hlk htab hQ hE
  refine q_aload_n (j := 0) X dX9_sealOf_0 rfl rfl ?_
  refine q_iload_n (j := 1) X dX9_sealOf_1 rfl rfl ?_
  refine q_xcallr hQ hlk htab (q_runxV X hK hZ zo (gc (t := 0) (by decide) (ok1 (t := 0) (Nat.le_of_ble_eq_true rfl))) rfl rfl [.int p0] [] rfl rfl (Nat.le_of_ble_eq_true rfl) dX9_sealOf_2 ⟨Nat.le_of_ble_eq_true rfl, Nat.le_of_ble_eq_true rfl⟩ (c_X9_chamberNumbered ax hst p0 mm _ _ h) rfl rfl (gV kw_4_230 kw_4_232 ks_59 kw_1_1 kw_4_233) hy_X9_chamberNumbered ⟨Nat.le_of_ble_eq_true rfl, Nat.le_of_ble_eq_true rfl⟩) ⟨Nat.le_of_ble_eq_true rfl, Nat.le_of_ble_eq_true rfl⟩ (fun k9 m9 h9 => h9) (fun r_1 m_2 h => ?_)
  obtain ⟨h, hm⟩ := h
  subst hm
  obtain ⟨k_3, h⟩ := h
  rw [rv_nn (a := ad 5) (r := r_1) k_3.1]
  refine q_getN (k := 0) (v := .int (mm.1 5 r_1 0)) X hK rfl rfl (Nat.le_of_ble_eq_true rfl) inTX0 (gc (t := 5) (by decide) k_3) (List.mem_of_getElem? (i := 45) rfl) rfl rfl dX9_sealOf_5 ?_
  exact hE _ _ _ _ _ _ dX9_sealOf_8 (Nat.le_of_ble_eq_true rfl) (Nat.le_of_ble_eq_true rfl) ⟨h, rfl⟩
theorem dX9_isSealBroken_0 : decode cX9_isSealBroken 0 = .ok (.aload_n 0, 1) := by decide +kernel
theorem dX9_isSealBroken_1 : decode cX9_isSealBroken 1 = .ok (.iload_n 1, 1) := by decide +kernel
theorem dX9_isSealBroken_2 : decode cX9_isSealBroken 2 = .ok (.invokevirtual 172, 3) := by decide +kernel
theorem dX9_isSealBroken_5 : decode cX9_isSealBroken 5 = .ok (.getfield 185, 3) := by decide +kernel
theorem dX9_isSealBroken_8 : decode cX9_isSealBroken 8 = .ok (.ireturn, 1) := by decide +kernel
def w_X9_isSealBroken (p0 : Int32) (mm : Mm) (Q9 : Int32 → Prop) (X9 : Nat → Mm → Prop) : Prop :=
  w_X9_chamberNumbered p0 mm (fun (r_1 : Nat) => ok 5 r_1 ∧ (isB (mm.1 5 r_1 1) ∧ Q9 (mm.1 5 r_1 1))) X9
def rm_X9_isSealBroken : Room := { frames := 8, cells := 1, slots := 6, locals := 131 }
theorem hy_X9_isSealBroken : yX9_isSealBroken.cls = RX9 ∧ yX9_isSealBroken.cls ≠ "java/lang/invoke/MethodHandle" ∧ yX9_isSealBroken.cls ≠ "java/lang/invoke/VarHandle" ∧ (parseMethodDescriptor yX9_isSealBroken.desc).map (fun d => d.parameters.length) = some 1 := by decide +kernel
set_option maxRecDepth 100000 in
set_option maxHeartbeats 4000000 in
theorem c_X9_isSealBroken {l : Launch} {D : va_G} {cA : Nat → ClassId} {ad : Nat → Nat → Nat} {A : Nat → Prop} (ax : Ax ad GC A) (hst : l.stackTraces = false) (p0 : Int32) (mm : Mm) (Q9 : Int32 → Prop) (X9 : Nat → Mm → Prop) (h : w_X9_isSealBroken p0 mm Q9 X9) : vx_Met l yX9_isSealBroken (.code yX9_isSealBroken cX9_isSealBroken 2 (some .boolean) :: TG) rm_X9_isSealBroken (PcM TT D cA ad false GC (ZC ad A) [.ref (ad 0 1), .int p0] mm) (AnsI TT D cA ad false GC A (fun r mm' => Q9 r ∧ mm = mm')) (AnsX TT D cA ad false GC A X9) 1 6 A := by
  have zo := ZC_ok ad A
  unfold w_X9_isSealBroken at h
  refine enterXZ pl_X9 rfl (Nat.le_of_ble_eq_true rfl) ?_
  intro p e s m args below meth c QQ X hK hZ hnm hlk htab hQ hE
  refine q_aload_n (j := 0) X dX9_isSealBroken_0 rfl rfl ?_
  refine q_iload_n (j := 1) X dX9_isSealBroken_1 rfl rfl ?_
  refine q_xcallr hQ hlk htab (q_runxV X hK hZ zo (gc (t := 0) (by decide) (ok1 (t := 0) (Nat.le_of_ble_eq_true rfl))) rfl rfl [.int p0] [] rfl rfl (Nat.le_of_ble_eq_true rfl) dX9_isSealBroken_2 ⟨Nat.le_of_ble_eq_true rfl, Nat.le_of_ble_eq_true rfl⟩ (c_X9_chamberNumbered ax hst p0 mm _ _ h) rfl rfl (gV kw_4_230 kw_4_232 ks_59 kw_1_1 kw_4_233) hy_X9_chamberNumbered ⟨Nat.le_of_ble_eq_true rfl, Nat.le_of_ble_eq_true rfl⟩) ⟨Nat.le_of_ble_eq_true rfl, Nat.le_of_ble_eq_true rfl⟩ (fun k9 m9 h9 => h9) (fun r_1 m_2 h => ?_)
  obtain ⟨h, hm⟩ := h
  subst hm
  obtain ⟨k_3, h⟩ := h
  rw [rv_nn (a := ad 5) (r := r_1) k_3.1]
  refine q_getN (k := 1) (v := .int (mm.1 5 r_1 1)) X hK rfl rfl (Nat.le_of_ble_eq_true rfl) inTX0 (gc (t := 5) (by decide) k_3) (List.mem_of_getElem? (i := 47) rfl) rfl rfl dX9_isSealBroken_5 ?_
  obtain ⟨b_4, h⟩ := h
  exact hE _ _ _ _ _ _ dX9_isSealBroken_8 (Nat.le_of_ble_eq_true rfl) (Nat.le_of_ble_eq_true rfl) b_4 ⟨h, rfl⟩
theorem dX9_entriesIn_0 : decode cX9_entriesIn 0 = .ok (.iload_n 1, 1) := by decide +kernel
theorem dX9_entriesIn_1 : decode cX9_entriesIn 1 = .ok (.invokestatic 188, 3) := by decide +kernel
theorem dX9_entriesIn_4 : decode cX9_entriesIn 4 = .ok (.aload_n 0, 1) := by decide +kernel
theorem dX9_entriesIn_5 : decode cX9_entriesIn 5 = .ok (.getfield 10, 3) := by decide +kernel
theorem dX9_entriesIn_8 : decode cX9_entriesIn 8 = .ok (.iload_n 1, 1) := by decide +kernel
theorem dX9_entriesIn_9 : decode cX9_entriesIn 9 = .ok (.invokevirtual 192, 3) := by decide +kernel
theorem dX9_entriesIn_12 : decode cX9_entriesIn 12 = .ok (.ireturn, 1) := by decide +kernel
def w_X9_entriesIn (p0 : Int32) (mm : Mm) (Q9 : Int32 → Prop) (X9 : Nat → Mm → Prop) : Prop :=
  w_X9_requireChamber p0 mm (w_X8_countIn 1 p0 mm (fun (r_3 : Int32) => Q9 r_3)) X9
def rm_X9_entriesIn : Room := { frames := 7, cells := 1, slots := 6, locals := 110 }
theorem hy_X9_entriesIn : yX9_entriesIn.cls = RX9 ∧ yX9_entriesIn.cls ≠ "java/lang/invoke/MethodHandle" ∧ yX9_entriesIn.cls ≠ "java/lang/invoke/VarHandle" ∧ (parseMethodDescriptor yX9_entriesIn.desc).map (fun d => d.parameters.length) = some 1 := by decide +kernel
set_option maxRecDepth 100000 in
set_option maxHeartbeats 4000000 in
theorem c_X9_entriesIn {l : Launch} {D : va_G} {cA : Nat → ClassId} {ad : Nat → Nat → Nat} {A : Nat → Prop} (ax : Ax ad GC A) (hst : l.stackTraces = false) (p0 : Int32) (mm : Mm) (Q9 : Int32 → Prop) (X9 : Nat → Mm → Prop) (h : w_X9_entriesIn p0 mm Q9 X9) : vx_Met l yX9_entriesIn (.code yX9_entriesIn cX9_entriesIn 2 (some .int) :: TG) rm_X9_entriesIn (PcM TT D cA ad false GC (ZC ad A) [.ref (ad 0 1), .int p0] mm) (AnsI TT D cA ad false GC A (fun r mm' => Q9 r ∧ mm = mm')) (AnsX TT D cA ad false GC A X9) 1 6 A := by
  have zo := ZC_ok ad A
  unfold w_X9_entriesIn at h
  refine enterXI pl_X9 rfl (Nat.le_of_ble_eq_true rfl) ?_
  intro p e s m args below meth c QQ X hK hZ hnm hlk htab hQ hE
  refine q_iload_n (j := 1) X dX9_entriesIn_0 rfl rfl ?_
  refine q_xcallv hQ hlk htab (q_runxS X hK hZ zo [.int p0] [] rfl rfl (Nat.le_of_ble_eq_true rfl) dX9_entriesIn_1 ⟨Nat.le_of_ble_eq_true rfl, Nat.le_of_ble_eq_true rfl⟩ (c_X9_requireChamber ax hst p0 mm _ _ h) rfl rfl (gS kw_4_234 kw_4_235 kw_1_1 kw_4_236) hy_X9_requireChamber.2 ⟨Nat.le_of_ble_eq_true rfl, Nat.le_of_ble_eq_true rfl⟩) ⟨Nat.le_of_ble_eq_true rfl, Nat.le_of_ble_eq_true rfl⟩ (fun k9 m9 h9 => h9) (fun m_2 h => ?_)
  obtain ⟨h, hm⟩ := h
  subst hm
  refine q_aload_n (j := 0) X dX9_entriesIn_4 rfl rfl ?_
  refine q_get (k := 0) (v := .ref (ad 1 1)) X hK rfl rfl (Nat.le_of_ble_eq_true rfl) inTX9 (gc (t := 0) (by decide) (ok1 (t := 0) (Nat.le_of_ble_eq_true rfl))) kw_2_111 rfl (rv_nn (a := ad 1) (r := 1) (ok1 (t := 1) (Nat.le_of_ble_eq_true rfl)).1) dX9_entriesIn_5 ?_
  refine q_iload_n (j := 1) X dX9_entriesIn_8 rfl rfl ?_
  refine q_calli (q_runVN X hK hZ zo (gc (t := 1) (by decide) (ok1 (t := 1) (Nat.le_of_ble_eq_true rfl))) rfl rfl [.int p0] [] rfl rfl (Nat.le_of_ble_eq_true rfl) dX9_entriesIn_9 ⟨Nat.le_of_ble_eq_true rfl, Nat.le_of_ble_eq_true rfl⟩ (c_X8_countIn ax 1 (ok1 (t := 1) (Nat.le_of_ble_eq_true rfl)) p0 mm _ h) rfl rfl (List.mem_of_getElem? (i := 74) rfl) kw_1_2 kw_5_8 kw_5_7 ks_60 hy_X8_countIn.2 ⟨Nat.le_of_ble_eq_true rfl, Nat.le_of_ble_eq_true rfl⟩) (fun r_3 m_4 h => ?_)
  obtain ⟨h, hm⟩ := h
  subst hm
  exact hE _ _ _ _ _ _ dX9_entriesIn_12 (Nat.le_of_ble_eq_true rfl) (Nat.le_of_ble_eq_true rfl) ⟨h, rfl⟩
theorem dX9_roomIn_0 : decode cX9_roomIn 0 = .ok (.iload_n 1, 1) := by decide +kernel
theorem dX9_roomIn_1 : decode cX9_roomIn 1 = .ok (.invokestatic 188, 3) := by decide +kernel
theorem dX9_roomIn_4 : decode cX9_roomIn 4 = .ok (.aload_n 0, 1) := by decide +kernel
theorem dX9_roomIn_5 : decode cX9_roomIn 5 = .ok (.getfield 10, 3) := by decide +kernel
theorem dX9_roomIn_8 : decode cX9_roomIn 8 = .ok (.iload_n 1, 1) := by decide +kernel
theorem dX9_roomIn_9 : decode cX9_roomIn 9 = .ok (.invokevirtual 195, 3) := by decide +kernel
theorem dX9_roomIn_12 : decode cX9_roomIn 12 = .ok (.ireturn, 1) := by decide +kernel
def w_X9_roomIn (p0 : Int32) (mm : Mm) (Q9 : Int32 → Prop) (X9 : Nat → Mm → Prop) : Prop :=
  w_X9_requireChamber p0 mm (w_X8_roomLeft 1 p0 mm (fun (r_3 : Int32) => Q9 r_3)) X9
def rm_X9_roomIn : Room := { frames := 7, cells := 1, slots := 6, locals := 110 }
theorem hy_X9_roomIn : yX9_roomIn.cls = RX9 ∧ yX9_roomIn.cls ≠ "java/lang/invoke/MethodHandle" ∧ yX9_roomIn.cls ≠ "java/lang/invoke/VarHandle" ∧ (parseMethodDescriptor yX9_roomIn.desc).map (fun d => d.parameters.length) = some 1 := by decide +kernel
set_option maxRecDepth 100000 in
set_option maxHeartbeats 4000000 in
theorem c_X9_roomIn {l : Launch} {D : va_G} {cA : Nat → ClassId} {ad : Nat → Nat → Nat} {A : Nat → Prop} (ax : Ax ad GC A) (hst : l.stackTraces = false) (p0 : Int32) (mm : Mm) (Q9 : Int32 → Prop) (X9 : Nat → Mm → Prop) (h : w_X9_roomIn p0 mm Q9 X9) : vx_Met l yX9_roomIn (.code yX9_roomIn cX9_roomIn 2 (some .int) :: TG) rm_X9_roomIn (PcM TT D cA ad false GC (ZC ad A) [.ref (ad 0 1), .int p0] mm) (AnsI TT D cA ad false GC A (fun r mm' => Q9 r ∧ mm = mm')) (AnsX TT D cA ad false GC A X9) 1 6 A := by
  have zo := ZC_ok ad A
  unfold w_X9_roomIn at h
  refine enterXI pl_X9 rfl (Nat.le_of_ble_eq_true rfl) ?_
  intro p e s m args below meth c QQ X hK hZ hnm hlk htab hQ hE
  refine q_iload_n (j := 1) X dX9_roomIn_0 rfl rfl ?_
  refine q_xcallv hQ hlk htab (q_runxS X hK hZ zo [.int p0] [] rfl rfl (Nat.le_of_ble_eq_true rfl) dX9_roomIn_1 ⟨Nat.le_of_ble_eq_true rfl, Nat.le_of_ble_eq_true rfl⟩ (c_X9_requireChamber ax hst p0 mm _ _ h) rfl rfl (gS kw_4_234 kw_4_235 kw_1_1 kw_4_236) hy_X9_requireChamber.2 ⟨Nat.le_of_ble_eq_true rfl, Nat.le_of_ble_eq_true rfl⟩) ⟨Nat.le_of_ble_eq_true rfl, Nat.le_of_ble_eq_true rfl⟩ (fun k9 m9 h9 => h9) (fun m_2 h => ?_)
  obtain ⟨h, hm⟩ := h
  subst hm
  refine q_aload_n (j := 0) X dX9_roomIn_4 rfl rfl ?_
  refine q_get (k := 0) (v := .ref (ad 1 1)) X hK rfl rfl (Nat.le_of_ble_eq_true rfl) inTX9 (gc (t := 0) (by decide) (ok1 (t := 0) (Nat.le_of_ble_eq_true rfl))) kw_2_111 rfl (rv_nn (a := ad 1) (r := 1) (ok1 (t := 1) (Nat.le_of_ble_eq_true rfl)).1) dX9_roomIn_5 ?_
  refine q_iload_n (j := 1) X dX9_roomIn_8 rfl rfl ?_
  refine q_calli (q_runVN X hK hZ zo (gc (t := 1) (by decide) (ok1 (t := 1) (Nat.le_of_ble_eq_true rfl))) rfl rfl [.int p0] [] rfl rfl (Nat.le_of_ble_eq_true rfl) dX9_roomIn_9 ⟨Nat.le_of_ble_eq_true rfl, Nat.le_of_ble_eq_true rfl⟩ (c_X8_roomLeft ax 1 (ok1 (t := 1) (Nat.le_of_ble_eq_true rfl)) p0 mm _ h) rfl rfl (List.mem_of_getElem? (i := 75) rfl) kw_1_2 kw_2_170 kw_2_169 ks_3 hy_X8_roomLeft.2 ⟨Nat.le_of_ble_eq_true rfl, Nat.le_of_ble_eq_true rfl⟩) (fun r_3 m_4 h => ?_)
  obtain ⟨h, hm⟩ := h
  subst hm
  exact hE _ _ _ _ _ _ dX9_roomIn_12 (Nat.le_of_ble_eq_true rfl) (Nat.le_of_ble_eq_true rfl) ⟨h, rfl⟩
theorem dX9_receiptBack_0 : decode cX9_receiptBack 0 = .ok (.aload_n 0, 1) := by decide +kernel
theorem dX9_receiptBack_1 : decode cX9_receiptBack 1 = .ok (.getfield 10, 3) := by decide +kernel
theorem dX9_receiptBack_4 : decode cX9_receiptBack 4 = .ok (.iload_n 1, 1) := by decide +kernel
theorem dX9_receiptBack_5 : decode cX9_receiptBack 5 = .ok (.invokevirtual 426, 3) := by decide +kernel
theorem dX9_receiptBack_8 : decode cX9_receiptBack 8 = .ok (.astore_n 2, 1) := by decide +kernel
theorem dX9_receiptBack_9 : decode cX9_receiptBack 9 = .ok (.aload_n 2, 1) := by decide +kernel
theorem dX9_receiptBack_10 : decode cX9_receiptBack 10 = .ok (.ifnonnull 14, 3) := by decide +kernel
theorem dX9_receiptBack_13 : decode cX9_receiptBack 13 = .ok (.new 111, 3) := by decide +kernel
theorem dX9_receiptBack_16 : decode cX9_receiptBack 16 = .ok (.dup, 1) := by decide +kernel
theorem dX9_receiptBack_17 : decode cX9_receiptBack 17 = .ok (.ldc_w 429, 3) := by decide +kernel
theorem dX9_receiptBack_20 : decode cX9_receiptBack 20 = .ok (.invokespecial 115, 3) := by decide +kernel
theorem dX9_receiptBack_23 : decode cX9_receiptBack 23 = .ok (.athrow, 1) := by decide +kernel
theorem dX9_receiptBack_24 : decode cX9_receiptBack 24 = .ok (.aload_n 2, 1) := by decide +kernel
theorem dX9_receiptBack_25 : decode cX9_receiptBack 25 = .ok (.areturn, 1) := by decide +kernel
def w_X9_receiptBack (p0 : Int32) (mm : Mm) (Q9 : Nat → Prop) (X9 : Nat → Mm → Prop) : Prop :=
  w_X8_findReceipt 1 p0 mm (fun (r_1 : Nat) => ((¬ r_1 = 0 → Q9 r_1) ∧
  (r_1 = 0 → X9 1 mm)))
def rm_X9_receiptBack : Room := { frames := 6, cells := 1, slots := 6, locals := 90 }
theorem hy_X9_receiptBack : yX9_receiptBack.cls = RX9 ∧ yX9_receiptBack.cls ≠ "java/lang/invoke/MethodHandle" ∧ yX9_receiptBack.cls ≠ "java/lang/invoke/VarHandle" ∧ (parseMethodDescriptor yX9_receiptBack.desc).map (fun d => d.parameters.length) = some 1 := by decide +kernel
set_option maxRecDepth 100000 in
set_option maxHeartbeats 4000000 in
theorem c_X9_receiptBack {l : Launch} {D : va_G} {cA : Nat → ClassId} {ad : Nat → Nat → Nat} {A : Nat → Prop} (ax : Ax ad GC A) (hst : l.stackTraces = false) (p0 : Int32) (mm : Mm) (Q9 : Nat → Prop) (X9 : Nat → Mm → Prop) (h : w_X9_receiptBack p0 mm Q9 X9) : vx_Met l yX9_receiptBack (.code yX9_receiptBack cX9_receiptBack 3 (some (.object "BondWarehouse$Receipt")) :: TG) rm_X9_receiptBack (PcM TT D cA ad false GC (ZC ad A) [.ref (ad 0 1), .int p0] mm) (AnsQ TT D cA ad false GC 4 A (fun r mm' => Q9 r ∧ mm = mm')) (AnsX TT D cA ad false GC A X9) 1 6 A := by
  have zo := ZC_ok ad A
  unfold w_X9_receiptBack at h
  refine enterXR (Or.inl ⟨_, rfl⟩) pl_X9 rfl (Nat.le_of_ble_eq_true rfl) ?_
  intro p e s m args below meth c QQ X hK hZ hnm hlk htab hQ hE
  refine q_aload_n (j := 0) X dX9_receiptBack_0 rfl rfl ?_
  refine q_get (k := 0) (v := .ref (ad 1 1)) X hK rfl rfl (Nat.le_of_ble_eq_true rfl) inTX9 (gc (t := 0) (by decide) (ok1 (t := 0) (Nat.le_of_ble_eq_true rfl))) kw_2_111 rfl (rv_nn (a := ad 1) (r := 1) (ok1 (t := 1) (Nat.le_of_ble_eq_true rfl)).1) dX9_receiptBack_1 ?_
  refine q_iload_n (j := 1) X dX9_receiptBack_4 rfl rfl ?_
  refine q_callr (q_runVN X hK hZ zo (gc (t := 1) (by decide) (ok1 (t := 1) (Nat.le_of_ble_eq_true rfl))) rfl rfl [.int p0] [] rfl rfl (Nat.le_of_ble_eq_true rfl) dX9_receiptBack_5 ⟨Nat.le_of_ble_eq_true rfl, Nat.le_of_ble_eq_true rfl⟩ (c_X8_findReceipt ax 1 (ok1 (t := 1) (Nat.le_of_ble_eq_true rfl)) p0 mm _ h) rfl rfl (List.mem_of_getElem? (i := 76) rfl) kw_1_2 kw_3_179 kw_3_178 ks_32 hy_X8_findReceipt.2 ⟨Nat.le_of_ble_eq_true rfl, Nat.le_of_ble_eq_true rfl⟩) (fun r_1 m_2 h => ?_)
  obtain ⟨h, hm⟩ := h
  subst hm
  refine q_vstore_n (lv' := [(2, rv (ad 4) r_1), (0, .ref (ad 0 1)), (1, .int p0)]) X dX9_receiptBack_8 rfl (by decide) rfl ?_
  refine q_vload_n (j := 0) X dX9_receiptBack_9 rfl rfl ?_
  refine q_ifnonnull (tgt := 24) X dX9_receiptBack_10 (by decide) (fun c_3 => ?_) (fun c_3 => ?_)
  · have h := h.1 c_3
    refine q_vload_n (j := 0) X dX9_receiptBack_24 rfl rfl ?_
    exact hE _ _ _ _ r_1 _ dX9_receiptBack_25 (Nat.le_of_ble_eq_true rfl) (Nat.le_of_ble_eq_true rfl) ⟨h, rfl⟩
  · have h := h.2 c_3
    exact q_throwSW (k := 1) X hQ hlk htab hst hZ thr_1 (List.mem_of_getElem? (i := 11) rfl) dX9_receiptBack_13 dX9_receiptBack_16 dX9_receiptBack_17 dX9_receiptBack_20 dX9_receiptBack_23 (Nat.le_of_ble_eq_true rfl) (Nat.le_of_ble_eq_true rfl) (Nat.le_of_ble_eq_true rfl) (Nat.le_of_ble_eq_true rfl) (Nat.le_of_ble_eq_true rfl) (Nat.le_of_ble_eq_true rfl) h
theorem dX9_receiptKind_0 : decode cX9_receiptKind 0 = .ok (.aload_n 0, 1) := by decide +kernel
theorem dX9_receiptKind_1 : decode cX9_receiptKind 1 = .ok (.iload_n 1, 1) := by decide +kernel
theorem dX9_receiptKind_2 : decode cX9_receiptKind 2 = .ok (.invokevirtual 201, 3) := by decide +kernel
theorem dX9_receiptKind_5 : decode cX9_receiptKind 5 = .ok (.getfield 205, 3) := by decide +kernel
theorem dX9_receiptKind_8 : decode cX9_receiptKind 8 = .ok (.ireturn, 1) := by decide +kernel
def w_X9_receiptKind (p0 : Int32) (mm : Mm) (Q9 : Int32 → Prop) (X9 : Nat → Mm → Prop) : Prop :=
  w_X9_receiptBack p0 mm (fun (r_1 : Nat) => ok 4 r_1 ∧ (Q9 (mm.1 4 r_1 0))) X9
def rm_X9_receiptKind : Room := { frames := 7, cells := 1, slots := 6, locals := 112 }
theorem hy_X9_receiptKind : yX9_receiptKind.cls = RX9 ∧ yX9_receiptKind.cls ≠ "java/lang/invoke/MethodHandle" ∧ yX9_receiptKind.cls ≠ "java/lang/invoke/VarHandle" ∧ (parseMethodDescriptor yX9_receiptKind.desc).map (fun d => d.parameters.length) = some 1 := by decide +kernel
set_option maxRecDepth 100000 in
set_option maxHeartbeats 4000000 in
theorem c_X9_receiptKind {l : Launch} {D : va_G} {cA : Nat → ClassId} {ad : Nat → Nat → Nat} {A : Nat → Prop} (ax : Ax ad GC A) (hst : l.stackTraces = false) (p0 : Int32) (mm : Mm) (Q9 : Int32 → Prop) (X9 : Nat → Mm → Prop) (h : w_X9_receiptKind p0 mm Q9 X9) : vx_Met l yX9_receiptKind (.code yX9_receiptKind cX9_receiptKind 2 (some .int) :: TG) rm_X9_receiptKind (PcM TT D cA ad false GC (ZC ad A) [.ref (ad 0 1), .int p0] mm) (AnsI TT D cA ad false GC A (fun r mm' => Q9 r ∧ mm = mm')) (AnsX TT D cA ad false GC A X9) 1 6 A := by
  have zo := ZC_ok ad A
  unfold w_X9_receiptKind at h
  refine enterXI pl_X9 rfl (Nat.le_of_ble_eq_true rfl) ?_
  intro p e s m args below meth c QQ X hK hZ hnm hlk htab hQ hE
  refine q_aload_n (j := 0) X dX9_receiptKind_0 rfl rfl ?_
  refine q_iload_n (j := 1) X dX9_receiptKind_1 rfl rfl ?_
  refine q_xcallr hQ hlk htab (q_runxV X hK hZ zo (gc (t := 0) (by decide) (ok1 (t := 0) (Nat.le_of_ble_eq_true rfl))) rfl rfl [.int p0] [] rfl rfl (Nat.le_of_ble_eq_true rfl) dX9_receiptKind_2 ⟨Nat.le_of_ble_eq_true rfl, Nat.le_of_ble_eq_true rfl⟩ (c_X9_receiptBack ax hst p0 mm _ _ h) rfl rfl (gV kw_5_24 kw_5_26 ks_61 kw_1_1 kw_5_27) hy_X9_receiptBack ⟨Nat.le_of_ble_eq_true rfl, Nat.le_of_ble_eq_true rfl⟩) ⟨Nat.le_of_ble_eq_true rfl, Nat.le_of_ble_eq_true rfl⟩ (fun k9 m9 h9 => h9) (fun r_1 m_2 h => ?_)
  obtain ⟨h, hm⟩ := h
  subst hm
  obtain ⟨k_3, h⟩ := h
  rw [rv_nn (a := ad 4) (r := r_1) k_3.1]
  refine q_getN (k := 0) (v := .int (mm.1 4 r_1 0)) X hK rfl rfl (Nat.le_of_ble_eq_true rfl) inTX7 (gc (t := 4) (by decide) k_3) (List.mem_of_getElem? (i := 35) rfl) rfl rfl dX9_receiptKind_5 ?_
  exact hE _ _ _ _ _ _ dX9_receiptKind_8 (Nat.le_of_ble_eq_true rfl) (Nat.le_of_ble_eq_true rfl) ⟨h, rfl⟩
theorem dX9_receiptWeight_0 : decode cX9_receiptWeight 0 = .ok (.aload_n 0, 1) := by decide +kernel
theorem dX9_receiptWeight_1 : decode cX9_receiptWeight 1 = .ok (.iload_n 1, 1) := by decide +kernel
theorem dX9_receiptWeight_2 : decode cX9_receiptWeight 2 = .ok (.invokevirtual 201, 3) := by decide +kernel
theorem dX9_receiptWeight_5 : decode cX9_receiptWeight 5 = .ok (.getfield 208, 3) := by decide +kernel
theorem dX9_receiptWeight_8 : decode cX9_receiptWeight 8 = .ok (.ireturn, 1) := by decide +kernel
def w_X9_receiptWeight (p0 : Int32) (mm : Mm) (Q9 : Int32 → Prop) (X9 : Nat → Mm → Prop) : Prop :=
  w_X9_receiptBack p0 mm (fun (r_1 : Nat) => ok 4 r_1 ∧ (Q9 (mm.1 4 r_1 1))) X9
def rm_X9_receiptWeight : Room := { frames := 7, cells := 1, slots := 6, locals := 112 }
theorem hy_X9_receiptWeight : yX9_receiptWeight.cls = RX9 ∧ yX9_receiptWeight.cls ≠ "java/lang/invoke/MethodHandle" ∧ yX9_receiptWeight.cls ≠ "java/lang/invoke/VarHandle" ∧ (parseMethodDescriptor yX9_receiptWeight.desc).map (fun d => d.parameters.length) = some 1 := by decide +kernel
set_option maxRecDepth 100000 in
set_option maxHeartbeats 4000000 in
theorem c_X9_receiptWeight {l : Launch} {D : va_G} {cA : Nat → ClassId} {ad : Nat → Nat → Nat} {A : Nat → Prop} (ax : Ax ad GC A) (hst : l.stackTraces = false) (p0 : Int32) (mm : Mm) (Q9 : Int32 → Prop) (X9 : Nat → Mm → Prop) (h : w_X9_receiptWeight p0 mm Q9 X9) : vx_Met l yX9_receiptWeight (.code yX9_receiptWeight cX9_receiptWeight 2 (some .int) :: TG) rm_X9_receiptWeight (PcM TT D cA ad false GC (ZC ad A) [.ref (ad 0 1), .int p0] mm) (AnsI TT D cA ad false GC A (fun r mm' => Q9 r ∧ mm = mm')) (AnsX TT D cA ad false GC A X9) 1 6 A := by
  have zo := ZC_ok ad A
  unfold w_X9_receiptWeight at h
  refine enterXI pl_X9 rfl (Nat.le_of_ble_eq_true rfl) ?_
  intro p e s m args below meth c QQ X hK hZ hnm hlk htab hQ hE
  refine q_aload_n (j := 0) X dX9_receiptWeight_0 rfl rfl ?_
  refine q_iload_n (j := 1) X dX9_receiptWeight_1 rfl rfl ?_
  refine q_xcallr hQ hlk htab (q_runxV X hK hZ zo (gc (t := 0) (by decide) (ok1 (t := 0) (Nat.le_of_ble_eq_true rfl))) rfl rfl [.int p0] [] rfl rfl (Nat.le_of_ble_eq_true rfl) dX9_receiptWeight_2 ⟨Nat.le_of_ble_eq_true rfl, Nat.le_of_ble_eq_true rfl⟩ (c_X9_receiptBack ax hst p0 mm _ _ h) rfl rfl (gV kw_5_24 kw_5_26 ks_61 kw_1_1 kw_5_27) hy_X9_receiptBack ⟨Nat.le_of_ble_eq_true rfl, Nat.le_of_ble_eq_true rfl⟩) ⟨Nat.le_of_ble_eq_true rfl, Nat.le_of_ble_eq_true rfl⟩ (fun k9 m9 h9 => h9) (fun r_1 m_2 h => ?_)
  obtain ⟨h, hm⟩ := h
  subst hm
  obtain ⟨k_3, h⟩ := h
  rw [rv_nn (a := ad 4) (r := r_1) k_3.1]
  refine q_getN (k := 1) (v := .int (mm.1 4 r_1 1)) X hK rfl rfl (Nat.le_of_ble_eq_true rfl) inTX7 (gc (t := 4) (by decide) k_3) (List.mem_of_getElem? (i := 38) rfl) rfl rfl dX9_receiptWeight_5 ?_
  exact hE _ _ _ _ _ _ dX9_receiptWeight_8 (Nat.le_of_ble_eq_true rfl) (Nat.le_of_ble_eq_true rfl) ⟨h, rfl⟩
theorem dX9_receiptDuty_0 : decode cX9_receiptDuty 0 = .ok (.aload_n 0, 1) := by decide +kernel
theorem dX9_receiptDuty_1 : decode cX9_receiptDuty 1 = .ok (.iload_n 1, 1) := by decide +kernel
theorem dX9_receiptDuty_2 : decode cX9_receiptDuty 2 = .ok (.invokevirtual 201, 3) := by decide +kernel
theorem dX9_receiptDuty_5 : decode cX9_receiptDuty 5 = .ok (.getfield 209, 3) := by decide +kernel
theorem dX9_receiptDuty_8 : decode cX9_receiptDuty 8 = .ok (.ireturn, 1) := by decide +kernel
def w_X9_receiptDuty (p0 : Int32) (mm : Mm) (Q9 : Int32 → Prop) (X9 : Nat → Mm → Prop) : Prop :=
  w_X9_receiptBack p0 mm (fun (r_1 : Nat) => ok 4 r_1 ∧ (Q9 (mm.1 4 r_1 2))) X9
def rm_X9_receiptDuty : Room := { frames := 7, cells := 1, slots := 6, locals := 112 }
theorem hy_X9_receiptDuty : yX9_receiptDuty.cls = RX9 ∧ yX9_receiptDuty.cls ≠ "java/lang/invoke/MethodHandle" ∧ yX9_receiptDuty.cls ≠ "java/lang/invoke/VarHandle" ∧ (parseMethodDescriptor yX9_receiptDuty.desc).map (fun d => d.parameters.length) = some 1 := by decide +kernel
set_option maxRecDepth 100000 in
set_option maxHeartbeats 4000000 in
theorem c_X9_receiptDuty {l : Launch} {D : va_G} {cA : Nat → ClassId} {ad : Nat → Nat → Nat} {A : Nat → Prop} (ax : Ax ad GC A) (hst : l.stackTraces = false) (p0 : Int32) (mm : Mm) (Q9 : Int32 → Prop) (X9 : Nat → Mm → Prop) (h : w_X9_receiptDuty p0 mm Q9 X9) : vx_Met l yX9_receiptDuty (.code yX9_receiptDuty cX9_receiptDuty 2 (some .int) :: TG) rm_X9_receiptDuty (PcM TT D cA ad false GC (ZC ad A) [.ref (ad 0 1), .int p0] mm) (AnsI TT D cA ad false GC A (fun r mm' => Q9 r ∧ mm = mm')) (AnsX TT D cA ad false GC A X9) 1 6 A := by
  have zo := ZC_ok ad A
  unfold w_X9_receiptDuty at h
  refine enterXI pl_X9 rfl (Nat.le_of_ble_eq_true rfl) ?_
  intro p e s m args below meth c QQ X hK hZ hnm hlk htab hQ hE
  refine q_aload_n (j := 0) X dX9_receiptDuty_0 rfl rfl ?_
  refine q_iload_n (j := 1) X dX9_receiptDuty_1 rfl rfl ?_
  refine q_xcallr hQ hlk htab (q_runxV X hK hZ zo (gc (t := 0) (by decide) (ok1 (t := 0) (Nat.le_of_ble_eq_true rfl))) rfl rfl [.int p0] [] rfl rfl (Nat.le_of_ble_eq_true rfl) dX9_receiptDuty_2 ⟨Nat.le_of_ble_eq_true rfl, Nat.le_of_ble_eq_true rfl⟩ (c_X9_receiptBack ax hst p0 mm _ _ h) rfl rfl (gV kw_5_24 kw_5_26 ks_61 kw_1_1 kw_5_27) hy_X9_receiptBack ⟨Nat.le_of_ble_eq_true rfl, Nat.le_of_ble_eq_true rfl⟩) ⟨Nat.le_of_ble_eq_true rfl, Nat.le_of_ble_eq_true rfl⟩ (fun k9 m9 h9 => h9) (fun r_1 m_2 h => ?_)
  obtain ⟨h, hm⟩ := h
  subst hm
  obtain ⟨k_3, h⟩ := h
  rw [rv_nn (a := ad 4) (r := r_1) k_3.1]
  refine q_getN (k := 2) (v := .int (mm.1 4 r_1 2)) X hK rfl rfl (Nat.le_of_ble_eq_true rfl) inTX7 (gc (t := 4) (by decide) k_3) (List.mem_of_getElem? (i := 40) rfl) rfl rfl dX9_receiptDuty_5 ?_
  exact hE _ _ _ _ _ _ dX9_receiptDuty_8 (Nat.le_of_ble_eq_true rfl) (Nat.le_of_ble_eq_true rfl) ⟨h, rfl⟩
theorem dX9_receiptAge_0 : decode cX9_receiptAge 0 = .ok (.aload_n 0, 1) := by decide +kernel
theorem dX9_receiptAge_1 : decode cX9_receiptAge 1 = .ok (.getfield 10, 3) := by decide +kernel
theorem dX9_receiptAge_4 : decode cX9_receiptAge 4 = .ok (.getfield 93, 3) := by decide +kernel
theorem dX9_receiptAge_7 : decode cX9_receiptAge 7 = .ok (.aload_n 0, 1) := by decide +kernel
theorem dX9_receiptAge_8 : decode cX9_receiptAge 8 = .ok (.iload_n 1, 1) := by decide +kernel
theorem dX9_receiptAge_9 : decode cX9_receiptAge 9 = .ok (.invokevirtual 201, 3) := by decide +kernel
theorem dX9_receiptAge_12 : decode cX9_receiptAge 12 = .ok (.getfield 212, 3) := by decide +kernel
theorem dX9_receiptAge_15 : decode cX9_receiptAge 15 = .ok (.isub, 1) := by decide +kernel
theorem dX9_receiptAge_16 : decode cX9_receiptAge 16 = .ok (.ireturn, 1) := by decide +kernel
def w_X9_receiptAge (p0 : Int32) (mm : Mm) (Q9 : Int32 → Prop) (X9 : Nat → Mm → Prop) : Prop :=
  w_X9_receiptBack p0 mm (fun (r_1 : Nat) => ok 4 r_1 ∧ (Q9 ((mm.1 1 1 0) - (mm.1 4 r_1 3)))) X9
def rm_X9_receiptAge : Room := { frames := 7, cells := 1, slots := 6, locals := 112 }
theorem hy_X9_receiptAge : yX9_receiptAge.cls = RX9 ∧ yX9_receiptAge.cls ≠ "java/lang/invoke/MethodHandle" ∧ yX9_receiptAge.cls ≠ "java/lang/invoke/VarHandle" ∧ (parseMethodDescriptor yX9_receiptAge.desc).map (fun d => d.parameters.length) = some 1 := by decide +kernel
set_option maxRecDepth 100000 in
set_option maxHeartbeats 4000000 in
theorem c_X9_receiptAge {l : Launch} {D : va_G} {cA : Nat → ClassId} {ad : Nat → Nat → Nat} {A : Nat → Prop} (ax : Ax ad GC A) (hst : l.stackTraces = false) (p0 : Int32) (mm : Mm) (Q9 : Int32 → Prop) (X9 : Nat → Mm → Prop) (h : w_X9_receiptAge p0 mm Q9 X9) : vx_Met l yX9_receiptAge (.code yX9_receiptAge cX9_receiptAge 2 (some .int) :: TG) rm_X9_receiptAge (PcM TT D cA ad false GC (ZC ad A) [.ref (ad 0 1), .int p0] mm) (AnsI TT D cA ad false GC A (fun r mm' => Q9 r ∧ mm = mm')) (AnsX TT D cA ad false GC A X9) 1 6 A := by
  have zo := ZC_ok ad A
  unfold w_X9_receiptAge at h
  refine enterXI pl_X9 rfl (Nat.le_of_ble_eq_true rfl) ?_
  intro p e s m args below meth c QQ X hK hZ hnm hlk htab hQ hE
  refine q_aload_n (j := 0) X dX9_receiptAge_0 rfl rfl ?_
  refine q_get (k := 0) (v := .ref (ad 1 1)) X hK rfl rfl (Nat.le_of_ble_eq_true rfl) inTX9 (gc (t := 0) (by decide) (ok1 (t := 0) (Nat.le_of_ble_eq_true rfl))) kw_2_111 rfl (rv_nn (a := ad 1) (r := 1) (ok1 (t := 1) (Nat.le_of_ble_eq_true rfl)).1) dX9_receiptAge_1 ?_
  refine q_getN (k := 0) (v := .int (mm.1 1 1 0)) X hK rfl rfl (Nat.le_of_ble_eq_true rfl) inTX8 (gc (t := 1) (by decide) (ok1 (t := 1) (Nat.le_of_ble_eq_true rfl))) (List.mem_of_getElem? (i := 67) rfl) rfl rfl dX9_receiptAge_4 ?_
  refine q_aload_n (j := 0) X dX9_receiptAge_7 rfl rfl ?_
  refine q_iload_n (j := 1) X dX9_receiptAge_8 rfl rfl ?_
  refine q_xcallr hQ hlk htab (q_runxV X hK hZ zo (gc (t := 0) (by decide) (ok1 (t := 0) (Nat.le_of_ble_eq_true rfl))) rfl rfl [.int p0] [.int (mm.1 1 1 0)] rfl rfl (Nat.le_of_ble_eq_true rfl) dX9_receiptAge_9 ⟨Nat.le_of_ble_eq_true rfl, Nat.le_of_ble_eq_true rfl⟩ (c_X9_receiptBack ax hst p0 mm _ _ h) rfl rfl (gV kw_5_24 kw_5_26 ks_61 kw_1_1 kw_5_27) hy_X9_receiptBack ⟨Nat.le_of_ble_eq_true rfl, Nat.le_of_ble_eq_true rfl⟩) ⟨Nat.le_of_ble_eq_true rfl, Nat.le_of_ble_eq_true rfl⟩ (fun k9 m9 h9 => h9) (fun r_1 m_2 h => ?_)
  obtain ⟨h, hm⟩ := h
  subst hm
  obtain ⟨k_3, h⟩ := h
  rw [rv_nn (a := ad 4) (r := r_1) k_3.1]
  refine q_getN (k := 3) (v := .int (mm.1 4 r_1 3)) X hK rfl rfl (Nat.le_of_ble_eq_true rfl) inTX7 (gc (t := 4) (by decide) k_3) (List.mem_of_getElem? (i := 43) rfl) rfl rfl dX9_receiptAge_12 ?_
  refine q_isub X dX9_receiptAge_15 ?_
  exact hE _ _ _ _ _ _ dX9_receiptAge_16 (Nat.le_of_ble_eq_true rfl) (Nat.le_of_ble_eq_true rfl) ⟨h, rfl⟩
theorem dX9_accountOfKind_0 : decode cX9_accountOfKind 0 = .ok (.iload_n 1, 1) := by decide +kernel
theorem dX9_accountOfKind_1 : decode cX9_accountOfKind 1 = .ok (.iconst 0, 1) := by decide +kernel
theorem dX9_accountOfKind_2 : decode cX9_accountOfKind 2 = .ok (.iconst 5, 1) := by decide +kernel
theorem dX9_accountOfKind_3 : decode cX9_accountOfKind 3 = .ok (.invokestatic 154, 3) := by decide +kernel
theorem dX9_accountOfKind_6 : decode cX9_accountOfKind 6 = .ok (.aload_n 0, 1) := by decide +kernel
theorem dX9_accountOfKind_7 : decode cX9_accountOfKind 7 = .ok (.getfield 10, 3) := by decide +kernel
theorem dX9_accountOfKind_10 : decode cX9_accountOfKind 10 = .ok (.getfield 435, 3) := by decide +kernel
theorem dX9_accountOfKind_13 : decode cX9_accountOfKind 13 = .ok (.iload_n 1, 1) := by decide +kernel
theorem dX9_accountOfKind_14 : decode cX9_accountOfKind 14 = .ok (.aaload, 1) := by decide +kernel
theorem dX9_accountOfKind_15 : decode cX9_accountOfKind 15 = .ok (.areturn, 1) := by decide +kernel
def w_X9_accountOfKind (p0 : Int32) (mm : Mm) (Q9 : Nat → Prop) (X9 : Nat → Mm → Prop) : Prop :=
  w_X9_requireWithin p0 0 5 mm (vp_in p0 6 ∧ (Q9 (6 * (1 - 1) + p0.toNatClampNeg + 1))) X9
def rm_X9_accountOfKind : Room := { frames := 7, cells := 1, slots := 6, locals := 112 }
theorem hy_X9_accountOfKind : yX9_accountOfKind.cls = RX9 ∧ yX9_accountOfKind.cls ≠ "java/lang/invoke/MethodHandle" ∧ yX9_accountOfKind.cls ≠ "java/lang/invoke/VarHandle" ∧ (parseMethodDescriptor yX9_accountOfKind.desc).map (fun d => d.parameters.length) = some 1 := by decide +kernel
set_option maxRecDepth 100000 in
set_option maxHeartbeats 4000000 in
theorem c_X9_accountOfKind {l : Launch} {D : va_G} {cA : Nat → ClassId} {ad : Nat → Nat → Nat} {A : Nat → Prop} (ax : Ax ad GC A) (hst : l.stackTraces = false) (p0 : Int32) (mm : Mm) (Q9 : Nat → Prop) (X9 : Nat → Mm → Prop) (h : w_X9_accountOfKind p0 mm Q9 X9) : vx_Met l yX9_accountOfKind (.code yX9_accountOfKind cX9_accountOfKind 2 (some (.object "BondWarehouse$KindAccount")) :: TG) rm_X9_accountOfKind (PcM TT D cA ad false GC (ZC ad A) [.ref (ad 0 1), .int p0] mm) (AnsQ TT D cA ad false GC 6 A (fun r mm' => Q9 r ∧ mm = mm')) (AnsX TT D cA ad false GC A X9) 1 6 A := by
  have zo := ZC_ok ad A
  unfold w_X9_accountOfKind at h
  refine enterXR (Or.inl ⟨_, rfl⟩) pl_X9 rfl (Nat.le_of_ble_eq_true rfl) ?_
  intro p e s m args below meth c QQ X hK hZ hnm hlk htab hQ hE
  refine q_iload_n (j := 1) X dX9_accountOfKind_0 rfl rfl ?_
  refine q_iconst (v := 0) X dX9_accountOfKind_1 (by decide) ?_
  refine q_iconst (v := 5) X dX9_accountOfKind_2 (by decide) ?_
  refine q_xcallv hQ hlk htab (q_runxS X hK hZ zo [.int p0, .int 0, .int 5] [] rfl rfl (Nat.le_of_ble_eq_true rfl) dX9_accountOfKind_3 ⟨Nat.le_of_ble_eq_true rfl, Nat.le_of_ble_eq_true rfl⟩ (c_X9_requireWithin ax hst p0 0 5 mm _ _ h) rfl rfl (gS kw_4_203 kw_4_204 kw_1_1 kw_4_205) hy_X9_requireWithin.2 ⟨Nat.le_of_ble_eq_true rfl, Nat.le_of_ble_eq_true rfl⟩) ⟨Nat.le_of_ble_eq_true rfl, Nat.le_of_ble_eq_true rfl⟩ (fun k9 m9 h9 => h9) (fun m_2 h => ?_)
  obtain ⟨h, hm⟩ := h
  subst hm
  refine q_aload_n (j := 0) X dX9_accountOfKind_6 rfl rfl ?_
  refine q_get (k := 0) (v := .ref (ad 1 1)) X hK rfl rfl (Nat.le_of_ble_eq_true rfl) inTX9 (gc (t := 0) (by decide) (ok1 (t := 0) (Nat.le_of_ble_eq_true rfl))) kw_2_111 rfl (rv_nn (a := ad 1) (r := 1) (ok1 (t := 1) (Nat.le_of_ble_eq_true rfl)).1) dX9_accountOfKind_7 ?_
  refine q_getN (k := 9) (v := .ref (ad 10 1)) X hK rfl rfl (Nat.le_of_ble_eq_true rfl) inTX8 (gc (t := 1) (by decide) (ok1 (t := 1) (Nat.le_of_ble_eq_true rfl))) (List.mem_of_getElem? (i := 80) rfl) rfl (rv_nn (a := ad 10) (r := 1) (ok1 (t := 10) (Nat.le_of_ble_eq_true rfl)).1) dX9_accountOfKind_10 ?_
  refine q_iload_n (j := 1) X dX9_accountOfKind_13 rfl rfl ?_
  obtain ⟨b_3, h⟩ := h
  refine q_aald (t := 10) (i := 1) (jn := p0.toNatClampNeg) (v := .ref (ad 6 (6 * (1 - 1) + p0.toNatClampNeg + 1))) X hK rfl rfl (gc (t := 10) (by decide) (ok1 (t := 10) (Nat.le_of_ble_eq_true rfl))) rfl b_3 rfl (rv_nn (a := ad 6) (r := (6 * (1 - 1) + p0.toNatClampNeg + 1)) (ok_ki (ok1 (t := 10) (Nat.le_of_ble_eq_true rfl)) b_3).1) dX9_accountOfKind_14 ?_
  rw [← rv_nn (a := ad 6) (r := (6 * (1 - 1) + p0.toNatClampNeg + 1)) (ok_ki (ok1 (t := 10) (Nat.le_of_ble_eq_true rfl)) b_3).1]
  exact hE _ _ _ _ (6 * (1 - 1) + p0.toNatClampNeg + 1) _ dX9_accountOfKind_15 (Nat.le_of_ble_eq_true rfl) (Nat.le_of_ble_eq_true rfl) ⟨h, rfl⟩
theorem dX9_rateByValue_0 : decode cX9_rateByValue 0 = .ok (.aload_n 0, 1) := by decide +kernel
theorem dX9_rateByValue_1 : decode cX9_rateByValue 1 = .ok (.iload_n 1, 1) := by decide +kernel
theorem dX9_rateByValue_2 : decode cX9_rateByValue 2 = .ok (.invokevirtual 215, 3) := by decide +kernel
theorem dX9_rateByValue_5 : decode cX9_rateByValue 5 = .ok (.getfield 219, 3) := by decide +kernel
theorem dX9_rateByValue_8 : decode cX9_rateByValue 8 = .ok (.ireturn, 1) := by decide +kernel
def w_X9_rateByValue (p0 : Int32) (mm : Mm) (Q9 : Int32 → Prop) (X9 : Nat → Mm → Prop) : Prop :=
  w_X9_accountOfKind p0 mm (fun (r_1 : Nat) => ok 6 r_1 ∧ (Q9 (mm.1 6 r_1 0))) X9
def rm_X9_rateByValue : Room := { frames := 8, cells := 1, slots := 6, locals := 133 }
theorem hy_X9_rateByValue : yX9_rateByValue.cls = RX9 ∧ yX9_rateByValue.cls ≠ "java/lang/invoke/MethodHandle" ∧ yX9_rateByValue.cls ≠ "java/lang/invoke/VarHandle" ∧ (parseMethodDescriptor yX9_rateByValue.desc).map (fun d => d.parameters.length) = some 1 := by decide +kernel
set_option maxRecDepth 100000 in
set_option maxHeartbeats 4000000 in
theorem c_X9_rateByValue {l : Launch} {D : va_G} {cA : Nat → ClassId} {ad : Nat → Nat → Nat} {A : Nat → Prop} (ax : Ax ad GC A) (hst : l.stackTraces = false) (p0 : Int32) (mm : Mm) (Q9 : Int32 → Prop) (X9 : Nat → Mm → Prop) (h : w_X9_rateByValue p0 mm Q9 X9) : vx_Met l yX9_rateByValue (.code yX9_rateByValue cX9_rateByValue 2 (some .int) :: TG) rm_X9_rateByValue (PcM TT D cA ad false GC (ZC ad A) [.ref (ad 0 1), .int p0] mm) (AnsI TT D cA ad false GC A (fun r mm' => Q9 r ∧ mm = mm')) (AnsX TT D cA ad false GC A X9) 1 6 A := by
  have zo := ZC_ok ad A
  unfold w_X9_rateByValue at h
  refine enterXI pl_X9 rfl (Nat.le_of_ble_eq_true rfl) ?_
  intro p e s m args below meth c QQ X hK hZ hnm hlk htab hQ hE
  refine q_aload_n (j := 0) X dX9_rateByValue_0 rfl rfl ?_
  refine q_iload_n (j := 1) X dX9_rateByValue_1 rfl rfl ?_
  refine q_xcallr hQ hlk htab (q_runxV X hK hZ zo (gc (t := 0) (by decide) (ok1 (t := 0) (Nat.le_of_ble_eq_true rfl))) rfl rfl [.int p0] [] rfl rfl (Nat.le_of_ble_eq_true rfl) dX9_rateByValue_2 ⟨Nat.le_of_ble_eq_true rfl, Nat.le_of_ble_eq_true rfl⟩ (c_X9_accountOfKind ax hst p0 mm _ _ h) rfl rfl (gV kw_5_58 kw_5_60 ks_62 kw_1_1 kw_5_61) hy_X9_accountOfKind ⟨Nat.le_of_ble_eq_true rfl, Nat.le_of_ble_eq_true rfl⟩) ⟨Nat.le_of_ble_eq_true rfl, Nat.le_of_ble_eq_true rfl⟩ (fun k9 m9 h9 => h9) (fun r_1 m_2 h => ?_)
  obtain ⟨h, hm⟩ := h
  subst hm
  obtain ⟨k_3, h⟩ := h
  rw [rv_nn (a := ad 6) (r := r_1) k_3.1]
  refine q_getN (k := 0) (v := .int (mm.1 6 r_1 0)) X hK rfl rfl (Nat.le_of_ble_eq_true rfl) inTX5 (gc (t := 6) (by decide) k_3) (List.mem_of_getElem? (i := 51) rfl) rfl rfl dX9_rateByValue_5 ?_
  exact hE _ _ _ _ _ _ dX9_rateByValue_8 (Nat.le_of_ble_eq_true rfl) (Nat.le_of_ble_eq_true rfl) ⟨h, rfl⟩
theorem dX9_rateByWeight_0 : decode cX9_rateByWeight 0 = .ok (.aload_n 0, 1) := by decide +kernel
theorem dX9_rateByWeight_1 : decode cX9_rateByWeight 1 = .ok (.iload_n 1, 1) := by decide +kernel
theorem dX9_rateByWeight_2 : decode cX9_rateByWeight 2 = .ok (.invokevirtual 215, 3) := by decide +kernel
theorem dX9_rateByWeight_5 : decode cX9_rateByWeight 5 = .ok (.getfield 224, 3) := by decide +kernel
theorem dX9_rateByWeight_8 : decode cX9_rateByWeight 8 = .ok (.ireturn, 1) := by decide +kernel
def w_X9_rateByWeight (p0 : Int32) (mm : Mm) (Q9 : Int32 → Prop) (X9 : Nat → Mm → Prop) : Prop :=
  w_X9_accountOfKind p0 mm (fun (r_1 : Nat) => ok 6 r_1 ∧ (Q9 (mm.1 6 r_1 1))) X9
def rm_X9_rateByWeight : Room := { frames := 8, cells := 1, slots := 6, locals := 133 }
theorem hy_X9_rateByWeight : yX9_rateByWeight.cls = RX9 ∧ yX9_rateByWeight.cls ≠ "java/lang/invoke/MethodHandle" ∧ yX9_rateByWeight.cls ≠ "java/lang/invoke/VarHandle" ∧ (parseMethodDescriptor yX9_rateByWeight.desc).map (fun d => d.parameters.length) = some 1 := by decide +kernel
set_option maxRecDepth 100000 in
set_option maxHeartbeats 4000000 in
theorem c_X9_rateByWeight {l : Launch} {D : va_G} {cA : Nat → ClassId} {ad : Nat → Nat → Nat} {A : Nat → Prop} (ax : Ax ad GC A) (hst : l.stackTraces = false) (p0 : Int32) (mm : Mm) (Q9 : Int32 → Prop) (X9 : Nat → Mm → Prop) (h : w_X9_rateByWeight p0 mm Q9 X9) : vx_Met l yX9_rateByWeight (.code yX9_rateByWeight cX9_rateByWeight 2 (some .int) :: TG) rm_X9_rateByWeight (PcM TT D cA ad false GC (ZC ad A) [.ref (ad 0 1), .int p0] mm) (AnsI TT D cA ad false GC A (fun r mm' => Q9 r ∧ mm = mm')) (AnsX TT D cA ad false GC A X9) 1 6 A := by
  have zo := ZC_ok ad A
  unfold w_X9_rateByWeight at h
  refine enterXI pl_X9 rfl (Nat.le_of_ble_eq_true rfl) ?_
  intro p e s m args below meth c QQ X hK hZ hnm hlk htab hQ hE
  refine q_aload_n (j := 0) X dX9_rateByWeight_0 rfl rfl ?_
  refine q_iload_n (j := 1) X dX9_rateByWeight_1 rfl rfl ?_
  refine q_xcallr hQ hlk htab (q_runxV X hK hZ zo (gc (t := 0) (by decide) (ok1 (t := 0) (Nat.le_of_ble_eq_true rfl))) rfl rfl [.int p0] [] rfl rfl (Nat.le_of_ble_eq_true rfl) dX9_rateByWeight_2 ⟨Nat.le_of_ble_eq_true rfl, Nat.le_of_ble_eq_true rfl⟩ (c_X9_accountOfKind ax hst p0 mm _ _ h) rfl rfl (gV kw_5_58 kw_5_60 ks_62 kw_1_1 kw_5_61) hy_X9_accountOfKind ⟨Nat.le_of_ble_eq_true rfl, Nat.le_of_ble_eq_true rfl⟩) ⟨Nat.le_of_ble_eq_true rfl, Nat.le_of_ble_eq_true rfl⟩ (fun k9 m9 h9 => h9) (fun r_1 m_2 h => ?_)
  obtain ⟨h, hm⟩ := h
  subst hm
  obtain ⟨k_3, h⟩ := h
  rw [rv_nn (a := ad 6) (r := r_1) k_3.1]
  refine q_getN (k := 1) (v := .int (mm.1 6 r_1 1)) X hK rfl rfl (Nat.le_of_ble_eq_true rfl) inTX5 (gc (t := 6) (by decide) k_3) (List.mem_of_getElem? (i := 53) rfl) rfl rfl dX9_rateByWeight_5 ?_
  exact hE _ _ _ _ _ _ dX9_rateByWeight_8 (Nat.le_of_ble_eq_true rfl) (Nat.le_of_ble_eq_true rfl) ⟨h, rfl⟩
theorem dX9_entered_0 : decode cX9_entered 0 = .ok (.aload_n 0, 1) := by decide +kernel
theorem dX9_entered_1 : decode cX9_entered 1 = .ok (.iload_n 1, 1) := by decide +kernel
theorem dX9_entered_2 : decode cX9_entered 2 = .ok (.invokevirtual 215, 3) := by decide +kernel
theorem dX9_entered_5 : decode cX9_entered 5 = .ok (.getfield 254, 3) := by decide +kernel
theorem dX9_entered_8 : decode cX9_entered 8 = .ok (.ireturn, 1) := by decide +kernel
def w_X9_entered (p0 : Int32) (mm : Mm) (Q9 : Int32 → Prop) (X9 : Nat → Mm → Prop) : Prop :=
  w_X9_accountOfKind p0 mm (fun (r_1 : Nat) => ok 6 r_1 ∧ (Q9 (mm.1 6 r_1 2))) X9
def rm_X9_entered : Room := { frames := 8, cells := 1, slots := 6, locals := 133 }
theorem hy_X9_entered : yX9_entered.cls = RX9 ∧ yX9_entered.cls ≠ "java/lang/invoke/MethodHandle" ∧ yX9_entered.cls ≠ "java/lang/invoke/VarHandle" ∧ (parseMethodDescriptor yX9_entered.desc).map (fun d => d.parameters.length) = some 1 := by decide +kernel
set_option maxRecDepth 100000 in
set_option maxHeartbeats 4000000 in
theorem c_X9_entered {l : Launch} {D : va_G} {cA : Nat → ClassId} {ad : Nat → Nat → Nat} {A : Nat → Prop} (ax : Ax ad GC A) (hst : l.stackTraces = false) (p0 : Int32) (mm : Mm) (Q9 : Int32 → Prop) (X9 : Nat → Mm → Prop) (h : w_X9_entered p0 mm Q9 X9) : vx_Met l yX9_entered (.code yX9_entered cX9_entered 2 (some .int) :: TG) rm_X9_entered (PcM TT D cA ad false GC (ZC ad A) [.ref (ad 0 1), .int p0] mm) (AnsI TT D cA ad false GC A (fun r mm' => Q9 r ∧ mm = mm')) (AnsX TT D cA ad false GC A X9) 1 6 A := by
  have zo := ZC_ok ad A
  unfold w_X9_entered at h
  refine enterXI pl_X9 rfl (Nat.le_of_ble_eq_true rfl) ?_
  intro p e s m args below meth c QQ X hK hZ hnm hlk htab hQ hE
  refine q_aload_n (j := 0) X dX9_entered_0 rfl rfl ?_
  refine q_iload_n (j := 1) X dX9_entered_1 rfl rfl ?_
  refine q_xcallr hQ hlk htab (q_runxV X hK hZ zo (gc (t := 0) (by decide) (ok1 (t := 0) (Nat.le_of_ble_eq_true rfl))) rfl rfl [.int p0] [] rfl rfl (Nat.le_of_ble_eq_true rfl) dX9_entered_2 ⟨Nat.le_of_ble_eq_true rfl, Nat.le_of_ble_eq_true rfl⟩ (c_X9_accountOfKind ax hst p0 mm _ _ h) rfl rfl (gV kw_5_58 kw_5_60 ks_62 kw_1_1 kw_5_61) hy_X9_accountOfKind ⟨Nat.le_of_ble_eq_true rfl, Nat.le_of_ble_eq_true rfl⟩) ⟨Nat.le_of_ble_eq_true rfl, Nat.le_of_ble_eq_true rfl⟩ (fun k9 m9 h9 => h9) (fun r_1 m_2 h => ?_)
  obtain ⟨h, hm⟩ := h
  subst hm
  obtain ⟨k_3, h⟩ := h
  rw [rv_nn (a := ad 6) (r := r_1) k_3.1]
  refine q_getN (k := 2) (v := .int (mm.1 6 r_1 2)) X hK rfl rfl (Nat.le_of_ble_eq_true rfl) inTX5 (gc (t := 6) (by decide) k_3) (List.mem_of_getElem? (i := 55) rfl) rfl rfl dX9_entered_5 ?_
  exact hE _ _ _ _ _ _ dX9_entered_8 (Nat.le_of_ble_eq_true rfl) (Nat.le_of_ble_eq_true rfl) ⟨h, rfl⟩
theorem dX9_withdrawn_0 : decode cX9_withdrawn 0 = .ok (.aload_n 0, 1) := by decide +kernel
theorem dX9_withdrawn_1 : decode cX9_withdrawn 1 = .ok (.iload_n 1, 1) := by decide +kernel
theorem dX9_withdrawn_2 : decode cX9_withdrawn 2 = .ok (.invokevirtual 215, 3) := by decide +kernel
theorem dX9_withdrawn_5 : decode cX9_withdrawn 5 = .ok (.getfield 257, 3) := by decide +kernel
theorem dX9_withdrawn_8 : decode cX9_withdrawn 8 = .ok (.ireturn, 1) := by decide +kernel
def w_X9_withdrawn (p0 : Int32) (mm : Mm) (Q9 : Int32 → Prop) (X9 : Nat → Mm → Prop) : Prop :=
  w_X9_accountOfKind p0 mm (fun (r_1 : Nat) => ok 6 r_1 ∧ (Q9 (mm.1 6 r_1 3))) X9
def rm_X9_withdrawn : Room := { frames := 8, cells := 1, slots := 6, locals := 133 }
theorem hy_X9_withdrawn : yX9_withdrawn.cls = RX9 ∧ yX9_withdrawn.cls ≠ "java/lang/invoke/MethodHandle" ∧ yX9_withdrawn.cls ≠ "java/lang/invoke/VarHandle" ∧ (parseMethodDescriptor yX9_withdrawn.desc).map (fun d => d.parameters.length) = some 1 := by decide +kernel
set_option maxRecDepth 100000 in
set_option maxHeartbeats 4000000 in
theorem c_X9_withdrawn {l : Launch} {D : va_G} {cA : Nat → ClassId} {ad : Nat → Nat → Nat} {A : Nat → Prop} (ax : Ax ad GC A) (hst : l.stackTraces = false) (p0 : Int32) (mm : Mm) (Q9 : Int32 → Prop) (X9 : Nat → Mm → Prop) (h : w_X9_withdrawn p0 mm Q9 X9) : vx_Met l yX9_withdrawn (.code yX9_withdrawn cX9_withdrawn 2 (some .int) :: TG) rm_X9_withdrawn (PcM TT D cA ad false GC (ZC ad A) [.ref (ad 0 1), .int p0] mm) (AnsI TT D cA ad false GC A (fun r mm' => Q9 r ∧ mm = mm')) (AnsX TT D cA ad false GC A X9) 1 6 A := by
  have zo := ZC_ok ad A
  unfold w_X9_withdrawn at h
  refine enterXI pl_X9 rfl (Nat.le_of_ble_eq_true rfl) ?_
  intro p e s m args below meth c QQ X hK hZ hnm hlk htab hQ hE
  refine q_aload_n (j := 0) X dX9_withdrawn_0 rfl rfl ?_
  refine q_iload_n (j := 1) X dX9_withdrawn_1 rfl rfl ?_
  refine q_xcallr hQ hlk htab (q_runxV X hK hZ zo (gc (t := 0) (by decide) (ok1 (t := 0) (Nat.le_of_ble_eq_true rfl))) rfl rfl [.int p0] [] rfl rfl (Nat.le_of_ble_eq_true rfl) dX9_withdrawn_2 ⟨Nat.le_of_ble_eq_true rfl, Nat.le_of_ble_eq_true rfl⟩ (c_X9_accountOfKind ax hst p0 mm _ _ h) rfl rfl (gV kw_5_58 kw_5_60 ks_62 kw_1_1 kw_5_61) hy_X9_accountOfKind ⟨Nat.le_of_ble_eq_true rfl, Nat.le_of_ble_eq_true rfl⟩) ⟨Nat.le_of_ble_eq_true rfl, Nat.le_of_ble_eq_true rfl⟩ (fun k9 m9 h9 => h9) (fun r_1 m_2 h => ?_)
  obtain ⟨h, hm⟩ := h
  subst hm
  obtain ⟨k_3, h⟩ := h
  rw [rv_nn (a := ad 6) (r := r_1) k_3.1]
  refine q_getN (k := 3) (v := .int (mm.1 6 r_1 3)) X hK rfl rfl (Nat.le_of_ble_eq_true rfl) inTX5 (gc (t := 6) (by decide) k_3) (List.mem_of_getElem? (i := 57) rfl) rfl rfl dX9_withdrawn_5 ?_
  exact hE _ _ _ _ _ _ dX9_withdrawn_8 (Nat.le_of_ble_eq_true rfl) (Nat.le_of_ble_eq_true rfl) ⟨h, rfl⟩
theorem dX9_sentAbroad_0 : decode cX9_sentAbroad 0 = .ok (.aload_n 0, 1) := by decide +kernel
theorem dX9_sentAbroad_1 : decode cX9_sentAbroad 1 = .ok (.iload_n 1, 1) := by decide +kernel
theorem dX9_sentAbroad_2 : decode cX9_sentAbroad 2 = .ok (.invokevirtual 215, 3) := by decide +kernel
theorem dX9_sentAbroad_5 : decode cX9_sentAbroad 5 = .ok (.getfield 260, 3) := by decide +kernel
theorem dX9_sentAbroad_8 : decode cX9_sentAbroad 8 = .ok (.ireturn, 1) := by decide +kernel
def w_X9_sentAbroad (p0 : Int32) (mm : Mm) (Q9 : Int32 → Prop) (X9 : Nat → Mm → Prop) : Prop :=
  w_X9_accountOfKind p0 mm (fun (r_1 : Nat) => ok 6 r_1 ∧ (Q9 (mm.1 6 r_1 4))) X9
def rm_X9_sentAbroad : Room := { frames := 8, cells := 1, slots := 6, locals := 133 }
theorem hy_X9_sentAbroad : yX9_sentAbroad.cls = RX9 ∧ yX9_sentAbroad.cls ≠ "java/lang/invoke/MethodHandle" ∧ yX9_sentAbroad.cls ≠ "java/lang/invoke/VarHandle" ∧ (parseMethodDescriptor yX9_sentAbroad.desc).map (fun d => d.parameters.length) = some 1 := by decide +kernel
set_option maxRecDepth 100000 in
set_option maxHeartbeats 4000000 in
theorem c_X9_sentAbroad {l : Launch} {D : va_G} {cA : Nat → ClassId} {ad : Nat → Nat → Nat} {A : Nat → Prop} (ax : Ax ad GC A) (hst : l.stackTraces = false) (p0 : Int32) (mm : Mm) (Q9 : Int32 → Prop) (X9 : Nat → Mm → Prop) (h : w_X9_sentAbroad p0 mm Q9 X9) : vx_Met l yX9_sentAbroad (.code yX9_sentAbroad cX9_sentAbroad 2 (some .int) :: TG) rm_X9_sentAbroad (PcM TT D cA ad false GC (ZC ad A) [.ref (ad 0 1), .int p0] mm) (AnsI TT D cA ad false GC A (fun r mm' => Q9 r ∧ mm = mm')) (AnsX TT D cA ad false GC A X9) 1 6 A := by
  have zo := ZC_ok ad A
  unfold w_X9_sentAbroad at h
  refine enterXI pl_X9 rfl (Nat.le_of_ble_eq_true rfl) ?_
  intro p e s m args below meth c QQ X hK hZ hnm hlk htab hQ hE
  refine q_aload_n (j := 0) X dX9_sentAbroad_0 rfl rfl ?_
  refine q_iload_n (j := 1) X dX9_sentAbroad_1 rfl rfl ?_
  refine q_xcallr hQ hlk htab (q_runxV X hK hZ zo (gc (t := 0) (by decide) (ok1 (t := 0) (Nat.le_of_ble_eq_true rfl))) rfl rfl [.int p0] [] rfl rfl (Nat.le_of_ble_eq_true rfl) dX9_sentAbroad_2 ⟨Nat.le_of_ble_eq_true rfl, Nat.le_of_ble_eq_true rfl⟩ (c_X9_accountOfKind ax hst p0 mm _ _ h) rfl rfl (gV kw_5_58 kw_5_60 ks_62 kw_1_1 kw_5_61) hy_X9_accountOfKind ⟨Nat.le_of_ble_eq_true rfl, Nat.le_of_ble_eq_true rfl⟩) ⟨Nat.le_of_ble_eq_true rfl, Nat.le_of_ble_eq_true rfl⟩ (fun k9 m9 h9 => h9) (fun r_1 m_2 h => ?_)
  obtain ⟨h, hm⟩ := h
  subst hm
  obtain ⟨k_3, h⟩ := h
  rw [rv_nn (a := ad 6) (r := r_1) k_3.1]
  refine q_getN (k := 4) (v := .int (mm.1 6 r_1 4)) X hK rfl rfl (Nat.le_of_ble_eq_true rfl) inTX5 (gc (t := 6) (by decide) k_3) (List.mem_of_getElem? (i := 59) rfl) rfl rfl dX9_sentAbroad_5 ?_
  exact hE _ _ _ _ _ _ dX9_sentAbroad_8 (Nat.le_of_ble_eq_true rfl) (Nat.le_of_ble_eq_true rfl) ⟨h, rfl⟩
theorem dX9_wasted_0 : decode cX9_wasted 0 = .ok (.aload_n 0, 1) := by decide +kernel
theorem dX9_wasted_1 : decode cX9_wasted 1 = .ok (.iload_n 1, 1) := by decide +kernel
theorem dX9_wasted_2 : decode cX9_wasted 2 = .ok (.invokevirtual 215, 3) := by decide +kernel
theorem dX9_wasted_5 : decode cX9_wasted 5 = .ok (.getfield 263, 3) := by decide +kernel
theorem dX9_wasted_8 : decode cX9_wasted 8 = .ok (.ireturn, 1) := by decide +kernel
def w_X9_wasted (p0 : Int32) (mm : Mm) (Q9 : Int32 → Prop) (X9 : Nat → Mm → Prop) : Prop :=
  w_X9_accountOfKind p0 mm (fun (r_1 : Nat) => ok 6 r_1 ∧ (Q9 (mm.1 6 r_1 5))) X9
def rm_X9_wasted : Room := { frames := 8, cells := 1, slots := 6, locals := 133 }
theorem hy_X9_wasted : yX9_wasted.cls = RX9 ∧ yX9_wasted.cls ≠ "java/lang/invoke/MethodHandle" ∧ yX9_wasted.cls ≠ "java/lang/invoke/VarHandle" ∧ (parseMethodDescriptor yX9_wasted.desc).map (fun d => d.parameters.length) = some 1 := by decide +kernel
set_option maxRecDepth 100000 in
set_option maxHeartbeats 4000000 in
theorem c_X9_wasted {l : Launch} {D : va_G} {cA : Nat → ClassId} {ad : Nat → Nat → Nat} {A : Nat → Prop} (ax : Ax ad GC A) (hst : l.stackTraces = false) (p0 : Int32) (mm : Mm) (Q9 : Int32 → Prop) (X9 : Nat → Mm → Prop) (h : w_X9_wasted p0 mm Q9 X9) : vx_Met l yX9_wasted (.code yX9_wasted cX9_wasted 2 (some .int) :: TG) rm_X9_wasted (PcM TT D cA ad false GC (ZC ad A) [.ref (ad 0 1), .int p0] mm) (AnsI TT D cA ad false GC A (fun r mm' => Q9 r ∧ mm = mm')) (AnsX TT D cA ad false GC A X9) 1 6 A := by
  have zo := ZC_ok ad A
  unfold w_X9_wasted at h
  refine enterXI pl_X9 rfl (Nat.le_of_ble_eq_true rfl) ?_
  intro p e s m args below meth c QQ X hK hZ hnm hlk htab hQ hE
  refine q_aload_n (j := 0) X dX9_wasted_0 rfl rfl ?_
  refine q_iload_n (j := 1) X dX9_wasted_1 rfl rfl ?_
  refine q_xcallr hQ hlk htab (q_runxV X hK hZ zo (gc (t := 0) (by decide) (ok1 (t := 0) (Nat.le_of_ble_eq_true rfl))) rfl rfl [.int p0] [] rfl rfl (Nat.le_of_ble_eq_true rfl) dX9_wasted_2 ⟨Nat.le_of_ble_eq_true rfl, Nat.le_of_ble_eq_true rfl⟩ (c_X9_accountOfKind ax hst p0 mm _ _ h) rfl rfl (gV kw_5_58 kw_5_60 ks_62 kw_1_1 kw_5_61) hy_X9_accountOfKind ⟨Nat.le_of_ble_eq_true rfl, Nat.le_of_ble_eq_true rfl⟩) ⟨Nat.le_of_ble_eq_true rfl, Nat.le_of_ble_eq_true rfl⟩ (fun k9 m9 h9 => h9) (fun r_1 m_2 h => ?_)
  obtain ⟨h, hm⟩ := h
  subst hm
  obtain ⟨k_3, h⟩ := h
  rw [rv_nn (a := ad 6) (r := r_1) k_3.1]
  refine q_getN (k := 5) (v := .int (mm.1 6 r_1 5)) X hK rfl rfl (Nat.le_of_ble_eq_true rfl) inTX5 (gc (t := 6) (by decide) k_3) (List.mem_of_getElem? (i := 61) rfl) rfl rfl dX9_wasted_5 ?_
  exact hE _ _ _ _ _ _ dX9_wasted_8 (Nat.le_of_ble_eq_true rfl) (Nat.le_of_ble_eq_true rfl) ⟨h, rfl⟩
theorem dX9_lost_0 : decode cX9_lost 0 = .ok (.aload_n 0, 1) := by decide +kernel
theorem dX9_lost_1 : decode cX9_lost 1 = .ok (.iload_n 1, 1) := by decide +kernel
theorem dX9_lost_2 : decode cX9_lost 2 = .ok (.invokevirtual 215, 3) := by decide +kernel
theorem dX9_lost_5 : decode cX9_lost 5 = .ok (.getfield 266, 3) := by decide +kernel
theorem dX9_lost_8 : decode cX9_lost 8 = .ok (.ireturn, 1) := by decide +kernel
def w_X9_lost (p0 : Int32) (mm : Mm) (Q9 : Int32 → Prop) (X9 : Nat → Mm → Prop) : Prop :=
  w_X9_accountOfKind p0 mm (fun (r_1 : Nat) => ok 6 r_1 ∧ (Q9 (mm.1 6 r_1 6))) X9
def rm_X9_lost : Room := { frames := 8, cells := 1, slots := 6, locals := 133 }
theorem hy_X9_lost : yX9_lost.cls = RX9 ∧ yX9_lost.cls ≠ "java/lang/invoke/MethodHandle" ∧ yX9_lost.cls ≠ "java/lang/invoke/VarHandle" ∧ (parseMethodDescriptor yX9_lost.desc).map (fun d => d.parameters.length) = some 1 := by decide +kernel
set_option maxRecDepth 100000 in
set_option maxHeartbeats 4000000 in
theorem c_X9_lost {l : Launch} {D : va_G} {cA : Nat → ClassId} {ad : Nat → Nat → Nat} {A : Nat → Prop} (ax : Ax ad GC A) (hst : l.stackTraces = false) (p0 : Int32) (mm : Mm) (Q9 : Int32 → Prop) (X9 : Nat → Mm → Prop) (h : w_X9_lost p0 mm Q9 X9) : vx_Met l yX9_lost (.code yX9_lost cX9_lost 2 (some .int) :: TG) rm_X9_lost (PcM TT D cA ad false GC (ZC ad A) [.ref (ad 0 1), .int p0] mm) (AnsI TT D cA ad false GC A (fun r mm' => Q9 r ∧ mm = mm')) (AnsX TT D cA ad false GC A X9) 1 6 A := by
  have zo := ZC_ok ad A
  unfold w_X9_lost at h
  refine enterXI pl_X9 rfl (Nat.le_of_ble_eq_true rfl) ?_
  intro p e s m args below meth c QQ X hK hZ hnm hlk htab hQ hE
  refine q_aload_n (j := 0) X dX9_lost_0 rfl rfl ?_
  refine q_iload_n (j := 1) X dX9_lost_1 rfl rfl ?_
  refine q_xcallr hQ hlk htab (q_runxV X hK hZ zo (gc (t := 0) (by decide) (ok1 (t := 0) (Nat.le_of_ble_eq_true rfl))) rfl rfl [.int p0] [] rfl rfl (Nat.le_of_ble_eq_true rfl) dX9_lost_2 ⟨Nat.le_of_ble_eq_true rfl, Nat.le_of_ble_eq_true rfl⟩ (c_X9_accountOfKind ax hst p0 mm _ _ h) rfl rfl (gV kw_5_58 kw_5_60 ks_62 kw_1_1 kw_5_61) hy_X9_accountOfKind ⟨Nat.le_of_ble_eq_true rfl, Nat.le_of_ble_eq_true rfl⟩) ⟨Nat.le_of_ble_eq_true rfl, Nat.le_of_ble_eq_true rfl⟩ (fun k9 m9 h9 => h9) (fun r_1 m_2 h => ?_)
  obtain ⟨h, hm⟩ := h
  subst hm
  obtain ⟨k_3, h⟩ := h
  rw [rv_nn (a := ad 6) (r := r_1) k_3.1]
  refine q_getN (k := 6) (v := .int (mm.1 6 r_1 6)) X hK rfl rfl (Nat.le_of_ble_eq_true rfl) inTX5 (gc (t := 6) (by decide) k_3) (List.mem_of_getElem? (i := 63) rfl) rfl rfl dX9_lost_5 ?_
  exact hE _ _ _ _ _ _ dX9_lost_8 (Nat.le_of_ble_eq_true rfl) (Nat.le_of_ble_eq_true rfl) ⟨h, rfl⟩
theorem dX9_drawnBack_0 : decode cX9_drawnBack 0 = .ok (.aload_n 0, 1) := by decide +kernel
theorem dX9_drawnBack_1 : decode cX9_drawnBack 1 = .ok (.iload_n 1, 1) := by decide +kernel
theorem dX9_drawnBack_2 : decode cX9_drawnBack 2 = .ok (.invokevirtual 215, 3) := by decide +kernel
theorem dX9_drawnBack_5 : decode cX9_drawnBack 5 = .ok (.getfield 269, 3) := by decide +kernel
theorem dX9_drawnBack_8 : decode cX9_drawnBack 8 = .ok (.ireturn, 1) := by decide +kernel
def w_X9_drawnBack (p0 : Int32) (mm : Mm) (Q9 : Int32 → Prop) (X9 : Nat → Mm → Prop) : Prop :=
  w_X9_accountOfKind p0 mm (fun (r_1 : Nat) => ok 6 r_1 ∧ (Q9 (mm.1 6 r_1 7))) X9
def rm_X9_drawnBack : Room := { frames := 8, cells := 1, slots := 6, locals := 133 }
theorem hy_X9_drawnBack : yX9_drawnBack.cls = RX9 ∧ yX9_drawnBack.cls ≠ "java/lang/invoke/MethodHandle" ∧ yX9_drawnBack.cls ≠ "java/lang/invoke/VarHandle" ∧ (parseMethodDescriptor yX9_drawnBack.desc).map (fun d => d.parameters.length) = some 1 := by decide +kernel
set_option maxRecDepth 100000 in
set_option maxHeartbeats 4000000 in
theorem c_X9_drawnBack {l : Launch} {D : va_G} {cA : Nat → ClassId} {ad : Nat → Nat → Nat} {A : Nat → Prop} (ax : Ax ad GC A) (hst : l.stackTraces = false) (p0 : Int32) (mm : Mm) (Q9 : Int32 → Prop) (X9 : Nat → Mm → Prop) (h : w_X9_drawnBack p0 mm Q9 X9) : vx_Met l yX9_drawnBack (.code yX9_drawnBack cX9_drawnBack 2 (some .int) :: TG) rm_X9_drawnBack (PcM TT D cA ad false GC (ZC ad A) [.ref (ad 0 1), .int p0] mm) (AnsI TT D cA ad false GC A (fun r mm' => Q9 r ∧ mm = mm')) (AnsX TT D cA ad false GC A X9) 1 6 A := by
  have zo := ZC_ok ad A
  unfold w_X9_drawnBack at h
  refine enterXI pl_X9 rfl (Nat.le_of_ble_eq_true rfl) ?_
  intro p e s m args below meth c QQ X hK hZ hnm hlk htab hQ hE
  refine q_aload_n (j := 0) X dX9_drawnBack_0 rfl rfl ?_
  refine q_iload_n (j := 1) X dX9_drawnBack_1 rfl rfl ?_
  refine q_xcallr hQ hlk htab (q_runxV X hK hZ zo (gc (t := 0) (by decide) (ok1 (t := 0) (Nat.le_of_ble_eq_true rfl))) rfl rfl [.int p0] [] rfl rfl (Nat.le_of_ble_eq_true rfl) dX9_drawnBack_2 ⟨Nat.le_of_ble_eq_true rfl, Nat.le_of_ble_eq_true rfl⟩ (c_X9_accountOfKind ax hst p0 mm _ _ h) rfl rfl (gV kw_5_58 kw_5_60 ks_62 kw_1_1 kw_5_61) hy_X9_accountOfKind ⟨Nat.le_of_ble_eq_true rfl, Nat.le_of_ble_eq_true rfl⟩) ⟨Nat.le_of_ble_eq_true rfl, Nat.le_of_ble_eq_true rfl⟩ (fun k9 m9 h9 => h9) (fun r_1 m_2 h => ?_)
  obtain ⟨h, hm⟩ := h
  subst hm
  obtain ⟨k_3, h⟩ := h
  rw [rv_nn (a := ad 6) (r := r_1) k_3.1]
  refine q_getN (k := 7) (v := .int (mm.1 6 r_1 7)) X hK rfl rfl (Nat.le_of_ble_eq_true rfl) inTX5 (gc (t := 6) (by decide) k_3) (List.mem_of_getElem? (i := 65) rfl) rfl rfl dX9_drawnBack_5 ?_
  exact hE _ _ _ _ _ _ dX9_drawnBack_8 (Nat.le_of_ble_eq_true rfl) (Nat.le_of_ble_eq_true rfl) ⟨h, rfl⟩
theorem dX9_stockByEntries_0 : decode cX9_stockByEntries 0 = .ok (.iload_n 1, 1) := by decide +kernel
theorem dX9_stockByEntries_1 : decode cX9_stockByEntries 1 = .ok (.iconst 0, 1) := by decide +kernel
theorem dX9_stockByEntries_2 : decode cX9_stockByEntries 2 = .ok (.iconst 5, 1) := by decide +kernel
theorem dX9_stockByEntries_3 : decode cX9_stockByEntries 3 = .ok (.invokestatic 154, 3) := by decide +kernel
theorem dX9_stockByEntries_6 : decode cX9_stockByEntries 6 = .ok (.aload_n 0, 1) := by decide +kernel
theorem dX9_stockByEntries_7 : decode cX9_stockByEntries 7 = .ok (.getfield 10, 3) := by decide +kernel
theorem dX9_stockByEntries_10 : decode cX9_stockByEntries 10 = .ok (.iload_n 1, 1) := by decide +kernel
theorem dX9_stockByEntries_11 : decode cX9_stockByEntries 11 = .ok (.invokevirtual 272, 3) := by decide +kernel
theorem dX9_stockByEntries_14 : decode cX9_stockByEntries 14 = .ok (.ireturn, 1) := by decide +kernel
def w_X9_stockByEntries (p0 : Int32) (mm : Mm) (Q9 : Int32 → Prop) (X9 : Nat → Mm → Prop) : Prop :=
  w_X9_requireWithin p0 0 5 mm (w_X8_stockOf 1 p0 mm (fun (r_3 : Int32) => Q9 r_3)) X9
def rm_X9_stockByEntries : Room := { frames := 7, cells := 1, slots := 6, locals := 112 }
theorem hy_X9_stockByEntries : yX9_stockByEntries.cls = RX9 ∧ yX9_stockByEntries.cls ≠ "java/lang/invoke/MethodHandle" ∧ yX9_stockByEntries.cls ≠ "java/lang/invoke/VarHandle" ∧ (parseMethodDescriptor yX9_stockByEntries.desc).map (fun d => d.parameters.length) = some 1 := by decide +kernel
set_option maxRecDepth 100000 in
set_option maxHeartbeats 4000000 in
theorem c_X9_stockByEntries {l : Launch} {D : va_G} {cA : Nat → ClassId} {ad : Nat → Nat → Nat} {A : Nat → Prop} (ax : Ax ad GC A) (hst : l.stackTraces = false) (p0 : Int32) (mm : Mm) (Q9 : Int32 → Prop) (X9 : Nat → Mm → Prop) (h : w_X9_stockByEntries p0 mm Q9 X9) : vx_Met l yX9_stockByEntries (.code yX9_stockByEntries cX9_stockByEntries 2 (some .int) :: TG) rm_X9_stockByEntries (PcM TT D cA ad false GC (ZC ad A) [.ref (ad 0 1), .int p0] mm) (AnsI TT D cA ad false GC A (fun r mm' => Q9 r ∧ mm = mm')) (AnsX TT D cA ad false GC A X9) 1 6 A := by
  have zo := ZC_ok ad A
  unfold w_X9_stockByEntries at h
  refine enterXI pl_X9 rfl (Nat.le_of_ble_eq_true rfl) ?_
  intro p e s m args below meth c QQ X hK hZ hnm hlk htab hQ hE
  refine q_iload_n (j := 1) X dX9_stockByEntries_0 rfl rfl ?_
  refine q_iconst (v := 0) X dX9_stockByEntries_1 (by decide) ?_
  refine q_iconst (v := 5) X dX9_stockByEntries_2 (by decide) ?_
  refine q_xcallv hQ hlk htab (q_runxS X hK hZ zo [.int p0, .int 0, .int 5] [] rfl rfl (Nat.le_of_ble_eq_true rfl) dX9_stockByEntries_3 ⟨Nat.le_of_ble_eq_true rfl, Nat.le_of_ble_eq_true rfl⟩ (c_X9_requireWithin ax hst p0 0 5 mm _ _ h) rfl rfl (gS kw_4_203 kw_4_204 kw_1_1 kw_4_205) hy_X9_requireWithin.2 ⟨Nat.le_of_ble_eq_true rfl, Nat.le_of_ble_eq_true rfl⟩) ⟨Nat.le_of_ble_eq_true rfl, Nat.le_of_ble_eq_true rfl⟩ (fun k9 m9 h9 => h9) (fun m_2 h => ?_)
  obtain ⟨h, hm⟩ := h
  subst hm
  refine q_aload_n (j := 0) X dX9_stockByEntries_6 rfl rfl ?_
  refine q_get (k := 0) (v := .ref (ad 1 1)) X hK rfl rfl (Nat.le_of_ble_eq_true rfl) inTX9 (gc (t := 0) (by decide) (ok1 (t := 0) (Nat.le_of_ble_eq_true rfl))) kw_2_111 rfl (rv_nn (a := ad 1) (r := 1) (ok1 (t := 1) (Nat.le_of_ble_eq_true rfl)).1) dX9_stockByEntries_7 ?_
  refine q_iload_n (j := 1) X dX9_stockByEntries_10 rfl rfl ?_
  refine q_calli (q_runVN X hK hZ zo (gc (t := 1) (by decide) (ok1 (t := 1) (Nat.le_of_ble_eq_true rfl))) rfl rfl [.int p0] [] rfl rfl (Nat.le_of_ble_eq_true rfl) dX9_stockByEntries_11 ⟨Nat.le_of_ble_eq_true rfl, Nat.le_of_ble_eq_true rfl⟩ (c_X8_stockOf ax 1 (ok1 (t := 1) (Nat.le_of_ble_eq_true rfl)) p0 mm _ h) rfl rfl (List.mem_of_getElem? (i := 77) rfl) kw_1_2 kw_5_121 kw_5_120 ks_63 hy_X8_stockOf.2 ⟨Nat.le_of_ble_eq_true rfl, Nat.le_of_ble_eq_true rfl⟩) (fun r_3 m_4 h => ?_)
  obtain ⟨h, hm⟩ := h
  subst hm
  exact hE _ _ _ _ _ _ dX9_stockByEntries_14 (Nat.le_of_ble_eq_true rfl) (Nat.le_of_ble_eq_true rfl) ⟨h, rfl⟩
theorem dX9_stockByTotals_0 : decode cX9_stockByTotals 0 = .ok (.aload_n 0, 1) := by decide +kernel
theorem dX9_stockByTotals_1 : decode cX9_stockByTotals 1 = .ok (.iload_n 1, 1) := by decide +kernel
theorem dX9_stockByTotals_2 : decode cX9_stockByTotals 2 = .ok (.invokevirtual 215, 3) := by decide +kernel
theorem dX9_stockByTotals_5 : decode cX9_stockByTotals 5 = .ok (.astore_n 2, 1) := by decide +kernel
theorem dX9_stockByTotals_6 : decode cX9_stockByTotals 6 = .ok (.aload_n 2, 1) := by decide +kernel
theorem dX9_stockByTotals_7 : decode cX9_stockByTotals 7 = .ok (.getfield 254, 3) := by decide +kernel
theorem dX9_stockByTotals_10 : decode cX9_stockByTotals 10 = .ok (.aload_n 2, 1) := by decide +kernel
theorem dX9_stockByTotals_11 : decode cX9_stockByTotals 11 = .ok (.getfield 257, 3) := by decide +kernel
theorem dX9_stockByTotals_14 : decode cX9_stockByTotals 14 = .ok (.isub, 1) := by decide +kernel
theorem dX9_stockByTotals_15 : decode cX9_stockByTotals 15 = .ok (.aload_n 2, 1) := by decide +kernel
theorem dX9_stockByTotals_16 : decode cX9_stockByTotals 16 = .ok (.getfield 260, 3) := by decide +kernel
theorem dX9_stockByTotals_19 : decode cX9_stockByTotals 19 = .ok (.isub, 1) := by decide +kernel
theorem dX9_stockByTotals_20 : decode cX9_stockByTotals 20 = .ok (.aload_n 2, 1) := by decide +kernel
theorem dX9_stockByTotals_21 : decode cX9_stockByTotals 21 = .ok (.getfield 263, 3) := by decide +kernel
theorem dX9_stockByTotals_24 : decode cX9_stockByTotals 24 = .ok (.isub, 1) := by decide +kernel
theorem dX9_stockByTotals_25 : decode cX9_stockByTotals 25 = .ok (.aload_n 2, 1) := by decide +kernel
theorem dX9_stockByTotals_26 : decode cX9_stockByTotals 26 = .ok (.getfield 266, 3) := by decide +kernel
theorem dX9_stockByTotals_29 : decode cX9_stockByTotals 29 = .ok (.isub, 1) := by decide +kernel
theorem dX9_stockByTotals_30 : decode cX9_stockByTotals 30 = .ok (.ireturn, 1) := by decide +kernel
def w_X9_stockByTotals (p0 : Int32) (mm : Mm) (Q9 : Int32 → Prop) (X9 : Nat → Mm → Prop) : Prop :=
  w_X9_accountOfKind p0 mm (fun (r_1 : Nat) => ok 6 r_1 ∧ (Q9 (((((mm.1 6 r_1 2) - (mm.1 6 r_1 3)) - (mm.1 6 r_1 4)) - (mm.1 6 r_1 5)) - (mm.1 6 r_1 6)))) X9
def rm_X9_stockByTotals : Room := { frames := 8, cells := 1, slots := 6, locals := 133 }
theorem hy_X9_stockByTotals : yX9_stockByTotals.cls = RX9 ∧ yX9_stockByTotals.cls ≠ "java/lang/invoke/MethodHandle" ∧ yX9_stockByTotals.cls ≠ "java/lang/invoke/VarHandle" ∧ (parseMethodDescriptor yX9_stockByTotals.desc).map (fun d => d.parameters.length) = some 1 := by decide +kernel
set_option maxRecDepth 100000 in
set_option maxHeartbeats 4000000 in
theorem c_X9_stockByTotals {l : Launch} {D : va_G} {cA : Nat → ClassId} {ad : Nat → Nat → Nat} {A : Nat → Prop} (ax : Ax ad GC A) (hst : l.stackTraces = false) (p0 : Int32) (mm : Mm) (Q9 : Int32 → Prop) (X9 : Nat → Mm → Prop) (h : w_X9_stockByTotals p0 mm Q9 X9) : vx_Met l yX9_stockByTotals (.code yX9_stockByTotals cX9_stockByTotals 3 (some .int) :: TG) rm_X9_stockByTotals (PcM TT D cA ad false GC (ZC ad A) [.ref (ad 0 1), .int p0] mm) (AnsI TT D cA ad false GC A (fun r mm' => Q9 r ∧ mm = mm')) (AnsX TT D cA ad false GC A X9) 1 6 A := by
  have zo := ZC_ok ad A
  unfold w_X9_stockByTotals at h
  refine enterXI pl_X9 rfl (Nat.le_of_ble_eq_true rfl) ?_
  intro p e s m args below meth c QQ X hK hZ hnm hlk htab hQ hE
  refine q_aload_n (j := 0) X dX9_stockByTotals_0 rfl rfl ?_
  refine q_iload_n (j := 1) X dX9_stockByTotals_1 rfl rfl ?_
  refine q_xcallr hQ hlk htab (q_runxV X hK hZ zo (gc (t := 0) (by decide) (ok1 (t := 0) (Nat.le_of_ble_eq_true rfl))) rfl rfl [.int p0] [] rfl rfl (Nat.le_of_ble_eq_true rfl) dX9_stockByTotals_2 ⟨Nat.le_of_ble_eq_true rfl, Nat.le_of_ble_eq_true rfl⟩ (c_X9_accountOfKind ax hst p0 mm _ _ h) rfl rfl (gV kw_5_58 kw_5_60 ks_62 kw_1_1 kw_5_61) hy_X9_accountOfKind ⟨Nat.le_of_ble_eq_true rfl, Nat.le_of_ble_eq_true rfl⟩) ⟨Nat.le_of_ble_eq_true rfl, Nat.le_of_ble_eq_true rfl⟩ (fun k9 m9 h9 => h9) (fun r_1 m_2 h => ?_)
  obtain ⟨h, hm⟩ := h
  subst hm
  refine q_vstore_n (lv' := [(2, rv (ad 6) r_1), (0, .ref (ad 0 1)), (1, .int p0)]) X dX9_stockByTotals_5 rfl (by decide) rfl ?_
  refine q_vload_n (j := 0) X dX9_stockByTotals_6 rfl rfl ?_
  obtain ⟨k_3, h⟩ := h
  rw [rv_nn (a := ad 6) (r := r_1) k_3.1]
  refine q_getN (k := 2) (v := .int (mm.1 6 r_1 2)) X hK rfl rfl (Nat.le_of_ble_eq_true rfl) inTX5 (gc (t := 6) (by decide) k_3) (List.mem_of_getElem? (i := 55) rfl) rfl rfl dX9_stockByTotals_7 ?_
  refine q_aload_n (j := 0) X dX9_stockByTotals_10 rfl rfl ?_
  refine q_getN (k := 3) (v := .int (mm.1 6 r_1 3)) X hK rfl rfl (Nat.le_of_ble_eq_true rfl) inTX5 (gc (t := 6) (by decide) k_3) (List.mem_of_getElem? (i := 57) rfl) rfl rfl dX9_stockByTotals_11 ?_
  refine q_isub X dX9_stockByTotals_14 ?_
  refine q_aload_n (j := 0) X dX9_stockByTotals_15 rfl rfl ?_
  refine q_getN (k := 4) (v := .int (mm.1 6 r_1 4)) X hK rfl rfl (Nat.le_of_ble_eq_true rfl) inTX5 (gc (t := 6) (by decide) k_3) (List.mem_of_getElem? (i := 59) rfl) rfl rfl dX9_stockByTotals_16 ?_
  refine q_isub X dX9_stockByTotals_19 ?_
  refine q_aload_n (j := 0) X dX9_stockByTotals_20 rfl rfl ?_
  refine q_getN (k := 5) (v := .int (mm.1 6 r_1 5)) X hK rfl rfl (Nat.le_of_ble_eq_true rfl) inTX5 (gc (t := 6) (by decide) k_3) (List.mem_of_getElem? (i := 61) rfl) rfl rfl dX9_stockByTotals_21 ?_
  refine q_isub X dX9_stockByTotals_24 ?_
  refine q_aload_n (j := 0) X dX9_stockByTotals_25 rfl rfl ?_
  refine q_getN (k := 6) (v := .int (mm.1 6 r_1 6)) X hK rfl rfl (Nat.le_of_ble_eq_true rfl) inTX5 (gc (t := 6) (by decide) k_3) (List.mem_of_getElem? (i := 63) rfl) rfl rfl dX9_stockByTotals_26 ?_
  refine q_isub X dX9_stockByTotals_29 ?_
  exact hE _ _ _ _ _ _ dX9_stockByTotals_30 (Nat.le_of_ble_eq_true rfl) (Nat.le_of_ble_eq_true rfl) ⟨h, rfl⟩
theorem dX9_whyNoEntry_0 : decode cX9_whyNoEntry 0 = .ok (.iload_n 1, 1) := by decide +kernel
theorem dX9_whyNoEntry_1 : decode cX9_whyNoEntry 1 = .ok (.iload_n 2, 1) := by decide +kernel
theorem dX9_whyNoEntry_2 : decode cX9_whyNoEntry 2 = .ok (.iload_n 3, 1) := by decide +kernel
theorem dX9_whyNoEntry_3 : decode cX9_whyNoEntry 3 = .ok (.iload 4, 2) := by decide +kernel
theorem dX9_whyNoEntry_5 : decode cX9_whyNoEntry 5 = .ok (.invokestatic 275, 3) := by decide +kernel
theorem dX9_whyNoEntry_8 : decode cX9_whyNoEntry 8 = .ok (.ifCond .ne 14, 3) := by decide +kernel
theorem dX9_whyNoEntry_11 : decode cX9_whyNoEntry 11 = .ok (.new 279, 3) := by decide +kernel
theorem dX9_whyNoEntry_14 : decode cX9_whyNoEntry 14 = .ok (.dup, 1) := by decide +kernel
theorem dX9_whyNoEntry_15 : decode cX9_whyNoEntry 15 = .ok (.ldc_w 281, 3) := by decide +kernel
theorem dX9_whyNoEntry_18 : decode cX9_whyNoEntry 18 = .ok (.invokespecial 283, 3) := by decide +kernel
theorem dX9_whyNoEntry_21 : decode cX9_whyNoEntry 21 = .ok (.athrow, 1) := by decide +kernel
theorem dX9_whyNoEntry_22 : decode cX9_whyNoEntry 22 = .ok (.aload_n 0, 1) := by decide +kernel
theorem dX9_whyNoEntry_23 : decode cX9_whyNoEntry 23 = .ok (.getfield 10, 3) := by decide +kernel
theorem dX9_whyNoEntry_26 : decode cX9_whyNoEntry 26 = .ok (.iload_n 1, 1) := by decide +kernel
theorem dX9_whyNoEntry_27 : decode cX9_whyNoEntry 27 = .ok (.iload_n 2, 1) := by decide +kernel
theorem dX9_whyNoEntry_28 : decode cX9_whyNoEntry 28 = .ok (.iload_n 3, 1) := by decide +kernel
theorem dX9_whyNoEntry_29 : decode cX9_whyNoEntry 29 = .ok (.iload 4, 2) := by decide +kernel
theorem dX9_whyNoEntry_31 : decode cX9_whyNoEntry 31 = .ok (.invokevirtual 284, 3) := by decide +kernel
theorem dX9_whyNoEntry_34 : decode cX9_whyNoEntry 34 = .ok (.ireturn, 1) := by decide +kernel
def w_X9_whyNoEntry (p0 : Int32) (p1 : Int32) (p2 : Int32) (p3 : Int32) (mm : Mm) (Q9 : Int32 → Prop) (X9 : Nat → Mm → Prop) : Prop :=
  w_X9_areGoods p0 p1 p2 p3 mm (fun (r_1 : Int32) => ((¬ r_1 = 0 → w_X8_reasonAgainstEntry 1 p0 p1 p2 p3 mm (fun (r_4 : Int32) => Q9 r_4)) ∧
  (r_1 = 0 → X9 2 mm)))
def rm_X9_whyNoEntry : Room := { frames := 6, cells := 1, slots := 6, locals := 92 }
theorem hy_X9_whyNoEntry : yX9_whyNoEntry.cls = RX9 ∧ yX9_whyNoEntry.cls ≠ "java/lang/invoke/MethodHandle" ∧ yX9_whyNoEntry.cls ≠ "java/lang/invoke/VarHandle" ∧ (parseMethodDescriptor yX9_whyNoEntry.desc).map (fun d => d.parameters.length) = some 4 := by decide +kernel
set_option maxRecDepth 100000 in
set_option maxHeartbeats 4000000 in
theorem c_X9_whyNoEntry {l : Launch} {D : va_G} {cA : Nat → ClassId} {ad : Nat → Nat → Nat} {A : Nat → Prop} (ax : Ax ad GC A) (hst : l.stackTraces = false) (p0 : Int32) (p1 : Int32) (p2 : Int32) (p3 : Int32) (mm : Mm) (Q9 : Int32 → Prop) (X9 : Nat → Mm → Prop) (h : w_X9_whyNoEntry p0 p1 p2 p3 mm Q9 X9) : vx_Met l yX9_whyNoEntry (.code yX9_whyNoEntry cX9_whyNoEntry 5 (some .int) :: TG) rm_X9_whyNoEntry (PcM TT D cA ad false GC (ZC ad A) [.ref (ad 0 1), .int p0, .int p1, .int p2, .int p3] mm) (AnsI TT D cA ad false GC A (fun r mm' => Q9 r ∧ mm = mm')) (AnsX TT D cA ad false GC A X9) 1 6 A := by
  have zo := ZC_ok ad A
  unfold w_X9_whyNoEntry at h
  refine enterXI pl_X9 rfl (Nat.le_of_ble_eq_true rfl) ?_
  intro p e s m args below meth c QQ X hK hZ hnm hlk htab hQ hE
  refine q_iload_n (j := 1) X dX9_whyNoEntry_0 rfl rfl ?_
  refine q_iload_n (j := 2) X dX9_whyNoEntry_1 rfl rfl ?_
  refine q_iload_n (j := 3) X dX9_whyNoEntry_2 rfl rfl ?_
  refine q_iload (j := 4) X dX9_whyNoEntry_3 rfl ?_
  refine q_calli (q_runS X hK hZ zo [.int p0, .int p1, .int p2, .int p3] [] rfl rfl (Nat.le_of_ble_eq_true rfl) dX9_whyNoEntry_5 ⟨Nat.le_of_ble_eq_true rfl, Nat.le_of_ble_eq_true rfl⟩ (c_X9_areGoods ax p0 p1 p2 p3 mm _ h) rfl rfl (gS kw_6_156 kw_2_154 kw_1_1 kw_2_155) hy_X9_areGoods.2 ⟨Nat.le_of_ble_eq_true rfl, Nat.le_of_ble_eq_true rfl⟩) (fun r_1 m_2 h => ?_)
  obtain ⟨h, hm⟩ := h
  subst hm
  refine q_if_ne (tgt := 22) X dX9_whyNoEntry_8 (by decide) (fun c_3 => ?_) (fun c_3 => ?_)
  · have h := h.1 c_3
    refine q_aload_n (j := 0) X dX9_whyNoEntry_22 rfl rfl ?_
    refine q_get (k := 0) (v := .ref (ad 1 1)) X hK rfl rfl (Nat.le_of_ble_eq_true rfl) inTX9 (gc (t := 0) (by decide) (ok1 (t := 0) (Nat.le_of_ble_eq_true rfl))) kw_2_111 rfl (rv_nn (a := ad 1) (r := 1) (ok1 (t := 1) (Nat.le_of_ble_eq_true rfl)).1) dX9_whyNoEntry_23 ?_
    refine q_iload_n (j := 1) X dX9_whyNoEntry_26 rfl rfl ?_
    refine q_iload_n (j := 2) X dX9_whyNoEntry_27 rfl rfl ?_
    refine q_iload_n (j := 3) X dX9_whyNoEntry_28 rfl rfl ?_
    refine q_iload (j := 4) X dX9_whyNoEntry_29 rfl ?_
    refine q_calli (q_runVN X hK hZ zo (gc (t := 1) (by decide) (ok1 (t := 1) (Nat.le_of_ble_eq_true rfl))) rfl rfl [.int p0, .int p1, .int p2, .int p3] [] rfl rfl (Nat.le_of_ble_eq_true rfl) dX9_whyNoEntry_31 ⟨Nat.le_of_ble_eq_true rfl, Nat.le_of_ble_eq_true rfl⟩ (c_X8_reasonAgainstEntry ax 1 (ok1 (t := 1) (Nat.le_of_ble_eq_true rfl)) p0 p1 p2 p3 mm _ h) rfl rfl (List.mem_of_getElem? (i := 102) rfl) kw_1_2 kw_2_162 kw_2_161 ks_1 hy_X8_reasonAgainstEntry.2 ⟨Nat.le_of_ble_eq_true rfl, Nat.le_of_ble_eq_true rfl⟩) (fun r_4 m_5 h => ?_)
    obtain ⟨h, hm⟩ := h
    subst hm
    exact hE _ _ _ _ _ _ dX9_whyNoEntry_34 (Nat.le_of_ble_eq_true rfl) (Nat.le_of_ble_eq_true rfl) ⟨h, rfl⟩
  · have h := h.2 c_3
    exact q_throwSW (k := 2) X hQ hlk htab hst hZ thr_2 (List.mem_of_getElem? (i := 1) rfl) dX9_whyNoEntry_11 dX9_whyNoEntry_14 dX9_whyNoEntry_15 dX9_whyNoEntry_18 dX9_whyNoEntry_21 (Nat.le_of_ble_eq_true rfl) (Nat.le_of_ble_eq_true rfl) (Nat.le_of_ble_eq_true rfl) (Nat.le_of_ble_eq_true rfl) (Nat.le_of_ble_eq_true rfl) (Nat.le_of_ble_eq_true rfl) h
theorem dX9_whyNoWithdrawal_0 : decode cX9_whyNoWithdrawal 0 = .ok (.aload_n 0, 1) := by decide +kernel
theorem dX9_whyNoWithdrawal_1 : decode cX9_whyNoWithdrawal 1 = .ok (.iload_n 1, 1) := by decide +kernel
theorem dX9_whyNoWithdrawal_2 : decode cX9_whyNoWithdrawal 2 = .ok (.invokevirtual 127, 3) := by decide +kernel
theorem dX9_whyNoWithdrawal_5 : decode cX9_whyNoWithdrawal 5 = .ok (.astore_n 3, 1) := by decide +kernel
theorem dX9_whyNoWithdrawal_6 : decode cX9_whyNoWithdrawal 6 = .ok (.iload_n 2, 1) := by decide +kernel
theorem dX9_whyNoWithdrawal_7 : decode cX9_whyNoWithdrawal 7 = .ok (.iconst 1, 1) := by decide +kernel
theorem dX9_whyNoWithdrawal_8 : decode cX9_whyNoWithdrawal 8 = .ok (.sipush 999, 3) := by decide +kernel
theorem dX9_whyNoWithdrawal_11 : decode cX9_whyNoWithdrawal 11 = .ok (.invokestatic 154, 3) := by decide +kernel
theorem dX9_whyNoWithdrawal_14 : decode cX9_whyNoWithdrawal 14 = .ok (.aload_n 0, 1) := by decide +kernel
theorem dX9_whyNoWithdrawal_15 : decode cX9_whyNoWithdrawal 15 = .ok (.getfield 10, 3) := by decide +kernel
theorem dX9_whyNoWithdrawal_18 : decode cX9_whyNoWithdrawal 18 = .ok (.aload_n 3, 1) := by decide +kernel
theorem dX9_whyNoWithdrawal_19 : decode cX9_whyNoWithdrawal 19 = .ok (.iload_n 2, 1) := by decide +kernel
theorem dX9_whyNoWithdrawal_20 : decode cX9_whyNoWithdrawal 20 = .ok (.invokevirtual 287, 3) := by decide +kernel
theorem dX9_whyNoWithdrawal_23 : decode cX9_whyNoWithdrawal 23 = .ok (.ireturn, 1) := by decide +kernel
def w_X9_whyNoWithdrawal (p0 : Int32) (p1 : Int32) (mm : Mm) (Q9 : Int32 → Prop) (X9 : Nat → Mm → Prop) : Prop :=
  w_X9_entryNumbered p0 mm (fun (r_1 : Nat) => w_X9_requireWithin p1 1 999 mm (ok 3 r_1 ∧ w_X8_reasonAgainstWithdrawal 1 r_1 p1 mm (fun (r_6 : Int32) => Q9 r_6)) X9) X9
def rm_X9_whyNoWithdrawal : Room := { frames := 7, cells := 2, slots := 12, locals := 112 }
theorem hy_X9_whyNoWithdrawal : yX9_whyNoWithdrawal.cls = RX9 ∧ yX9_whyNoWithdrawal.cls ≠ "java/lang/invoke/MethodHandle" ∧ yX9_whyNoWithdrawal.cls ≠ "java/lang/invoke/VarHandle" ∧ (parseMethodDescriptor yX9_whyNoWithdrawal.desc).map (fun d => d.parameters.length) = some 2 := by decide +kernel
set_option maxRecDepth 100000 in
set_option maxHeartbeats 4000000 in
theorem c_X9_whyNoWithdrawal {l : Launch} {D : va_G} {cA : Nat → ClassId} {ad : Nat → Nat → Nat} {A : Nat → Prop} (ax : Ax ad GC A) (hst : l.stackTraces = false) (p0 : Int32) (p1 : Int32) (mm : Mm) (Q9 : Int32 → Prop) (X9 : Nat → Mm → Prop) (h : w_X9_whyNoWithdrawal p0 p1 mm Q9 X9) : vx_Met l yX9_whyNoWithdrawal (.code yX9_whyNoWithdrawal cX9_whyNoWithdrawal 4 (some .int) :: TG) rm_X9_whyNoWithdrawal (PcM TT D cA ad false GC (ZC ad A) [.ref (ad 0 1), .int p0, .int p1] mm) (AnsI TT D cA ad false GC A (fun r mm' => Q9 r ∧ mm = mm')) (AnsX TT D cA ad false GC A X9) 2 12 A := by
  have zo := ZC_ok ad A
  unfold w_X9_whyNoWithdrawal at h
  refine enterXI pl_X9 rfl (Nat.le_of_ble_eq_true rfl) ?_
  intro p e s m args below meth c QQ X hK hZ hnm hlk htab hQ hE
  refine q_aload_n (j := 0) X dX9_whyNoWithdrawal_0 rfl rfl ?_
  refine q_iload_n (j := 1) X dX9_whyNoWithdrawal_1 rfl rfl ?_
  refine q_xcallr hQ hlk htab (q_runxV X hK hZ zo (gc (t := 0) (by decide) (ok1 (t := 0) (Nat.le_of_ble_eq_true rfl))) rfl rfl [.int p0] [] rfl rfl (Nat.le_of_ble_eq_true rfl) dX9_whyNoWithdrawal_2 ⟨Nat.le_of_ble_eq_true rfl, Nat.le_of_ble_eq_true rfl⟩ (c_X9_entryNumbered ax hst p0 mm _ _ h) rfl rfl (gV kw_4_161 kw_4_163 ks_58 kw_1_1 kw_4_164) hy_X9_entryNumbered ⟨Nat.le_of_ble_eq_true rfl, Nat.le_of_ble_eq_true rfl⟩) ⟨Nat.le_of_ble_eq_true rfl, Nat.le_of_ble_eq_true rfl⟩ (fun k9 m9 h9 => h9) (fun r_1 m_2 h => ?_)
  obtain ⟨h, hm⟩ := h
  subst hm
  refine q_vstore_n (lv' := [(3, rv (ad 3) r_1), (0, .ref (ad 0 1)), (1, .int p0), (2, .int p1)]) X dX9_whyNoWithdrawal_5 rfl (by decide) rfl ?_
  refine q_iload_n (j := 3) X dX9_whyNoWithdrawal_6 rfl rfl ?_
  refine q_iconst (v := 1) X dX9_whyNoWithdrawal_7 (by decide) ?_
  refine q_sipush (v := 999) X dX9_whyNoWithdrawal_8 (by decide) ?_
  refine q_xcallv hQ hlk htab (q_runxS X hK hZ zo [.int p1, .int 1, .int 999] [] rfl rfl (Nat.le_of_ble_eq_true rfl) dX9_whyNoWithdrawal_11 ⟨Nat.le_of_ble_eq_true rfl, Nat.le_of_ble_eq_true rfl⟩ (c_X9_requireWithin ax hst p1 1 999 mm _ _ h) rfl rfl (gS kw_4_203 kw_4_204 kw_1_1 kw_4_205) hy_X9_requireWithin.2 ⟨Nat.le_of_ble_eq_true rfl, Nat.le_of_ble_eq_true rfl⟩) ⟨Nat.le_of_ble_eq_true rfl, Nat.le_of_ble_eq_true rfl⟩ (fun k9 m9 h9 => h9) (fun m_4 h => ?_)
  obtain ⟨h, hm⟩ := h
  subst hm
  refine q_aload_n (j := 1) X dX9_whyNoWithdrawal_14 rfl rfl ?_
  refine q_get (k := 0) (v := .ref (ad 1 1)) X hK rfl rfl (Nat.le_of_ble_eq_true rfl) inTX9 (gc (t := 0) (by decide) (ok1 (t := 0) (Nat.le_of_ble_eq_true rfl))) kw_2_111 rfl (rv_nn (a := ad 1) (r := 1) (ok1 (t := 1) (Nat.le_of_ble_eq_true rfl)).1) dX9_whyNoWithdrawal_15 ?_
  refine q_vload_n (j := 0) X dX9_whyNoWithdrawal_18 rfl rfl ?_
  refine q_iload_n (j := 3) X dX9_whyNoWithdrawal_19 rfl rfl ?_
  obtain ⟨k_5, h⟩ := h
  rw [rv_nn (a := ad 3) (r := r_1) k_5.1]
  refine q_calli (q_runVN X hK hZ zo (gc (t := 1) (by decide) (ok1 (t := 1) (Nat.le_of_ble_eq_true rfl))) rfl rfl [.ref (ad 3 r_1), .int p1] [] rfl rfl (Nat.le_of_ble_eq_true rfl) dX9_whyNoWithdrawal_20 ⟨Nat.le_of_ble_eq_true rfl, Nat.le_of_ble_eq_true rfl⟩ (c_X8_reasonAgainstWithdrawal ax 1 (ok1 (t := 1) (Nat.le_of_ble_eq_true rfl)) r_1 k_5 p1 mm _ h) rfl rfl (List.mem_of_getElem? (i := 78) rfl) kw_1_2 kw_3_111 kw_3_110 ks_20 hy_X8_reasonAgainstWithdrawal.2 ⟨Nat.le_of_ble_eq_true rfl, Nat.le_of_ble_eq_true rfl⟩) (fun r_6 m_7 h => ?_)
  obtain ⟨h, hm⟩ := h
  subst hm
  exact hE _ _ _ _ _ _ dX9_whyNoWithdrawal_23 (Nat.le_of_ble_eq_true rfl) (Nat.le_of_ble_eq_true rfl) ⟨h, rfl⟩
theorem dX9_whyNoExport_0 : decode cX9_whyNoExport 0 = .ok (.aload_n 0, 1) := by decide +kernel
theorem dX9_whyNoExport_1 : decode cX9_whyNoExport 1 = .ok (.iload_n 1, 1) := by decide +kernel
theorem dX9_whyNoExport_2 : decode cX9_whyNoExport 2 = .ok (.invokevirtual 127, 3) := by decide +kernel
theorem dX9_whyNoExport_5 : decode cX9_whyNoExport 5 = .ok (.astore_n 3, 1) := by decide +kernel
theorem dX9_whyNoExport_6 : decode cX9_whyNoExport 6 = .ok (.iload_n 2, 1) := by decide +kernel
theorem dX9_whyNoExport_7 : decode cX9_whyNoExport 7 = .ok (.iconst 1, 1) := by decide +kernel
theorem dX9_whyNoExport_8 : decode cX9_whyNoExport 8 = .ok (.sipush 999, 3) := by decide +kernel
theorem dX9_whyNoExport_11 : decode cX9_whyNoExport 11 = .ok (.invokestatic 154, 3) := by decide +kernel
theorem dX9_whyNoExport_14 : decode cX9_whyNoExport 14 = .ok (.aload_n 0, 1) := by decide +kernel
theorem dX9_whyNoExport_15 : decode cX9_whyNoExport 15 = .ok (.getfield 10, 3) := by decide +kernel
theorem dX9_whyNoExport_18 : decode cX9_whyNoExport 18 = .ok (.aload_n 3, 1) := by decide +kernel
theorem dX9_whyNoExport_19 : decode cX9_whyNoExport 19 = .ok (.iload_n 2, 1) := by decide +kernel
theorem dX9_whyNoExport_20 : decode cX9_whyNoExport 20 = .ok (.invokevirtual 290, 3) := by decide +kernel
theorem dX9_whyNoExport_23 : decode cX9_whyNoExport 23 = .ok (.ireturn, 1) := by decide +kernel
def w_X9_whyNoExport (p0 : Int32) (p1 : Int32) (mm : Mm) (Q9 : Int32 → Prop) (X9 : Nat → Mm → Prop) : Prop :=
  w_X9_entryNumbered p0 mm (fun (r_1 : Nat) => w_X9_requireWithin p1 1 999 mm (ok 3 r_1 ∧ w_X8_reasonAgainstExport 1 r_1 p1 mm (fun (r_6 : Int32) => Q9 r_6)) X9) X9
def rm_X9_whyNoExport : Room := { frames := 7, cells := 2, slots := 12, locals := 112 }
theorem hy_X9_whyNoExport : yX9_whyNoExport.cls = RX9 ∧ yX9_whyNoExport.cls ≠ "java/lang/invoke/MethodHandle" ∧ yX9_whyNoExport.cls ≠ "java/lang/invoke/VarHandle" ∧ (parseMethodDescriptor yX9_whyNoExport.desc).map (fun d => d.parameters.length) = some 2 := by decide +kernel
set_option maxRecDepth 100000 in
set_option maxHeartbeats 4000000 in
theorem c_X9_whyNoExport {l : Launch} {D : va_G} {cA : Nat → ClassId} {ad : Nat → Nat → Nat} {A : Nat → Prop} (ax : Ax ad GC A) (hst : l.stackTraces = false) (p0 : Int32) (p1 : Int32) (mm : Mm) (Q9 : Int32 → Prop) (X9 : Nat → Mm → Prop) (h : w_X9_whyNoExport p0 p1 mm Q9 X9) : vx_Met l yX9_whyNoExport (.code yX9_whyNoExport cX9_whyNoExport 4 (some .int) :: TG) rm_X9_whyNoExport (PcM TT D cA ad false GC (ZC ad A) [.ref (ad 0 1), .int p0, .int p1] mm) (AnsI TT D cA ad false GC A (fun r mm' => Q9 r ∧ mm = mm')) (AnsX TT D cA ad false GC A X9) 2 12 A := by
  have zo := ZC_ok ad A
  unfold w_X9_whyNoExport at h
  refine enterXI pl_X9 rfl (Nat.le_of_ble_eq_true rfl) ?_
  intro p e s m args below meth c QQ X hK hZ hnm hlk htab hQ hE
  refine q_aload_n (j := 0) X dX9_whyNoExport_0 rfl rfl ?_
  refine q_iload_n (j := 1) X dX9_whyNoExport_1 rfl rfl ?_
  refine q_xcallr hQ hlk htab (q_runxV X hK hZ zo (gc (t := 0) (by decide) (ok1 (t := 0) (Nat.le_of_ble_eq_true rfl))) rfl rfl [.int p0] [] rfl rfl (Nat.le_of_ble_eq_true rfl) dX9_whyNoExport_2 ⟨Nat.le_of_ble_eq_true rfl, Nat.le_of_ble_eq_true rfl⟩ (c_X9_entryNumbered ax hst p0 mm _ _ h) rfl rfl (gV kw_4_161 kw_4_163 ks_58 kw_1_1 kw_4_164) hy_X9_entryNumbered ⟨Nat.le_of_ble_eq_true rfl, Nat.le_of_ble_eq_true rfl⟩) ⟨Nat.le_of_ble_eq_true rfl, Nat.le_of_ble_eq_true rfl⟩ (fun k9 m9 h9 => h9) (fun r_1 m_2 h => ?_)
  obtain ⟨h, hm⟩ := h
  subst hm
  refine q_vstore_n (lv' := [(3, rv (ad 3) r_1), (0, .ref (ad 0 1)), (1, .int p0), (2, .int p1)]) X dX9_whyNoExport_5 rfl (by decide) rfl ?_
  refine q_iload_n (j := 3) X dX9_whyNoExport_6 rfl rfl ?_
  refine q_iconst (v := 1) X dX9_whyNoExport_7 (by decide) ?_
  refine q_sipush (v := 999) X dX9_whyNoExport_8 (by decide) ?_
  refine q_xcallv hQ hlk htab (q_runxS X hK hZ zo [.int p1, .int 1, .int 999] [] rfl rfl (Nat.le_of_ble_eq_true rfl) dX9_whyNoExport_11 ⟨Nat.le_of_ble_eq_true rfl, Nat.le_of_ble_eq_true rfl⟩ (c_X9_requireWithin ax hst p1 1 999 mm _ _ h) rfl rfl (gS kw_4_203 kw_4_204 kw_1_1 kw_4_205) hy_X9_requireWithin.2 ⟨Nat.le_of_ble_eq_true rfl, Nat.le_of_ble_eq_true rfl⟩) ⟨Nat.le_of_ble_eq_true rfl, Nat.le_of_ble_eq_true rfl⟩ (fun k9 m9 h9 => h9) (fun m_4 h => ?_)
  obtain ⟨h, hm⟩ := h
  subst hm
  refine q_aload_n (j := 1) X dX9_whyNoExport_14 rfl rfl ?_
  refine q_get (k := 0) (v := .ref (ad 1 1)) X hK rfl rfl (Nat.le_of_ble_eq_true rfl) inTX9 (gc (t := 0) (by decide) (ok1 (t := 0) (Nat.le_of_ble_eq_true rfl))) kw_2_111 rfl (rv_nn (a := ad 1) (r := 1) (ok1 (t := 1) (Nat.le_of_ble_eq_true rfl)).1) dX9_whyNoExport_15 ?_
  refine q_vload_n (j := 0) X dX9_whyNoExport_18 rfl rfl ?_
  refine q_iload_n (j := 3) X dX9_whyNoExport_19 rfl rfl ?_
  obtain ⟨k_5, h⟩ := h
  rw [rv_nn (a := ad 3) (r := r_1) k_5.1]
  refine q_calli (q_runVN X hK hZ zo (gc (t := 1) (by decide) (ok1 (t := 1) (Nat.le_of_ble_eq_true rfl))) rfl rfl [.ref (ad 3 r_1), .int p1] [] rfl rfl (Nat.le_of_ble_eq_true rfl) dX9_whyNoExport_20 ⟨Nat.le_of_ble_eq_true rfl, Nat.le_of_ble_eq_true rfl⟩ (c_X8_reasonAgainstExport ax 1 (ok1 (t := 1) (Nat.le_of_ble_eq_true rfl)) r_1 k_5 p1 mm _ h) rfl rfl (List.mem_of_getElem? (i := 79) rfl) kw_1_2 kw_3_160 kw_3_159 ks_29 hy_X8_reasonAgainstExport.2 ⟨Nat.le_of_ble_eq_true rfl, Nat.le_of_ble_eq_true rfl⟩) (fun r_6 m_7 h => ?_)
  obtain ⟨h, hm⟩ := h
  subst hm
  exact hE _ _ _ _ _ _ dX9_whyNoExport_23 (Nat.le_of_ble_eq_true rfl) (Nat.le_of_ble_eq_true rfl) ⟨h, rfl⟩
theorem dX9_whyNoMove_0 : decode cX9_whyNoMove 0 = .ok (.aload_n 0, 1) := by decide +kernel
theorem dX9_whyNoMove_1 : decode cX9_whyNoMove 1 = .ok (.iload_n 1, 1) := by decide +kernel
theorem dX9_whyNoMove_2 : decode cX9_whyNoMove 2 = .ok (.invokevirtual 127, 3) := by decide +kernel
theorem dX9_whyNoMove_5 : decode cX9_whyNoMove 5 = .ok (.astore_n 3, 1) := by decide +kernel
theorem dX9_whyNoMove_6 : decode cX9_whyNoMove 6 = .ok (.iload_n 2, 1) := by decide +kernel
theorem dX9_whyNoMove_7 : decode cX9_whyNoMove 7 = .ok (.invokestatic 188, 3) := by decide +kernel
theorem dX9_whyNoMove_10 : decode cX9_whyNoMove 10 = .ok (.aload_n 0, 1) := by decide +kernel
theorem dX9_whyNoMove_11 : decode cX9_whyNoMove 11 = .ok (.getfield 10, 3) := by decide +kernel
theorem dX9_whyNoMove_14 : decode cX9_whyNoMove 14 = .ok (.aload_n 3, 1) := by decide +kernel
theorem dX9_whyNoMove_15 : decode cX9_whyNoMove 15 = .ok (.iload_n 2, 1) := by decide +kernel
theorem dX9_whyNoMove_16 : decode cX9_whyNoMove 16 = .ok (.invokevirtual 293, 3) := by decide +kernel
theorem dX9_whyNoMove_19 : decode cX9_whyNoMove 19 = .ok (.ireturn, 1) := by decide +kernel
def w_X9_whyNoMove (p0 : Int32) (p1 : Int32) (mm : Mm) (Q9 : Int32 → Prop) (X9 : Nat → Mm → Prop) : Prop :=
  w_X9_entryNumbered p0 mm (fun (r_1 : Nat) => w_X9_requireChamber p1 mm (ok 3 r_1 ∧ w_X8_reasonAgainstMove 1 r_1 p1 mm (fun (r_6 : Int32) => Q9 r_6)) X9) X9
def rm_X9_whyNoMove : Room := { frames := 7, cells := 2, slots := 12, locals := 112 }
theorem hy_X9_whyNoMove : yX9_whyNoMove.cls = RX9 ∧ yX9_whyNoMove.cls ≠ "java/lang/invoke/MethodHandle" ∧ yX9_whyNoMove.cls ≠ "java/lang/invoke/VarHandle" ∧ (parseMethodDescriptor yX9_whyNoMove.desc).map (fun d => d.parameters.length) = some 2 := by decide +kernel
set_option maxRecDepth 100000 in
set_option maxHeartbeats 4000000 in
theorem c_X9_whyNoMove {l : Launch} {D : va_G} {cA : Nat → ClassId} {ad : Nat → Nat → Nat} {A : Nat → Prop} (ax : Ax ad GC A) (hst : l.stackTraces = false) (p0 : Int32) (p1 : Int32) (mm : Mm) (Q9 : Int32 → Prop) (X9 : Nat → Mm → Prop) (h : w_X9_whyNoMove p0 p1 mm Q9 X9) : vx_Met l yX9_whyNoMove (.code yX9_whyNoMove cX9_whyNoMove 4 (some .int) :: TG) rm_X9_whyNoMove (PcM TT D cA ad false GC (ZC ad A) [.ref (ad 0 1), .int p0, .int p1] mm) (AnsI TT D cA ad false GC A (fun r mm' => Q9 r ∧ mm = mm')) (AnsX TT D cA ad false GC A X9) 2 12 A := by
  have zo := ZC_ok ad A
  unfold w_X9_whyNoMove at h
  refine enterXI pl_X9 rfl (Nat.le_of_ble_eq_true rfl) ?_
  intro p e s m args below meth c QQ X hK hZ hnm hlk htab hQ hE
  refine q_aload_n (j := 0) X dX9_whyNoMove_0 rfl rfl ?_
  refine q_iload_n (j := 1) X dX9_whyNoMove_1 rfl rfl ?_
  refine q_xcallr hQ hlk htab (q_runxV X hK hZ zo (gc (t := 0) (by decide) (ok1 (t := 0) (Nat.le_of_ble_eq_true rfl))) rfl rfl [.int p0] [] rfl rfl (Nat.le_of_ble_eq_true rfl) dX9_whyNoMove_2 ⟨Nat.le_of_ble_eq_true rfl, Nat.le_of_ble_eq_true rfl⟩ (c_X9_entryNumbered ax hst p0 mm _ _ h) rfl rfl (gV kw_4_161 kw_4_163 ks_58 kw_1_1 kw_4_164) hy_X9_entryNumbered ⟨Nat.le_of_ble_eq_true rfl, Nat.le_of_ble_eq_true rfl⟩) ⟨Nat.le_of_ble_eq_true rfl, Nat.le_of_ble_eq_true rfl⟩ (fun k9 m9 h9 => h9) (fun r_1 m_2 h => ?_)
  obtain ⟨h, hm⟩ := h
  subst hm
  refine q_vstore_n (lv' := [(3, rv (ad 3) r_1), (0, .ref (ad 0 1)), (1, .int p0), (2, .int p1)]) X dX9_whyNoMove_5 rfl (by decide) rfl ?_
  refine q_iload_n (j := 3) X dX9_whyNoMove_6 rfl rfl ?_
  refine q_xcallv hQ hlk htab (q_runxS X hK hZ zo [.int p1] [] rfl rfl (Nat.le_of_ble_eq_true rfl) dX9_whyNoMove_7 ⟨Nat.le_of_ble_eq_true rfl, Nat.le_of_ble_eq_true rfl⟩ (c_X9_requireChamber ax hst p1 mm _ _ h) rfl rfl (gS kw_4_234 kw_4_235 kw_1_1 kw_4_236) hy_X9_requireChamber.2 ⟨Nat.le_of_ble_eq_true rfl, Nat.le_of_ble_eq_true rfl⟩) ⟨Nat.le_of_ble_eq_true rfl, Nat.le_of_ble_eq_true rfl⟩ (fun k9 m9 h9 => h9) (fun m_4 h => ?_)
  obtain ⟨h, hm⟩ := h
  subst hm
  refine q_aload_n (j := 1) X dX9_whyNoMove_10 rfl rfl ?_
  refine q_get (k := 0) (v := .ref (ad 1 1)) X hK rfl rfl (Nat.le_of_ble_eq_true rfl) inTX9 (gc (t := 0) (by decide) (ok1 (t := 0) (Nat.le_of_ble_eq_true rfl))) kw_2_111 rfl (rv_nn (a := ad 1) (r := 1) (ok1 (t := 1) (Nat.le_of_ble_eq_true rfl)).1) dX9_whyNoMove_11 ?_
  refine q_vload_n (j := 0) X dX9_whyNoMove_14 rfl rfl ?_
  refine q_iload_n (j := 3) X dX9_whyNoMove_15 rfl rfl ?_
  obtain ⟨k_5, h⟩ := h
  rw [rv_nn (a := ad 3) (r := r_1) k_5.1]
  refine q_calli (q_runVN X hK hZ zo (gc (t := 1) (by decide) (ok1 (t := 1) (Nat.le_of_ble_eq_true rfl))) rfl rfl [.ref (ad 3 r_1), .int p1] [] rfl rfl (Nat.le_of_ble_eq_true rfl) dX9_whyNoMove_16 ⟨Nat.le_of_ble_eq_true rfl, Nat.le_of_ble_eq_true rfl⟩ (c_X8_reasonAgainstMove ax 1 (ok1 (t := 1) (Nat.le_of_ble_eq_true rfl)) r_1 k_5 p1 mm _ h) rfl rfl (List.mem_of_getElem? (i := 80) rfl) kw_1_2 kw_3_210 kw_3_209 ks_37 hy_X8_reasonAgainstMove.2 ⟨Nat.le_of_ble_eq_true rfl, Nat.le_of_ble_eq_true rfl⟩) (fun r_6 m_7 h => ?_)
  obtain ⟨h, hm⟩ := h
  subst hm
  exact hE _ _ _ _ _ _ dX9_whyNoMove_19 (Nat.le_of_ble_eq_true rfl) (Nat.le_of_ble_eq_true rfl) ⟨h, rfl⟩
theorem dX9_whyNoDrawback_0 : decode cX9_whyNoDrawback 0 = .ok (.aload_n 0, 1) := by decide +kernel
theorem dX9_whyNoDrawback_1 : decode cX9_whyNoDrawback 1 = .ok (.iload_n 1, 1) := by decide +kernel
theorem dX9_whyNoDrawback_2 : decode cX9_whyNoDrawback 2 = .ok (.invokevirtual 201, 3) := by decide +kernel
theorem dX9_whyNoDrawback_5 : decode cX9_whyNoDrawback 5 = .ok (.astore_n 3, 1) := by decide +kernel
theorem dX9_whyNoDrawback_6 : decode cX9_whyNoDrawback 6 = .ok (.iload_n 2, 1) := by decide +kernel
theorem dX9_whyNoDrawback_7 : decode cX9_whyNoDrawback 7 = .ok (.iconst 1, 1) := by decide +kernel
theorem dX9_whyNoDrawback_8 : decode cX9_whyNoDrawback 8 = .ok (.sipush 999, 3) := by decide +kernel
theorem dX9_whyNoDrawback_11 : decode cX9_whyNoDrawback 11 = .ok (.invokestatic 154, 3) := by decide +kernel
theorem dX9_whyNoDrawback_14 : decode cX9_whyNoDrawback 14 = .ok (.aload_n 0, 1) := by decide +kernel
theorem dX9_whyNoDrawback_15 : decode cX9_whyNoDrawback 15 = .ok (.getfield 10, 3) := by decide +kernel
theorem dX9_whyNoDrawback_18 : decode cX9_whyNoDrawback 18 = .ok (.aload_n 3, 1) := by decide +kernel
theorem dX9_whyNoDrawback_19 : decode cX9_whyNoDrawback 19 = .ok (.iload_n 2, 1) := by decide +kernel
theorem dX9_whyNoDrawback_20 : decode cX9_whyNoDrawback 20 = .ok (.invokevirtual 296, 3) := by decide +kernel
theorem dX9_whyNoDrawback_23 : decode cX9_whyNoDrawback 23 = .ok (.ireturn, 1) := by decide +kernel
def w_X9_whyNoDrawback (p0 : Int32) (p1 : Int32) (mm : Mm) (Q9 : Int32 → Prop) (X9 : Nat → Mm → Prop) : Prop :=
  w_X9_receiptBack p0 mm (fun (r_1 : Nat) => w_X9_requireWithin p1 1 999 mm (ok 4 r_1 ∧ w_X8_reasonAgainstDrawback 1 r_1 p1 mm (fun (r_6 : Int32) => Q9 r_6)) X9) X9
def rm_X9_whyNoDrawback : Room := { frames := 7, cells := 2, slots := 12, locals := 112 }
theorem hy_X9_whyNoDrawback : yX9_whyNoDrawback.cls = RX9 ∧ yX9_whyNoDrawback.cls ≠ "java/lang/invoke/MethodHandle" ∧ yX9_whyNoDrawback.cls ≠ "java/lang/invoke/VarHandle" ∧ (parseMethodDescriptor yX9_whyNoDrawback.desc).map (fun d => d.parameters.length) = some 2 := by decide +kernel
set_option maxRecDepth 100000 in
set_option maxHeartbeats 4000000 in
theorem c_X9_whyNoDrawback {l : Launch} {D : va_G} {cA : Nat → ClassId} {ad : Nat → Nat → Nat} {A : Nat → Prop} (ax : Ax ad GC A) (hst : l.stackTraces = false) (p0 : Int32) (p1 : Int32) (mm : Mm) (Q9 : Int32 → Prop) (X9 : Nat → Mm → Prop) (h : w_X9_whyNoDrawback p0 p1 mm Q9 X9) : vx_Met l yX9_whyNoDrawback (.code yX9_whyNoDrawback cX9_whyNoDrawback 4 (some .int) :: TG) rm_X9_whyNoDrawback (PcM TT D cA ad false GC (ZC ad A) [.ref (ad 0 1), .int p0, .int p1] mm) (AnsI TT D cA ad false GC A (fun r mm' => Q9 r ∧ mm = mm')) (AnsX TT D cA ad false GC A X9) 2 12 A := by
  have zo := ZC_ok ad A
  unfold w_X9_whyNoDrawback at h
  refine enterXI pl_X9 rfl (Nat.le_of_ble_eq_true rfl) ?_
  intro p e s m args below meth c QQ X hK hZ hnm hlk htab hQ hE
  refine q_aload_n (j := 0) X dX9_whyNoDrawback_0 rfl rfl ?_
  refine q_iload_n (j := 1) X dX9_whyNoDrawback_1 rfl rfl ?_
  refine q_xcallr hQ hlk htab (q_runxV X hK hZ zo (gc (t := 0) (by decide) (ok1 (t := 0) (Nat.le_of_ble_eq_true rfl))) rfl rfl [.int p0] [] rfl rfl (Nat.le_of_ble_eq_true rfl) dX9_whyNoDrawback_2 ⟨Nat.le_of_ble_eq_true rfl, Nat.le_of_ble_eq_true rfl⟩ (c_X9_receiptBack ax hst p0 mm _ _ h) rfl rfl (gV kw_5_24 kw_5_26 ks_61 kw_1_1 kw_5_27) hy_X9_receiptBack ⟨Nat.le_of_ble_eq_true rfl, Nat.le_of_ble_eq_true rfl⟩) ⟨Nat.le_of_ble_eq_true rfl, Nat.le_of_ble_eq_true rfl⟩ (fun k9 m9 h9 => h9) (fun r_1 m_2 h => ?_)
  obtain ⟨h, hm⟩ := h
  subst hm
  refine q_vstore_n (lv' := [(3, rv (ad 4) r_1), (0, .ref (ad 0 1)), (1, .int p0), (2, .int p1)]) X dX9_whyNoDrawback_5 rfl (by decide) rfl ?_
  refine q_iload_n (j := 3) X dX9_whyNoDrawback_6 rfl rfl ?_
  refine q_iconst (v := 1) X dX9_whyNoDrawback_7 (by decide) ?_
  refine q_sipush (v := 999) X dX9_whyNoDrawback_8 (by decide) ?_
  refine q_xcallv hQ hlk htab (q_runxS X hK hZ zo [.int p1, .int 1, .int 999] [] rfl rfl (Nat.le_of_ble_eq_true rfl) dX9_whyNoDrawback_11 ⟨Nat.le_of_ble_eq_true rfl, Nat.le_of_ble_eq_true rfl⟩ (c_X9_requireWithin ax hst p1 1 999 mm _ _ h) rfl rfl (gS kw_4_203 kw_4_204 kw_1_1 kw_4_205) hy_X9_requireWithin.2 ⟨Nat.le_of_ble_eq_true rfl, Nat.le_of_ble_eq_true rfl⟩) ⟨Nat.le_of_ble_eq_true rfl, Nat.le_of_ble_eq_true rfl⟩ (fun k9 m9 h9 => h9) (fun m_4 h => ?_)
  obtain ⟨h, hm⟩ := h
  subst hm
  refine q_aload_n (j := 1) X dX9_whyNoDrawback_14 rfl rfl ?_
  refine q_get (k := 0) (v := .ref (ad 1 1)) X hK rfl rfl (Nat.le_of_ble_eq_true rfl) inTX9 (gc (t := 0) (by decide) (ok1 (t := 0) (Nat.le_of_ble_eq_true rfl))) kw_2_111 rfl (rv_nn (a := ad 1) (r := 1) (ok1 (t := 1) (Nat.le_of_ble_eq_true rfl)).1) dX9_whyNoDrawback_15 ?_
  refine q_vload_n (j := 0) X dX9_whyNoDrawback_18 rfl rfl ?_
  refine q_iload_n (j := 3) X dX9_whyNoDrawback_19 rfl rfl ?_
  obtain ⟨k_5, h⟩ := h
  rw [rv_nn (a := ad 4) (r := r_1) k_5.1]
  refine q_calli (q_runVN X hK hZ zo (gc (t := 1) (by decide) (ok1 (t := 1) (Nat.le_of_ble_eq_true rfl))) rfl rfl [.ref (ad 4 r_1), .int p1] [] rfl rfl (Nat.le_of_ble_eq_true rfl) dX9_whyNoDrawback_20 ⟨Nat.le_of_ble_eq_true rfl, Nat.le_of_ble_eq_true rfl⟩ (c_X8_reasonAgainstDrawback ax 1 (ok1 (t := 1) (Nat.le_of_ble_eq_true rfl)) r_1 k_5 p1 mm _ h) rfl rfl (List.mem_of_getElem? (i := 81) rfl) kw_1_2 kw_3_184 kw_3_183 ks_33 hy_X8_reasonAgainstDrawback.2 ⟨Nat.le_of_ble_eq_true rfl, Nat.le_of_ble_eq_true rfl⟩) (fun r_6 m_7 h => ?_)
  obtain ⟨h, hm⟩ := h
  subst hm
  exact hE _ _ _ _ _ _ dX9_whyNoDrawback_23 (Nat.le_of_ble_eq_true rfl) (Nat.le_of_ble_eq_true rfl) ⟨h, rfl⟩
theorem dX9_chargeIfWeighed_0 : decode cX9_chargeIfWeighed 0 = .ok (.aload_n 0, 1) := by decide +kernel
theorem dX9_chargeIfWeighed_1 : decode cX9_chargeIfWeighed 1 = .ok (.iload_n 1, 1) := by decide +kernel
theorem dX9_chargeIfWeighed_2 : decode cX9_chargeIfWeighed 2 = .ok (.invokevirtual 127, 3) := by decide +kernel
theorem dX9_chargeIfWeighed_5 : decode cX9_chargeIfWeighed 5 = .ok (.astore_n 3, 1) := by decide +kernel
theorem dX9_chargeIfWeighed_6 : decode cX9_chargeIfWeighed 6 = .ok (.iload_n 2, 1) := by decide +kernel
theorem dX9_chargeIfWeighed_7 : decode cX9_chargeIfWeighed 7 = .ok (.iconst 0, 1) := by decide +kernel
theorem dX9_chargeIfWeighed_8 : decode cX9_chargeIfWeighed 8 = .ok (.aload_n 3, 1) := by decide +kernel
theorem dX9_chargeIfWeighed_9 : decode cX9_chargeIfWeighed 9 = .ok (.getfield 133, 3) := by decide +kernel
theorem dX9_chargeIfWeighed_12 : decode cX9_chargeIfWeighed 12 = .ok (.invokestatic 154, 3) := by decide +kernel
theorem dX9_chargeIfWeighed_15 : decode cX9_chargeIfWeighed 15 = .ok (.aload_n 0, 1) := by decide +kernel
theorem dX9_chargeIfWeighed_16 : decode cX9_chargeIfWeighed 16 = .ok (.getfield 10, 3) := by decide +kernel
theorem dX9_chargeIfWeighed_19 : decode cX9_chargeIfWeighed 19 = .ok (.aload_n 3, 1) := by decide +kernel
theorem dX9_chargeIfWeighed_20 : decode cX9_chargeIfWeighed 20 = .ok (.aload_n 0, 1) := by decide +kernel
theorem dX9_chargeIfWeighed_21 : decode cX9_chargeIfWeighed 21 = .ok (.getfield 10, 3) := by decide +kernel
theorem dX9_chargeIfWeighed_24 : decode cX9_chargeIfWeighed 24 = .ok (.aload_n 3, 1) := by decide +kernel
theorem dX9_chargeIfWeighed_25 : decode cX9_chargeIfWeighed 25 = .ok (.iload_n 2, 1) := by decide +kernel
theorem dX9_chargeIfWeighed_26 : decode cX9_chargeIfWeighed 26 = .ok (.invokevirtual 300, 3) := by decide +kernel
theorem dX9_chargeIfWeighed_29 : decode cX9_chargeIfWeighed 29 = .ok (.invokevirtual 303, 3) := by decide +kernel
theorem dX9_chargeIfWeighed_32 : decode cX9_chargeIfWeighed 32 = .ok (.ireturn, 1) := by decide +kernel
def w_X9_chargeIfWeighed (p0 : Int32) (p1 : Int32) (mm : Mm) (Q9 : Int32 → Prop) (X9 : Nat → Mm → Prop) : Prop :=
  w_X9_entryNumbered p0 mm (fun (r_1 : Nat) => ok 3 r_1 ∧ (w_X9_requireWithin p1 0 (mm.1 3 r_1 2) mm (w_X8_lossIf 1 r_1 p1 mm (fun (r_6 : Int32) => w_X8_chargeFor 1 r_1 r_6 mm (fun (r_8 : Int32) => Q9 r_8))) X9)) X9
def rm_X9_chargeIfWeighed : Room := { frames := 7, cells := 2, slots := 12, locals := 112 }
theorem hy_X9_chargeIfWeighed : yX9_chargeIfWeighed.cls = RX9 ∧ yX9_chargeIfWeighed.cls ≠ "java/lang/invoke/MethodHandle" ∧ yX9_chargeIfWeighed.cls ≠ "java/lang/invoke/VarHandle" ∧ (parseMethodDescriptor yX9_chargeIfWeighed.desc).map (fun d => d.parameters.length) = some 2 := by decide +kernel
set_option maxRecDepth 100000 in
set_option maxHeartbeats 4000000 in
theorem c_X9_chargeIfWeighed {l : Launch} {D : va_G} {cA : Nat → ClassId} {ad : Nat → Nat → Nat} {A : Nat → Prop} (ax : Ax ad GC A) (hst : l.stackTraces = false) (p0 : Int32) (p1 : Int32) (mm : Mm) (Q9 : Int32 → Prop) (X9 : Nat → Mm → Prop) (h : w_X9_chargeIfWeighed p0 p1 mm Q9 X9) : vx_Met l yX9_chargeIfWeighed (.code yX9_chargeIfWeighed cX9_chargeIfWeighed 4 (some .int) :: TG) rm_X9_chargeIfWeighed (PcM TT D cA ad false GC (ZC ad A) [.ref (ad 0 1), .int p0, .int p1] mm) (AnsI TT D cA ad false GC A (fun r mm' => Q9 r ∧ mm = mm')) (AnsX TT D cA ad false GC A X9) 2 12 A := by
  have zo := ZC_ok ad A
  unfold w_X9_chargeIfWeighed at h
  refine enterXI pl_X9 rfl (Nat.le_of_ble_eq_true rfl) ?_
  intro p e s m args below meth c QQ X hK hZ hnm hlk htab hQ hE
  refine q_aload_n (j := 0) X dX9_chargeIfWeighed_0 rfl rfl ?_
  refine q_iload_n (j := 1) X dX9_chargeIfWeighed_1 rfl rfl ?_
  refine q_xcallr hQ hlk htab (q_runxV X hK hZ zo (gc (t := 0) (by decide) (ok1 (t := 0) (Nat.le_of_ble_eq_true rfl))) rfl rfl [.int p0] [] rfl rfl (Nat.le_of_ble_eq_true rfl) dX9_chargeIfWeighed_2 ⟨Nat.le_of_ble_eq_true rfl, Nat.le_of_ble_eq_true rfl⟩ (c_X9_entryNumbered ax hst p0 mm _ _ h) rfl rfl (gV kw_4_161 kw_4_163 ks_58 kw_1_1 kw_4_164) hy_X9_entryNumbered ⟨Nat.le_of_ble_eq_true rfl, Nat.le_of_ble_eq_true rfl⟩) ⟨Nat.le_of_ble_eq_true rfl, Nat.le_of_ble_eq_true rfl⟩ (fun k9 m9 h9 => h9) (fun r_1 m_2 h => ?_)
  obtain ⟨h, hm⟩ := h
  subst hm
  refine q_vstore_n (lv' := [(3, rv (ad 3) r_1), (0, .ref (ad 0 1)), (1, .int p0), (2, .int p1)]) X dX9_chargeIfWeighed_5 rfl (by decide) rfl ?_
  refine q_iload_n (j := 3) X dX9_chargeIfWeighed_6 rfl rfl ?_
  refine q_iconst (v := 0) X dX9_chargeIfWeighed_7 (by decide) ?_
  refine q_vload_n (j := 0) X dX9_chargeIfWeighed_8 rfl rfl ?_
  obtain ⟨k_3, h⟩ := h
  rw [rv_nn (a := ad 3) (r := r_1) k_3.1]
  refine q_getN (k := 2) (v := .int (mm.1 3 r_1 2)) X hK rfl rfl (Nat.le_of_ble_eq_true rfl) inTX2 (gc (t := 3) (by decide) k_3) (List.mem_of_getElem? (i := 20) rfl) rfl rfl dX9_chargeIfWeighed_9 ?_
  refine q_xcallv hQ hlk htab (q_runxS X hK hZ zo [.int p1, .int 0, .int (mm.1 3 r_1 2)] [] rfl rfl (Nat.le_of_ble_eq_true rfl) dX9_chargeIfWeighed_12 ⟨Nat.le_of_ble_eq_true rfl, Nat.le_of_ble_eq_true rfl⟩ (c_X9_requireWithin ax hst p1 0 (mm.1 3 r_1 2) mm _ _ h) rfl rfl (gS kw_4_203 kw_4_204 kw_1_1 kw_4_205) hy_X9_requireWithin.2 ⟨Nat.le_of_ble_eq_true rfl, Nat.le_of_ble_eq_true rfl⟩) ⟨Nat.le_of_ble_eq_true rfl, Nat.le_of_ble_eq_true rfl⟩ (fun k9 m9 h9 => h9) (fun m_5 h => ?_)
  obtain ⟨h, hm⟩ := h
  subst hm
  refine q_aload_n (j := 1) X dX9_chargeIfWeighed_15 rfl rfl ?_
  refine q_get (k := 0) (v := .ref (ad 1 1)) X hK rfl rfl (Nat.le_of_ble_eq_true rfl) inTX9 (gc (t := 0) (by decide) (ok1 (t := 0) (Nat.le_of_ble_eq_true rfl))) kw_2_111 rfl (rv_nn (a := ad 1) (r := 1) (ok1 (t := 1) (Nat.le_of_ble_eq_true rfl)).1) dX9_chargeIfWeighed_16 ?_
  refine q_aload_n (j := 0) X dX9_chargeIfWeighed_19 rfl rfl ?_
  refine q_aload_n (j := 1) X dX9_chargeIfWeighed_20 rfl rfl ?_
  refine q_get (k := 0) (v := .ref (ad 1 1)) X hK rfl rfl (Nat.le_of_ble_eq_true rfl) inTX9 (gc (t := 0) (by decide) (ok1 (t := 0) (Nat.le_of_ble_eq_true rfl))) kw_2_111 rfl (rv_nn (a := ad 1) (r := 1) (ok1 (t := 1) (Nat.le_of_ble_eq_true rfl)).1) dX9_chargeIfWeighed_21 ?_
  refine q_aload_n (j := 0) X dX9_chargeIfWeighed_24 rfl rfl ?_
  refine q_iload_n (j := 3) X dX9_chargeIfWeighed_25 rfl rfl ?_
  refine q_calli (q_runVN X hK hZ zo (gc (t := 1) (by decide) (ok1 (t := 1) (Nat.le_of_ble_eq_true rfl))) rfl rfl [.ref (ad 3 r_1), .int p1] [.ref (ad 3 r_1), .ref (ad 1 1)] rfl rfl (Nat.le_of_ble_eq_true rfl) dX9_chargeIfWeighed_26 ⟨Nat.le_of_ble_eq_true rfl, Nat.le_of_ble_eq_true rfl⟩ (c_X8_lossIf ax 1 (ok1 (t := 1) (Nat.le_of_ble_eq_true rfl)) r_1 k_3 p1 mm _ h) rfl rfl (List.mem_of_getElem? (i := 82) rfl) kw_1_2 kw_4_24 kw_4_23 ks_43 hy_X8_lossIf.2 ⟨Nat.le_of_ble_eq_true rfl, Nat.le_of_ble_eq_true rfl⟩) (fun r_6 m_7 h => ?_)
  obtain ⟨h, hm⟩ := h
  subst hm
  refine q_calli (q_runVN X hK hZ zo (gc (t := 1) (by decide) (ok1 (t := 1) (Nat.le_of_ble_eq_true rfl))) rfl rfl [.ref (ad 3 r_1), .int r_6] [] rfl rfl (Nat.le_of_ble_eq_true rfl) dX9_chargeIfWeighed_29 ⟨Nat.le_of_ble_eq_true rfl, Nat.le_of_ble_eq_true rfl⟩ (c_X8_chargeFor ax 1 (ok1 (t := 1) (Nat.le_of_ble_eq_true rfl)) r_1 k_3 r_6 mm _ h) rfl rfl (List.mem_of_getElem? (i := 83) rfl) kw_1_2 kw_4_35 kw_4_34 ks_45 hy_X8_chargeFor.2 ⟨Nat.le_of_ble_eq_true rfl, Nat.le_of_ble_eq_true rfl⟩) (fun r_8 m_9 h => ?_)
  obtain ⟨h, hm⟩ := h
  subst hm
  exact hE _ _ _ _ _ _ dX9_chargeIfWeighed_32 (Nat.le_of_ble_eq_true rfl) (Nat.le_of_ble_eq_true rfl) ⟨h, rfl⟩
theorem dX9_drawbackFor_0 : decode cX9_drawbackFor 0 = .ok (.aload_n 0, 1) := by decide +kernel
theorem dX9_drawbackFor_1 : decode cX9_drawbackFor 1 = .ok (.iload_n 1, 1) := by decide +kernel
theorem dX9_drawbackFor_2 : decode cX9_drawbackFor 2 = .ok (.invokevirtual 201, 3) := by decide +kernel
theorem dX9_drawbackFor_5 : decode cX9_drawbackFor 5 = .ok (.astore_n 3, 1) := by decide +kernel
theorem dX9_drawbackFor_6 : decode cX9_drawbackFor 6 = .ok (.iload_n 2, 1) := by decide +kernel
theorem dX9_drawbackFor_7 : decode cX9_drawbackFor 7 = .ok (.iconst 1, 1) := by decide +kernel
theorem dX9_drawbackFor_8 : decode cX9_drawbackFor 8 = .ok (.aload_n 3, 1) := by decide +kernel
theorem dX9_drawbackFor_9 : decode cX9_drawbackFor 9 = .ok (.getfield 208, 3) := by decide +kernel
theorem dX9_drawbackFor_12 : decode cX9_drawbackFor 12 = .ok (.invokestatic 154, 3) := by decide +kernel
theorem dX9_drawbackFor_15 : decode cX9_drawbackFor 15 = .ok (.aload_n 3, 1) := by decide +kernel
theorem dX9_drawbackFor_16 : decode cX9_drawbackFor 16 = .ok (.iload_n 2, 1) := by decide +kernel
theorem dX9_drawbackFor_17 : decode cX9_drawbackFor 17 = .ok (.invokevirtual 306, 3) := by decide +kernel
theorem dX9_drawbackFor_20 : decode cX9_drawbackFor 20 = .ok (.invokestatic 309, 3) := by decide +kernel
theorem dX9_drawbackFor_23 : decode cX9_drawbackFor 23 = .ok (.ireturn, 1) := by decide +kernel
def w_X9_drawbackFor (p0 : Int32) (p1 : Int32) (mm : Mm) (Q9 : Int32 → Prop) (X9 : Nat → Mm → Prop) : Prop :=
  w_X9_receiptBack p0 mm (fun (r_1 : Nat) => ok 4 r_1 ∧ (w_X9_requireWithin p1 1 (mm.1 4 r_1 1) mm (w_X7_dutyPart r_1 p1 mm (fun (r_6 : Int32) => w_X9_paidBackOf r_6 mm (fun (r_8 : Int32) => Q9 r_8))) X9)) X9
def rm_X9_drawbackFor : Room := { frames := 7, cells := 2, slots := 12, locals := 112 }
theorem hy_X9_drawbackFor : yX9_drawbackFor.cls = RX9 ∧ yX9_drawbackFor.cls ≠ "java/lang/invoke/MethodHandle" ∧ yX9_drawbackFor.cls ≠ "java/lang/invoke/VarHandle" ∧ (parseMethodDescriptor yX9_drawbackFor.desc).map (fun d => d.parameters.length) = some 2 := by decide +kernel
set_option maxRecDepth 100000 in
set_option maxHeartbeats 4000000 in
theorem c_X9_drawbackFor {l : Launch} {D : va_G} {cA : Nat → ClassId} {ad : Nat → Nat → Nat} {A : Nat → Prop} (ax : Ax ad GC A) (hst : l.stackTraces = false) (p0 : Int32) (p1 : Int32) (mm : Mm) (Q9 : Int32 → Prop) (X9 : Nat → Mm → Prop) (h : w_X9_drawbackFor p0 p1 mm Q9 X9) : vx_Met l yX9_drawbackFor (.code yX9_drawbackFor cX9_drawbackFor 4 (some .int) :: TG) rm_X9_drawbackFor (PcM TT D cA ad false GC (ZC ad A) [.ref (ad 0 1), .int p0, .int p1] mm) (AnsI TT D cA ad false GC A (fun r mm' => Q9 r ∧ mm = mm')) (AnsX TT D cA ad false GC A X9) 2 12 A := by
  have zo := ZC_ok ad A
  unfold w_X9_drawbackFor at h
  refine enterXI pl_X9 rfl (Nat.le_of_ble_eq_true rfl) ?_
  intro p e s m args below meth c QQ X hK hZ hnm hlk htab hQ hE
  refine q_aload_n (j := 0) X dX9_drawbackFor_0 rfl rfl ?_
  refine q_iload_n (j := 1) X dX9_drawbackFor_1 rfl rfl ?_
  refine q_xcallr hQ hlk htab (q_runxV X hK hZ zo (gc (t := 0) (by decide) (ok1 (t := 0) (Nat.le_of_ble_eq_true rfl))) rfl rfl [.int p0] [] rfl rfl (Nat.le_of_ble_eq_true rfl) dX9_drawbackFor_2 ⟨Nat.le_of_ble_eq_true rfl, Nat.le_of_ble_eq_true rfl⟩ (c_X9_receiptBack ax hst p0 mm _ _ h) rfl rfl (gV kw_5_24 kw_5_26 ks_61 kw_1_1 kw_5_27) hy_X9_receiptBack ⟨Nat.le_of_ble_eq_true rfl, Nat.le_of_ble_eq_true rfl⟩) ⟨Nat.le_of_ble_eq_true rfl, Nat.le_of_ble_eq_true rfl⟩ (fun k9 m9 h9 => h9) (fun r_1 m_2 h => ?_)
  obtain ⟨h, hm⟩ := h
  subst hm
  refine q_vstore_n (lv' := [(3, rv (ad 4) r_1), (0, .ref (ad 0 1)), (1, .int p0), (2, .int p1)]) X dX9_drawbackFor_5 rfl (by decide) rfl ?_
  refine q_iload_n (j := 3) X dX9_drawbackFor_6 rfl rfl ?_
  refine q_iconst (v := 1) X dX9_drawbackFor_7 (by decide) ?_
  refine q_vload_n (j := 0) X dX9_drawbackFor_8 rfl rfl ?_
  obtain ⟨k_3, h⟩ := h
  rw [rv_nn (a := ad 4) (r := r_1) k_3.1]
  refine q_getN (k := 1) (v := .int (mm.1 4 r_1 1)) X hK rfl rfl (Nat.le_of_ble_eq_true rfl) inTX7 (gc (t := 4) (by decide) k_3) (List.mem_of_getElem? (i := 38) rfl) rfl rfl dX9_drawbackFor_9 ?_
  refine q_xcallv hQ hlk htab (q_runxS X hK hZ zo [.int p1, .int 1, .int (mm.1 4 r_1 1)] [] rfl rfl (Nat.le_of_ble_eq_true rfl) dX9_drawbackFor_12 ⟨Nat.le_of_ble_eq_true rfl, Nat.le_of_ble_eq_true rfl⟩ (c_X9_requireWithin ax hst p1 1 (mm.1 4 r_1 1) mm _ _ h) rfl rfl (gS kw_4_203 kw_4_204 kw_1_1 kw_4_205) hy_X9_requireWithin.2 ⟨Nat.le_of_ble_eq_true rfl, Nat.le_of_ble_eq_true rfl⟩) ⟨Nat.le_of_ble_eq_true rfl, Nat.le_of_ble_eq_true rfl⟩ (fun k9 m9 h9 => h9) (fun m_5 h => ?_)
  obtain ⟨h, hm⟩ := h
  subst hm
  refine q_aload_n (j := 0) X dX9_drawbackFor_15 rfl rfl ?_
  refine q_iload_n (j := 3) X dX9_drawbackFor_16 rfl rfl ?_
  refine q_calli (q_runVN X hK hZ zo (gc (t := 4) (by decide) k_3) rfl rfl [.int p1] [] rfl rfl (Nat.le_of_ble_eq_true rfl) dX9_drawbackFor_17 ⟨Nat.le_of_ble_eq_true rfl, Nat.le_of_ble_eq_true rfl⟩ (c_X7_dutyPart ax r_1 k_3 p1 mm _ h) rfl rfl (List.mem_of_getElem? (i := 84) rfl) kw_1_5 kw_3_188 kw_3_187 ks_34 hy_X7_dutyPart.2 ⟨Nat.le_of_ble_eq_true rfl, Nat.le_of_ble_eq_true rfl⟩) (fun r_6 m_7 h => ?_)
  obtain ⟨h, hm⟩ := h
  subst hm
  refine q_calli (q_runS X hK hZ zo [.int r_6] [] rfl rfl (Nat.le_of_ble_eq_true rfl) dX9_drawbackFor_20 ⟨Nat.le_of_ble_eq_true rfl, Nat.le_of_ble_eq_true rfl⟩ (c_X9_paidBackOf ax r_6 mm _ h) rfl rfl (gS kw_5_178 kw_3_190 kw_1_1 kw_3_191) hy_X9_paidBackOf.2 ⟨Nat.le_of_ble_eq_true rfl, Nat.le_of_ble_eq_true rfl⟩) (fun r_8 m_9 h => ?_)
  obtain ⟨h, hm⟩ := h
  subst hm
  exact hE _ _ _ _ _ _ dX9_drawbackFor_23 (Nat.le_of_ble_eq_true rfl) (Nat.le_of_ble_eq_true rfl) ⟨h, rfl⟩
theorem dX9_dutyLater_0 : decode cX9_dutyLater 0 = .ok (.aload_n 0, 1) := by decide +kernel
theorem dX9_dutyLater_1 : decode cX9_dutyLater 1 = .ok (.iload_n 1, 1) := by decide +kernel
theorem dX9_dutyLater_2 : decode cX9_dutyLater 2 = .ok (.invokevirtual 127, 3) := by decide +kernel
theorem dX9_dutyLater_5 : decode cX9_dutyLater 5 = .ok (.astore_n 3, 1) := by decide +kernel
theorem dX9_dutyLater_6 : decode cX9_dutyLater 6 = .ok (.iload_n 2, 1) := by decide +kernel
theorem dX9_dutyLater_7 : decode cX9_dutyLater 7 = .ok (.iconst 0, 1) := by decide +kernel
theorem dX9_dutyLater_8 : decode cX9_dutyLater 8 = .ok (.sipush 365, 3) := by decide +kernel
theorem dX9_dutyLater_11 : decode cX9_dutyLater 11 = .ok (.invokestatic 154, 3) := by decide +kernel
theorem dX9_dutyLater_14 : decode cX9_dutyLater 14 = .ok (.aload_n 0, 1) := by decide +kernel
theorem dX9_dutyLater_15 : decode cX9_dutyLater 15 = .ok (.getfield 10, 3) := by decide +kernel
theorem dX9_dutyLater_18 : decode cX9_dutyLater 18 = .ok (.aload_n 3, 1) := by decide +kernel
theorem dX9_dutyLater_19 : decode cX9_dutyLater 19 = .ok (.aload_n 0, 1) := by decide +kernel
theorem dX9_dutyLater_20 : decode cX9_dutyLater 20 = .ok (.getfield 10, 3) := by decide +kernel
theorem dX9_dutyLater_23 : decode cX9_dutyLater 23 = .ok (.aload_n 3, 1) := by decide +kernel
theorem dX9_dutyLater_24 : decode cX9_dutyLater 24 = .ok (.invokevirtual 142, 3) := by decide +kernel
theorem dX9_dutyLater_27 : decode cX9_dutyLater 27 = .ok (.iload_n 2, 1) := by decide +kernel
theorem dX9_dutyLater_28 : decode cX9_dutyLater 28 = .ok (.iadd, 1) := by decide +kernel
theorem dX9_dutyLater_29 : decode cX9_dutyLater 29 = .ok (.invokevirtual 162, 3) := by decide +kernel
theorem dX9_dutyLater_32 : decode cX9_dutyLater 32 = .ok (.ireturn, 1) := by decide +kernel
def w_X9_dutyLater (p0 : Int32) (p1 : Int32) (mm : Mm) (Q9 : Int32 → Prop) (X9 : Nat → Mm → Prop) : Prop :=
  w_X9_entryNumbered p0 mm (fun (r_1 : Nat) => w_X9_requireWithin p1 0 365 mm (ok 3 r_1 ∧ w_X8_ageNow 1 r_1 mm (fun (r_6 : Int32) => w_X8_wholeDuty 1 r_1 (r_6 + p1) mm (fun (r_8 : Int32) => Q9 r_8))) X9) X9
def rm_X9_dutyLater : Room := { frames := 7, cells := 2, slots := 12, locals := 112 }
theorem hy_X9_dutyLater : yX9_dutyLater.cls = RX9 ∧ yX9_dutyLater.cls ≠ "java/lang/invoke/MethodHandle" ∧ yX9_dutyLater.cls ≠ "java/lang/invoke/VarHandle" ∧ (parseMethodDescriptor yX9_dutyLater.desc).map (fun d => d.parameters.length) = some 2 := by decide +kernel
set_option maxRecDepth 100000 in
set_option maxHeartbeats 4000000 in
theorem c_X9_dutyLater {l : Launch} {D : va_G} {cA : Nat → ClassId} {ad : Nat → Nat → Nat} {A : Nat → Prop} (ax : Ax ad GC A) (hst : l.stackTraces = false) (p0 : Int32) (p1 : Int32) (mm : Mm) (Q9 : Int32 → Prop) (X9 : Nat → Mm → Prop) (h : w_X9_dutyLater p0 p1 mm Q9 X9) : vx_Met l yX9_dutyLater (.code yX9_dutyLater cX9_dutyLater 4 (some .int) :: TG) rm_X9_dutyLater (PcM TT D cA ad false GC (ZC ad A) [.ref (ad 0 1), .int p0, .int p1] mm) (AnsI TT D cA ad false GC A (fun r mm' => Q9 r ∧ mm = mm')) (AnsX TT D cA ad false GC A X9) 2 12 A := by
  have zo := ZC_ok ad A
  unfold w_X9_dutyLater at h
  refine enterXI pl_X9 rfl (Nat.le_of_ble_eq_true rfl) ?_
  intro p e s m args below meth c QQ X hK hZ hnm hlk htab hQ hE
  refine q_aload_n (j := 0) X dX9_dutyLater_0 rfl rfl ?_
  refine q_iload_n (j := 1) X dX9_dutyLater_1 rfl rfl ?_
  refine q_xcallr hQ hlk htab (q_runxV X hK hZ zo (gc (t := 0) (by decide) (ok1 (t := 0) (Nat.le_of_ble_eq_true rfl))) rfl rfl [.int p0] [] rfl rfl (Nat.le_of_ble_eq_true rfl) dX9_dutyLater_2 ⟨Nat.le_of_ble_eq_true rfl, Nat.le_of_ble_eq_true rfl⟩ (c_X9_entryNumbered ax hst p0 mm _ _ h) rfl rfl (gV kw_4_161 kw_4_163 ks_58 kw_1_1 kw_4_164) hy_X9_entryNumbered ⟨Nat.le_of_ble_eq_true rfl, Nat.le_of_ble_eq_true rfl⟩) ⟨Nat.le_of_ble_eq_true rfl, Nat.le_of_ble_eq_true rfl⟩ (fun k9 m9 h9 => h9) (fun r_1 m_2 h => ?_)
  obtain ⟨h, hm⟩ := h
  subst hm
  refine q_vstore_n (lv' := [(3, rv (ad 3) r_1), (0, .ref (ad 0 1)), (1, .int p0), (2, .int p1)]) X dX9_dutyLater_5 rfl (by decide) rfl ?_
  refine q_iload_n (j := 3) X dX9_dutyLater_6 rfl rfl ?_
  refine q_iconst (v := 0) X dX9_dutyLater_7 (by decide) ?_
  refine q_sipush (v := 365) X dX9_dutyLater_8 (by decide) ?_
  refine q_xcallv hQ hlk htab (q_runxS X hK hZ zo [.int p1, .int 0, .int 365] [] rfl rfl (Nat.le_of_ble_eq_true rfl) dX9_dutyLater_11 ⟨Nat.le_of_ble_eq_true rfl, Nat.le_of_ble_eq_true rfl⟩ (c_X9_requireWithin ax hst p1 0 365 mm _ _ h) rfl rfl (gS kw_4_203 kw_4_204 kw_1_1 kw_4_205) hy_X9_requireWithin.2 ⟨Nat.le_of_ble_eq_true rfl, Nat.le_of_ble_eq_true rfl⟩) ⟨Nat.le_of_ble_eq_true rfl, Nat.le_of_ble_eq_true rfl⟩ (fun k9 m9 h9 => h9) (fun m_4 h => ?_)
  obtain ⟨h, hm⟩ := h
  subst hm
  refine q_aload_n (j := 1) X dX9_dutyLater_14 rfl rfl ?_
  refine q_get (k := 0) (v := .ref (ad 1 1)) X hK rfl rfl (Nat.le_of_ble_eq_true rfl) inTX9 (gc (t := 0) (by decide) (ok1 (t := 0) (Nat.le_of_ble_eq_true rfl))) kw_2_111 rfl (rv_nn (a := ad 1) (r := 1) (ok1 (t := 1) (Nat.le_of_ble_eq_true rfl)).1) dX9_dutyLater_15 ?_
  refine q_vload_n (j := 0) X dX9_dutyLater_18 rfl rfl ?_
  refine q_aload_n (j := 1) X dX9_dutyLater_19 rfl rfl ?_
  refine q_get (k := 0) (v := .ref (ad 1 1)) X hK rfl rfl (Nat.le_of_ble_eq_true rfl) inTX9 (gc (t := 0) (by decide) (ok1 (t := 0) (Nat.le_of_ble_eq_true rfl))) kw_2_111 rfl (rv_nn (a := ad 1) (r := 1) (ok1 (t := 1) (Nat.le_of_ble_eq_true rfl)).1) dX9_dutyLater_20 ?_
  refine q_vload_n (j := 0) X dX9_dutyLater_23 rfl rfl ?_
  obtain ⟨k_5, h⟩ := h
  rw [rv_nn (a := ad 3) (r := r_1) k_5.1]
  refine q_calli (q_runVN X hK hZ zo (gc (t := 1) (by decide) (ok1 (t := 1) (Nat.le_of_ble_eq_true rfl))) rfl rfl [.ref (ad 3 r_1)] [.ref (ad 3 r_1), .ref (ad 1 1)] rfl rfl (Nat.le_of_ble_eq_true rfl) dX9_dutyLater_24 ⟨Nat.le_of_ble_eq_true rfl, Nat.le_of_ble_eq_true rfl⟩ (c_X8_ageNow ax 1 (ok1 (t := 1) (Nat.le_of_ble_eq_true rfl)) r_1 k_5 mm _ h) rfl rfl (List.mem_of_getElem? (i := 70) rfl) kw_1_2 kw_2_182 kw_2_181 ks_6 hy_X8_ageNow.2 ⟨Nat.le_of_ble_eq_true rfl, Nat.le_of_ble_eq_true rfl⟩) (fun r_6 m_7 h => ?_)
  obtain ⟨h, hm⟩ := h
  subst hm
  refine q_iload_n (j := 3) X dX9_dutyLater_27 rfl rfl ?_
  refine q_iadd X dX9_dutyLater_28 ?_
  refine q_calli (q_runVN X hK hZ zo (gc (t := 1) (by decide) (ok1 (t := 1) (Nat.le_of_ble_eq_true rfl))) rfl rfl [.ref (ad 3 r_1), .int (r_6 + p1)] [] rfl rfl (Nat.le_of_ble_eq_true rfl) dX9_dutyLater_29 ⟨Nat.le_of_ble_eq_true rfl, Nat.le_of_ble_eq_true rfl⟩ (c_X8_wholeDuty ax 1 (ok1 (t := 1) (Nat.le_of_ble_eq_true rfl)) r_1 k_5 (r_6 + p1) mm _ h) rfl rfl (List.mem_of_getElem? (i := 72) rfl) kw_1_2 kw_2_186 kw_2_185 ks_7 hy_X8_wholeDuty.2 ⟨Nat.le_of_ble_eq_true rfl, Nat.le_of_ble_eq_true rfl⟩) (fun r_8 m_9 h => ?_)
  obtain ⟨h, hm⟩ := h
  subst hm
  exact hE _ _ _ _ _ _ dX9_dutyLater_32 (Nat.le_of_ble_eq_true rfl) (Nat.le_of_ble_eq_true rfl) ⟨h, rfl⟩
theorem dX9_daysToOverdue_0 : decode cX9_daysToOverdue 0 = .ok (.iconst 0, 1) := by decide +kernel
theorem dX9_daysToOverdue_1 : decode cX9_daysToOverdue 1 = .ok (.sipush 201, 3) := by decide +kernel
theorem dX9_daysToOverdue_4 : decode cX9_daysToOverdue 4 = .ok (.aload_n 0, 1) := by decide +kernel
theorem dX9_daysToOverdue_5 : decode cX9_daysToOverdue 5 = .ok (.getfield 10, 3) := by decide +kernel
theorem dX9_daysToOverdue_8 : decode cX9_daysToOverdue 8 = .ok (.aload_n 0, 1) := by decide +kernel
theorem dX9_daysToOverdue_9 : decode cX9_daysToOverdue 9 = .ok (.iload_n 1, 1) := by decide +kernel
theorem dX9_daysToOverdue_10 : decode cX9_daysToOverdue 10 = .ok (.invokevirtual 127, 3) := by decide +kernel
theorem dX9_daysToOverdue_13 : decode cX9_daysToOverdue 13 = .ok (.invokevirtual 142, 3) := by decide +kernel
theorem dX9_daysToOverdue_16 : decode cX9_daysToOverdue 16 = .ok (.isub, 1) := by decide +kernel
theorem dX9_daysToOverdue_17 : decode cX9_daysToOverdue 17 = .ok (.invokestatic 312, 3) := by decide +kernel
theorem dX9_daysToOverdue_20 : decode cX9_daysToOverdue 20 = .ok (.ireturn, 1) := by decide +kernel
def w_X9_daysToOverdue (p0 : Int32) (mm : Mm) (Q9 : Int32 → Prop) (X9 : Nat → Mm → Prop) : Prop :=
  w_X9_entryNumbered p0 mm (fun (r_1 : Nat) => ok 3 r_1 ∧ w_X8_ageNow 1 r_1 mm (fun (r_4 : Int32) => Q9 (if (0 : Int32) < (201 - r_4) then (201 - r_4) else 0))) X9
def rm_X9_daysToOverdue : Room := { frames := 7, cells := 1, slots := 6, locals := 112 }
theorem hy_X9_daysToOverdue : yX9_daysToOverdue.cls = RX9 ∧ yX9_daysToOverdue.cls ≠ "java/lang/invoke/MethodHandle" ∧ yX9_daysToOverdue.cls ≠ "java/lang/invoke/VarHandle" ∧ (parseMethodDescriptor yX9_daysToOverdue.desc).map (fun d => d.parameters.length) = some 1 := by decide +kernel
set_option maxRecDepth 100000 in
set_option maxHeartbeats 4000000 in
theorem c_X9_daysToOverdue {l : Launch} {D : va_G} {cA : Nat → ClassId} {ad : Nat → Nat → Nat} {A : Nat → Prop} (ax : Ax ad GC A) (hst : l.stackTraces = false) (p0 : Int32) (mm : Mm) (Q9 : Int32 → Prop) (X9 : Nat → Mm → Prop) (h : w_X9_daysToOverdue p0 mm Q9 X9) : vx_Met l yX9_daysToOverdue (.code yX9_daysToOverdue cX9_daysToOverdue 2 (some .int) :: TG) rm_X9_daysToOverdue (PcM TT D cA ad false GC (ZC ad A) [.ref (ad 0 1), .int p0] mm) (AnsI TT D cA ad false GC A (fun r mm' => Q9 r ∧ mm = mm')) (AnsX TT D cA ad false GC A X9) 1 6 A := by
  have zo := ZC_ok ad A
  unfold w_X9_daysToOverdue at h
  refine enterXI pl_X9 rfl (Nat.le_of_ble_eq_true rfl) ?_
  intro p e s m args below meth c QQ X hK hZ hnm hlk htab hQ hE
  refine q_iconst (v := 0) X dX9_daysToOverdue_0 (by decide) ?_
  refine q_sipush (v := 201) X dX9_daysToOverdue_1 (by decide) ?_
  refine q_aload_n (j := 0) X dX9_daysToOverdue_4 rfl rfl ?_
  refine q_get (k := 0) (v := .ref (ad 1 1)) X hK rfl rfl (Nat.le_of_ble_eq_true rfl) inTX9 (gc (t := 0) (by decide) (ok1 (t := 0) (Nat.le_of_ble_eq_true rfl))) kw_2_111 rfl (rv_nn (a := ad 1) (r := 1) (ok1 (t := 1) (Nat.le_of_ble_eq_true rfl)).1) dX9_daysToOverdue_5 ?_
  refine q_aload_n (j := 0) X dX9_daysToOverdue_8 rfl rfl ?_
  refine q_iload_n (j := 1) X dX9_daysToOverdue_9 rfl rfl ?_
  refine q_xcallr hQ hlk htab (q_runxV X hK hZ zo (gc (t := 0) (by decide) (ok1 (t := 0) (Nat.le_of_ble_eq_true rfl))) rfl rfl [.int p0] [.ref (ad 1 1), .int 201, .int 0] rfl rfl (Nat.le_of_ble_eq_true rfl) dX9_daysToOverdue_10 ⟨Nat.le_of_ble_eq_true rfl, Nat.le_of_ble_eq_true rfl⟩ (c_X9_entryNumbered ax hst p0 mm _ _ h) rfl rfl (gV kw_4_161 kw_4_163 ks_58 kw_1_1 kw_4_164) hy_X9_entryNumbered ⟨Nat.le_of_ble_eq_true rfl, Nat.le_of_ble_eq_true rfl⟩) ⟨Nat.le_of_ble_eq_true rfl, Nat.le_of_ble_eq_true rfl⟩ (fun k9 m9 h9 => h9) (fun r_1 m_2 h => ?_)
  obtain ⟨h, hm⟩ := h
  subst hm
  obtain ⟨k_3, h⟩ := h
  rw [rv_nn (a := ad 3) (r := r_1) k_3.1]
  refine q_calli (q_runVN X hK hZ zo (gc (t := 1) (by decide) (ok1 (t := 1) (Nat.le_of_ble_eq_true rfl))) rfl rfl [.ref (ad 3 r_1)] [.int 201, .int 0] rfl rfl (Nat.le_of_ble_eq_true rfl) dX9_daysToOverdue_13 ⟨Nat.le_of_ble_eq_true rfl, Nat.le_of_ble_eq_true rfl⟩ (c_X8_ageNow ax 1 (ok1 (t := 1) (Nat.le_of_ble_eq_true rfl)) r_1 k_3 mm _ h) rfl rfl (List.mem_of_getElem? (i := 70) rfl) kw_1_2 kw_2_182 kw_2_181 ks_6 hy_X8_ageNow.2 ⟨Nat.le_of_ble_eq_true rfl, Nat.le_of_ble_eq_true rfl⟩) (fun r_4 m_5 h => ?_)
  obtain ⟨h, hm⟩ := h
  subst hm
  refine q_isub X dX9_daysToOverdue_16 ?_
  refine q_max X kw_5_193 kw_4_8 kw_1_11 kw_4_9 (Nat.le_of_ble_eq_true rfl) (Nat.le_of_ble_eq_true rfl) ⟨Nat.le_of_ble_eq_true rfl, Nat.le_of_ble_eq_true rfl⟩ dX9_daysToOverdue_17 ?_
  exact hE _ _ _ _ _ _ dX9_daysToOverdue_20 (Nat.le_of_ble_eq_true rfl) (Nat.le_of_ble_eq_true rfl) ⟨h, rfl⟩
theorem dX9_cheapestEntry_0 : decode cX9_cheapestEntry 0 = .ok (.iload_n 1, 1) := by decide +kernel
theorem dX9_cheapestEntry_1 : decode cX9_cheapestEntry 1 = .ok (.iconst 0, 1) := by decide +kernel
theorem dX9_cheapestEntry_2 : decode cX9_cheapestEntry 2 = .ok (.iconst 5, 1) := by decide +kernel
theorem dX9_cheapestEntry_3 : decode cX9_cheapestEntry 3 = .ok (.invokestatic 154, 3) := by decide +kernel
theorem dX9_cheapestEntry_6 : decode cX9_cheapestEntry 6 = .ok (.aload_n 0, 1) := by decide +kernel
theorem dX9_cheapestEntry_7 : decode cX9_cheapestEntry 7 = .ok (.getfield 10, 3) := by decide +kernel
theorem dX9_cheapestEntry_10 : decode cX9_cheapestEntry 10 = .ok (.invokevirtual 323, 3) := by decide +kernel
theorem dX9_cheapestEntry_13 : decode cX9_cheapestEntry 13 = .ok (.aload_n 0, 1) := by decide +kernel
theorem dX9_cheapestEntry_14 : decode cX9_cheapestEntry 14 = .ok (.getfield 10, 3) := by decide +kernel
theorem dX9_cheapestEntry_17 : decode cX9_cheapestEntry 17 = .ok (.aload_n 0, 1) := by decide +kernel
theorem dX9_cheapestEntry_18 : decode cX9_cheapestEntry 18 = .ok (.getfield 10, 3) := by decide +kernel
theorem dX9_cheapestEntry_21 : decode cX9_cheapestEntry 21 = .ok (.iconst (-1), 1) := by decide +kernel
theorem dX9_cheapestEntry_22 : decode cX9_cheapestEntry 22 = .ok (.iload_n 1, 1) := by decide +kernel
theorem dX9_cheapestEntry_23 : decode cX9_cheapestEntry 23 = .ok (.invokevirtual 326, 3) := by decide +kernel
theorem dX9_cheapestEntry_26 : decode cX9_cheapestEntry 26 = .ok (.invokevirtual 320, 3) := by decide +kernel
theorem dX9_cheapestEntry_29 : decode cX9_cheapestEntry 29 = .ok (.ireturn, 1) := by decide +kernel
def w_X9_cheapestEntry (p0 : Int32) (mm : Mm) (Q9 : Int32 → Mm → Prop) (X9 : Nat → Mm → Prop) : Prop :=
  w_X9_requireWithin p0 0 5 mm (w_X8_tellDuties 1 mm (fun (m_4 : Mm) => w_X8_cheapestBehind 1 (-1) p0 m_4 (fun (r_5 : Int32) => w_X8_numberAt 1 r_5 m_4 (fun (r_7 : Int32) => Q9 r_7 m_4)))) X9
def rm_X9_cheapestEntry : Room := { frames := 7, cells := 1, slots := 6, locals := 112 }
theorem hy_X9_cheapestEntry : yX9_cheapestEntry.cls = RX9 ∧ yX9_cheapestEntry.cls ≠ "java/lang/invoke/MethodHandle" ∧ yX9_cheapestEntry.cls ≠ "java/lang/invoke/VarHandle" ∧ (parseMethodDescriptor yX9_cheapestEntry.desc).map (fun d => d.parameters.length) = some 1 := by decide +kernel
set_option maxRecDepth 100000 in
set_option maxHeartbeats 4000000 in
theorem c_X9_cheapestEntry {l : Launch} {D : va_G} {cA : Nat → ClassId} {ad : Nat → Nat → Nat} {A : Nat → Prop} (ax : Ax ad GC A) (hst : l.stackTraces = false) (p0 : Int32) (mm : Mm) (Q9 : Int32 → Mm → Prop) (X9 : Nat → Mm → Prop) (h : w_X9_cheapestEntry p0 mm Q9 X9) : vx_Met l yX9_cheapestEntry (.code yX9_cheapestEntry cX9_cheapestEntry 2 (some .int) :: TG) rm_X9_cheapestEntry (PcM TT D cA ad false GC (ZC ad A) [.ref (ad 0 1), .int p0] mm) (AnsI TT D cA ad false GC A Q9) (AnsX TT D cA ad false GC A X9) 1 6 A := by
  have zo := ZC_ok ad A
  unfold w_X9_cheapestEntry at h
  refine enterXI pl_X9 rfl (Nat.le_of_ble_eq_true rfl) ?_
  intro p e s m args below meth c QQ X hK hZ hnm hlk htab hQ hE
  refine q_iload_n (j := 1) X dX9_cheapestEntry_0 rfl rfl ?_
  refine q_iconst (v := 0) X dX9_cheapestEntry_1 (by decide) ?_
  refine q_iconst (v := 5) X dX9_cheapestEntry_2 (by decide) ?_
  refine q_xcallv hQ hlk htab (q_runxS X hK hZ zo [.int p0, .int 0, .int 5] [] rfl rfl (Nat.le_of_ble_eq_true rfl) dX9_cheapestEntry_3 ⟨Nat.le_of_ble_eq_true rfl, Nat.le_of_ble_eq_true rfl⟩ (c_X9_requireWithin ax hst p0 0 5 mm _ _ h) rfl rfl (gS kw_4_203 kw_4_204 kw_1_1 kw_4_205) hy_X9_requireWithin.2 ⟨Nat.le_of_ble_eq_true rfl, Nat.le_of_ble_eq_true rfl⟩) ⟨Nat.le_of_ble_eq_true rfl, Nat.le_of_ble_eq_true rfl⟩ (fun k9 m9 h9 => h9) (fun m_2 h => ?_)
  obtain ⟨h, hm⟩ := h
  subst hm
  refine q_aload_n (j := 0) X dX9_cheapestEntry_6 rfl rfl ?_
  refine q_get (k := 0) (v := .ref (ad 1 1)) X hK rfl rfl (Nat.le_of_ble_eq_true rfl) inTX9 (gc (t := 0) (by decide) (ok1 (t := 0) (Nat.le_of_ble_eq_true rfl))) kw_2_111 rfl (rv_nn (a := ad 1) (r := 1) (ok1 (t := 1) (Nat.le_of_ble_eq_true rfl)).1) dX9_cheapestEntry_7 ?_
  refine q_callv (q_runVN X hK hZ zo (gc (t := 1) (by decide) (ok1 (t := 1) (Nat.le_of_ble_eq_true rfl))) rfl rfl [] [] rfl rfl (Nat.le_of_ble_eq_true rfl) dX9_cheapestEntry_10 ⟨Nat.le_of_ble_eq_true rfl, Nat.le_of_ble_eq_true rfl⟩ (c_X8_tellDuties ax 1 (ok1 (t := 1) (Nat.le_of_ble_eq_true rfl)) mm _ h) rfl rfl (List.mem_of_getElem? (i := 85) rfl) kw_1_2 kw_5_204 kw_5_203 ks_64 hy_X8_tellDuties.2 ⟨Nat.le_of_ble_eq_true rfl, Nat.le_of_ble_eq_true rfl⟩) (fun m_4 h => ?_)
  refine q_aload_n (j := 0) X dX9_cheapestEntry_13 rfl rfl ?_
  refine q_get (k := 0) (v := .ref (ad 1 1)) X hK rfl rfl (Nat.le_of_ble_eq_true rfl) inTX9 (gc (t := 0) (by decide) (ok1 (t := 0) (Nat.le_of_ble_eq_true rfl))) kw_2_111 rfl (rv_nn (a := ad 1) (r := 1) (ok1 (t := 1) (Nat.le_of_ble_eq_true rfl)).1) dX9_cheapestEntry_14 ?_
  refine q_aload_n (j := 0) X dX9_cheapestEntry_17 rfl rfl ?_
  refine q_get (k := 0) (v := .ref (ad 1 1)) X hK rfl rfl (Nat.le_of_ble_eq_true rfl) inTX9 (gc (t := 0) (by decide) (ok1 (t := 0) (Nat.le_of_ble_eq_true rfl))) kw_2_111 rfl (rv_nn (a := ad 1) (r := 1) (ok1 (t := 1) (Nat.le_of_ble_eq_true rfl)).1) dX9_cheapestEntry_18 ?_
  refine q_iconst (v := (-1)) X dX9_cheapestEntry_21 (by decide) ?_
  refine q_iload_n (j := 1) X dX9_cheapestEntry_22 rfl rfl ?_
  refine q_calli (q_runVN X hK hZ zo (gc (t := 1) (by decide) (ok1 (t := 1) (Nat.le_of_ble_eq_true rfl))) rfl rfl [.int (-1), .int p0] [.ref (ad 1 1)] rfl rfl (Nat.le_of_ble_eq_true rfl) dX9_cheapestEntry_23 ⟨Nat.le_of_ble_eq_true rfl, Nat.le_of_ble_eq_true rfl⟩ (c_X8_cheapestBehind ax 1 (ok1 (t := 1) (Nat.le_of_ble_eq_true rfl)) (-1) p0 m_4 _ h) rfl rfl (List.mem_of_getElem? (i := 86) rfl) kw_1_2 kw_5_208 kw_5_207 ks_65 hy_X8_cheapestBehind.2 ⟨Nat.le_of_ble_eq_true rfl, Nat.le_of_ble_eq_true rfl⟩) (fun r_5 m_6 h => ?_)
  obtain ⟨h, hm⟩ := h
  subst hm
  refine q_calli (q_runVN X hK hZ zo (gc (t := 1) (by decide) (ok1 (t := 1) (Nat.le_of_ble_eq_true rfl))) rfl rfl [.int r_5] [] rfl rfl (Nat.le_of_ble_eq_true rfl) dX9_cheapestEntry_26 ⟨Nat.le_of_ble_eq_true rfl, Nat.le_of_ble_eq_true rfl⟩ (c_X8_numberAt ax 1 (ok1 (t := 1) (Nat.le_of_ble_eq_true rfl)) r_5 m_4 _ h) rfl rfl (List.mem_of_getElem? (i := 87) rfl) kw_1_2 kw_5_216 kw_5_215 ks_67 hy_X8_numberAt.2 ⟨Nat.le_of_ble_eq_true rfl, Nat.le_of_ble_eq_true rfl⟩) (fun r_7 m_8 h => ?_)
  obtain ⟨h, hm⟩ := h
  subst hm
  exact hE _ _ _ _ _ _ dX9_cheapestEntry_29 (Nat.le_of_ble_eq_true rfl) (Nat.le_of_ble_eq_true rfl) h
theorem dX9_dutyFromCheapest_0 : decode cX9_dutyFromCheapest 0 = .ok (.iload_n 1, 1) := by decide +kernel
theorem dX9_dutyFromCheapest_1 : decode cX9_dutyFromCheapest 1 = .ok (.iconst 0, 1) := by decide +kernel
theorem dX9_dutyFromCheapest_2 : decode cX9_dutyFromCheapest 2 = .ok (.iconst 5, 1) := by decide +kernel
theorem dX9_dutyFromCheapest_3 : decode cX9_dutyFromCheapest 3 = .ok (.invokestatic 154, 3) := by decide +kernel
theorem dX9_dutyFromCheapest_6 : decode cX9_dutyFromCheapest 6 = .ok (.iload_n 2, 1) := by decide +kernel
theorem dX9_dutyFromCheapest_7 : decode cX9_dutyFromCheapest 7 = .ok (.iconst 1, 1) := by decide +kernel
theorem dX9_dutyFromCheapest_8 : decode cX9_dutyFromCheapest 8 = .ok (.sipush 9999, 3) := by decide +kernel
theorem dX9_dutyFromCheapest_11 : decode cX9_dutyFromCheapest 11 = .ok (.invokestatic 154, 3) := by decide +kernel
theorem dX9_dutyFromCheapest_14 : decode cX9_dutyFromCheapest 14 = .ok (.aload_n 0, 1) := by decide +kernel
theorem dX9_dutyFromCheapest_15 : decode cX9_dutyFromCheapest 15 = .ok (.getfield 10, 3) := by decide +kernel
theorem dX9_dutyFromCheapest_18 : decode cX9_dutyFromCheapest 18 = .ok (.iload_n 1, 1) := by decide +kernel
theorem dX9_dutyFromCheapest_19 : decode cX9_dutyFromCheapest 19 = .ok (.iload_n 2, 1) := by decide +kernel
theorem dX9_dutyFromCheapest_20 : decode cX9_dutyFromCheapest 20 = .ok (.invokevirtual 329, 3) := by decide +kernel
theorem dX9_dutyFromCheapest_23 : decode cX9_dutyFromCheapest 23 = .ok (.ireturn, 1) := by decide +kernel
def w_X9_dutyFromCheapest (p0 : Int32) (p1 : Int32) (mm : Mm) (Q9 : Int32 → Mm → Prop) (X9 : Nat → Mm → Prop) : Prop :=
  w_X9_requireWithin p0 0 5 mm (w_X9_requireWithin p1 1 9999 mm (w_X8_dutyOfCheapest 1 p0 p1 mm (fun (r_5 : Int32) (m_6 : Mm) => Q9 r_5 m_6)) X9) X9
def rm_X9_dutyFromCheapest : Room := { frames := 7, cells := 2, slots := 12, locals := 112 }
theorem hy_X9_dutyFromCheapest : yX9_dutyFromCheapest.cls = RX9 ∧ yX9_dutyFromCheapest.cls ≠ "java/lang/invoke/MethodHandle" ∧ yX9_dutyFromCheapest.cls ≠ "java/lang/invoke/VarHandle" ∧ (parseMethodDescriptor yX9_dutyFromCheapest.desc).map (fun d => d.parameters.length) = some 2 := by decide +kernel
set_option maxRecDepth 100000 in
set_option maxHeartbeats 4000000 in
theorem c_X9_dutyFromCheapest {l : Launch} {D : va_G} {cA : Nat → ClassId} {ad : Nat → Nat → Nat} {A : Nat → Prop} (ax : Ax ad GC A) (hst : l.stackTraces = false) (p0 : Int32) (p1 : Int32) (mm : Mm) (Q9 : Int32 → Mm → Prop) (X9 : Nat → Mm → Prop) (h : w_X9_dutyFromCheapest p0 p1 mm Q9 X9) : vx_Met l yX9_dutyFromCheapest (.code yX9_dutyFromCheapest cX9_dutyFromCheapest 3 (some .int) :: TG) rm_X9_dutyFromCheapest (PcM TT D cA ad false GC (ZC ad A) [.ref (ad 0 1), .int p0, .int p1] mm) (AnsI TT D cA ad false GC A Q9) (AnsX TT D cA ad false GC A X9) 2 12 A := by
  have zo := ZC_ok ad A
  unfold w_X9_dutyFromCheapest at h
  refine enterXI pl_X9 rfl (Nat.le_of_ble_eq_true rfl) ?_
  intro p e s m args below meth c QQ X hK hZ hnm hlk htab hQ hE
  refine q_iload_n (j := 1) X dX9_dutyFromCheapest_0 rfl rfl ?_
  refine q_iconst (v := 0) X dX9_dutyFromCheapest_1 (by decide) ?_
  refine q_iconst (v := 5) X dX9_dutyFromCheapest_2 (by decide) ?_
  refine q_xcallv hQ hlk htab (q_runxS X hK hZ zo [.int p0, .int 0, .int 5] [] rfl rfl (Nat.le_of_ble_eq_true rfl) dX9_dutyFromCheapest_3 ⟨Nat.le_of_ble_eq_true rfl, Nat.le_of_ble_eq_true rfl⟩ (c_X9_requireWithin ax hst p0 0 5 mm _ _ h) rfl rfl (gS kw_4_203 kw_4_204 kw_1_1 kw_4_205) hy_X9_requireWithin.2 ⟨Nat.le_of_ble_eq_true rfl, Nat.le_of_ble_eq_true rfl⟩) ⟨Nat.le_of_ble_eq_true rfl, Nat.le_of_ble_eq_true rfl⟩ (fun k9 m9 h9 => h9) (fun m_2 h => ?_)
  obtain ⟨h, hm⟩ := h
  subst hm
  refine q_iload_n (j := 2) X dX9_dutyFromCheapest_6 rfl rfl ?_
  refine q_iconst (v := 1) X dX9_dutyFromCheapest_7 (by decide) ?_
  refine q_sipush (v := 9999) X dX9_dutyFromCheapest_8 (by decide) ?_
  refine q_xcallv hQ hlk htab (q_runxS X hK hZ zo [.int p1, .int 1, .int 9999] [] rfl rfl (Nat.le_of_ble_eq_true rfl) dX9_dutyFromCheapest_11 ⟨Nat.le_of_ble_eq_true rfl, Nat.le_of_ble_eq_true rfl⟩ (c_X9_requireWithin ax hst p1 1 9999 mm _ _ h) rfl rfl (gS kw_4_203 kw_4_204 kw_1_1 kw_4_205) hy_X9_requireWithin.2 ⟨Nat.le_of_ble_eq_true rfl, Nat.le_of_ble_eq_true rfl⟩) ⟨Nat.le_of_ble_eq_true rfl, Nat.le_of_ble_eq_true rfl⟩ (fun k9 m9 h9 => h9) (fun m_4 h => ?_)
  obtain ⟨h, hm⟩ := h
  subst hm
  refine q_aload_n (j := 0) X dX9_dutyFromCheapest_14 rfl rfl ?_
  refine q_get (k := 0) (v := .ref (ad 1 1)) X hK rfl rfl (Nat.le_of_ble_eq_true rfl) inTX9 (gc (t := 0) (by decide) (ok1 (t := 0) (Nat.le_of_ble_eq_true rfl))) kw_2_111 rfl (rv_nn (a := ad 1) (r := 1) (ok1 (t := 1) (Nat.le_of_ble_eq_true rfl)).1) dX9_dutyFromCheapest_15 ?_
  refine q_iload_n (j := 1) X dX9_dutyFromCheapest_18 rfl rfl ?_
  refine q_iload_n (j := 2) X dX9_dutyFromCheapest_19 rfl rfl ?_
  refine q_calli (q_runVN X hK hZ zo (gc (t := 1) (by decide) (ok1 (t := 1) (Nat.le_of_ble_eq_true rfl))) rfl rfl [.int p0, .int p1] [] rfl rfl (Nat.le_of_ble_eq_true rfl) dX9_dutyFromCheapest_20 ⟨Nat.le_of_ble_eq_true rfl, Nat.le_of_ble_eq_true rfl⟩ (c_X8_dutyOfCheapest ax 1 (ok1 (t := 1) (Nat.le_of_ble_eq_true rfl)) p0 p1 mm _ h) rfl rfl (List.mem_of_getElem? (i := 88) rfl) kw_1_2 kw_5_227 kw_5_226 ks_68 hy_X8_dutyOfCheapest.2 ⟨Nat.le_of_ble_eq_true rfl, Nat.le_of_ble_eq_true rfl⟩) (fun r_5 m_6 h => ?_)
  exact hE _ _ _ _ _ _ dX9_dutyFromCheapest_23 (Nat.le_of_ble_eq_true rfl) (Nat.le_of_ble_eq_true rfl) h
theorem dX9_append_0 : decode cX9_append 0 = .ok (.iload_n 1, 1) := by decide +kernel
theorem dX9_append_1 : decode cX9_append 1 = .ok (.bipush 33, 2) := by decide +kernel
theorem dX9_append_3 : decode cX9_append 3 = .ok (.bipush 126, 2) := by decide +kernel
theorem dX9_append_5 : decode cX9_append 5 = .ok (.invokestatic 154, 3) := by decide +kernel
theorem dX9_append_8 : decode cX9_append 8 = .ok (.aload_n 0, 1) := by decide +kernel
theorem dX9_append_9 : decode cX9_append 9 = .ok (.getfield 35, 3) := by decide +kernel
theorem dX9_append_12 : decode cX9_append 12 = .ok (.getfield 335, 3) := by decide +kernel
theorem dX9_append_15 : decode cX9_append 15 = .ok (.bipush 60, 2) := by decide +kernel
theorem dX9_append_17 : decode cX9_append 17 = .ok (.if_icmp .lt 14, 3) := by decide +kernel
theorem dX9_append_20 : decode cX9_append 20 = .ok (.new 338, 3) := by decide +kernel
theorem dX9_append_23 : decode cX9_append 23 = .ok (.dup, 1) := by decide +kernel
theorem dX9_append_24 : decode cX9_append 24 = .ok (.ldc_w 340, 3) := by decide +kernel
theorem dX9_append_27 : decode cX9_append 27 = .ok (.invokespecial 342, 3) := by decide +kernel
theorem dX9_append_30 : decode cX9_append 30 = .ok (.athrow, 1) := by decide +kernel
theorem dX9_append_31 : decode cX9_append 31 = .ok (.aload_n 0, 1) := by decide +kernel
theorem dX9_append_32 : decode cX9_append 32 = .ok (.getfield 35, 3) := by decide +kernel
theorem dX9_append_35 : decode cX9_append 35 = .ok (.iload_n 1, 1) := by decide +kernel
theorem dX9_append_36 : decode cX9_append 36 = .ok (.invokevirtual 343, 3) := by decide +kernel
theorem dX9_append_39 : decode cX9_append 39 = .ok (.ireturn, 1) := by decide +kernel
def w_X9_append (p0 : Int32) (mm : Mm) (Q9 : Int32 → Mm → Prop) (X9 : Nat → Mm → Prop) : Prop :=
  w_X9_requireWithin p0 33 126 mm ((((mm.1 17 1 1) < 60 → w_X4_add p0 mm (fun (r_4 : Int32) (m_5 : Mm) => Q9 r_4 m_5)) ∧
  (¬ (mm.1 17 1 1) < 60 → X9 3 mm))) X9
def rm_X9_append : Room := { frames := 7, cells := 2, slots := 12, locals := 112 }
theorem hy_X9_append : yX9_append.cls = RX9 ∧ yX9_append.cls ≠ "java/lang/invoke/MethodHandle" ∧ yX9_append.cls ≠ "java/lang/invoke/VarHandle" ∧ (parseMethodDescriptor yX9_append.desc).map (fun d => d.parameters.length) = some 1 := by decide +kernel
set_option maxRecDepth 100000 in
set_option maxHeartbeats 4000000 in
theorem c_X9_append {l : Launch} {D : va_G} {cA : Nat → ClassId} {ad : Nat → Nat → Nat} {A : Nat → Prop} (ax : Ax ad GC A) (hst : l.stackTraces = false) (p0 : Int32) (mm : Mm) (Q9 : Int32 → Mm → Prop) (X9 : Nat → Mm → Prop) (h : w_X9_append p0 mm Q9 X9) : vx_Met l yX9_append (.code yX9_append cX9_append 2 (some .int) :: TG) rm_X9_append (PcM TT D cA ad false GC (ZC ad A) [.ref (ad 0 1), .int p0] mm) (AnsI TT D cA ad false GC A Q9) (AnsX TT D cA ad false GC A X9) 2 12 A := by
  have zo := ZC_ok ad A
  unfold w_X9_append at h
  refine enterXI pl_X9 rfl (Nat.le_of_ble_eq_true rfl) ?_
  intro p e s m args below meth c QQ X hK hZ hnm hlk htab hQ hE
  refine q_iload_n (j := 1) X dX9_append_0 rfl rfl ?_
  refine q_bipush (v := 33) X dX9_append_1 (by decide) ?_
  refine q_bipush (v := 126) X dX9_append_3 (by decide) ?_
  refine q_xcallv hQ hlk htab (q_runxS X hK hZ zo [.int p0, .int 33, .int 126] [] rfl rfl (Nat.le_of_ble_eq_true rfl) dX9_append_5 ⟨Nat.le_of_ble_eq_true rfl, Nat.le_of_ble_eq_true rfl⟩ (c_X9_requireWithin ax hst p0 33 126 mm _ _ h) rfl rfl (gS kw_4_203 kw_4_204 kw_1_1 kw_4_205) hy_X9_requireWithin.2 ⟨Nat.le_of_ble_eq_true rfl, Nat.le_of_ble_eq_true rfl⟩) ⟨Nat.le_of_ble_eq_true rfl, Nat.le_of_ble_eq_true rfl⟩ (fun k9 m9 h9 => h9) (fun m_2 h => ?_)
  obtain ⟨h, hm⟩ := h
  subst hm
  refine q_aload_n (j := 0) X dX9_append_8 rfl rfl ?_
  refine q_get (k := 3) (v := .ref (ad 17 1)) X hK rfl rfl (Nat.le_of_ble_eq_true rfl) inTX9 (gc (t := 0) (by decide) (ok1 (t := 0) (Nat.le_of_ble_eq_true rfl))) kw_2_114 rfl (rv_nn (a := ad 17) (r := 1) (ok1 (t := 17) (Nat.le_of_ble_eq_true rfl)).1) dX9_append_9 ?_
  refine q_getN (k := 1) (v := .int (mm.1 17 1 1)) X hK rfl rfl (Nat.le_of_ble_eq_true rfl) inTX4 (gc (t := 17) (by decide) (ok1 (t := 17) (Nat.le_of_ble_eq_true rfl))) (List.mem_of_getElem? (i := 86) rfl) rfl rfl dX9_append_12 ?_
  refine q_bipush (v := 60) X dX9_append_15 (by decide) ?_
  refine q_icmp_lt (tgt := 31) X dX9_append_17 (by decide) (fun c_3 => ?_) (fun c_3 => ?_)
  · have h := h.1 c_3
    refine q_aload_n (j := 0) X dX9_append_31 rfl rfl ?_
    refine q_get (k := 3) (v := .ref (ad 17 1)) X hK rfl rfl (Nat.le_of_ble_eq_true rfl) inTX9 (gc (t := 0) (by decide) (ok1 (t := 0) (Nat.le_of_ble_eq_true rfl))) kw_2_114 rfl (rv_nn (a := ad 17) (r := 1) (ok1 (t := 17) (Nat.le_of_ble_eq_true rfl)).1) dX9_append_32 ?_
    refine q_iload_n (j := 1) X dX9_append_35 rfl rfl ?_
    refine q_calli (q_runVN X hK hZ zo (gc (t := 17) (by decide) (ok1 (t := 17) (Nat.le_of_ble_eq_true rfl))) rfl rfl [.int p0] [] rfl rfl (Nat.le_of_ble_eq_true rfl) dX9_append_36 ⟨Nat.le_of_ble_eq_true rfl, Nat.le_of_ble_eq_true rfl⟩ (c_X4_add ax p0 mm _ h) rfl rfl (List.mem_of_getElem? (i := 89) rfl) kw_1_10 kw_6_2 kw_6_1 ks_69 hy_X4_add.2 ⟨Nat.le_of_ble_eq_true rfl, Nat.le_of_ble_eq_true rfl⟩) (fun r_4 m_5 h => ?_)
    exact hE _ _ _ _ _ _ dX9_append_39 (Nat.le_of_ble_eq_true rfl) (Nat.le_of_ble_eq_true rfl) h
  · have h := h.2 c_3
    exact q_throwSW (k := 3) X hQ hlk htab hst hZ thr_3 (List.mem_of_getElem? (i := 2) rfl) dX9_append_20 dX9_append_23 dX9_append_24 dX9_append_27 dX9_append_30 (Nat.le_of_ble_eq_true rfl) (Nat.le_of_ble_eq_true rfl) (Nat.le_of_ble_eq_true rfl) (Nat.le_of_ble_eq_true rfl) (Nat.le_of_ble_eq_true rfl) (Nat.le_of_ble_eq_true rfl) h
theorem dX9_run_0 : decode cX9_run 0 = .ok (.aload_n 0, 1) := by decide +kernel
theorem dX9_run_1 : decode cX9_run 1 = .ok (.getfield 35, 3) := by decide +kernel
theorem dX9_run_4 : decode cX9_run 4 = .ok (.invokevirtual 352, 3) := by decide +kernel
theorem dX9_run_7 : decode cX9_run 7 = .ok (.ifCond .ne 14, 3) := by decide +kernel
theorem dX9_run_10 : decode cX9_run 10 = .ok (.new 279, 3) := by decide +kernel
theorem dX9_run_13 : decode cX9_run 13 = .ok (.dup, 1) := by decide +kernel
theorem dX9_run_14 : decode cX9_run 14 = .ok (.ldc_w 355, 3) := by decide +kernel
theorem dX9_run_17 : decode cX9_run 17 = .ok (.invokespecial 283, 3) := by decide +kernel
theorem dX9_run_20 : decode cX9_run 20 = .ok (.athrow, 1) := by decide +kernel
theorem dX9_run_21 : decode cX9_run 21 = .ok (.aload_n 0, 1) := by decide +kernel
theorem dX9_run_22 : decode cX9_run 22 = .ok (.getfield 19, 3) := by decide +kernel
theorem dX9_run_25 : decode cX9_run 25 = .ok (.aload_n 0, 1) := by decide +kernel
theorem dX9_run_26 : decode cX9_run 26 = .ok (.getfield 10, 3) := by decide +kernel
theorem dX9_run_29 : decode cX9_run 29 = .ok (.invokevirtual 357, 3) := by decide +kernel
theorem dX9_run_32 : decode cX9_run 32 = .ok (.aload_n 0, 1) := by decide +kernel
theorem dX9_run_33 : decode cX9_run 33 = .ok (.getfield 19, 3) := by decide +kernel
theorem dX9_run_36 : decode cX9_run 36 = .ok (.iconst 1, 1) := by decide +kernel
theorem dX9_run_37 : decode cX9_run 37 = .ok (.putfield 361, 3) := by decide +kernel
theorem dX9_run_40 : decode cX9_run 40 = .ok (.iconst 0, 1) := by decide +kernel
theorem dX9_run_41 : decode cX9_run 41 = .ok (.istore_n 1, 1) := by decide +kernel
theorem dX9_run_42 : decode cX9_run 42 = .ok (.iconst 0, 1) := by decide +kernel
theorem dX9_run_43 : decode cX9_run 43 = .ok (.istore_n 2, 1) := by decide +kernel
theorem dX9_run_44 : decode cX9_run 44 = .ok (.aload_n 0, 1) := by decide +kernel
theorem dX9_run_45 : decode cX9_run 45 = .ok (.getfield 35, 3) := by decide +kernel
theorem dX9_run_48 : decode cX9_run 48 = .ok (.invokevirtual 364, 3) := by decide +kernel
theorem dX9_run_51 : decode cX9_run 51 = .ok (.iconst 0, 1) := by decide +kernel
theorem dX9_run_52 : decode cX9_run 52 = .ok (.istore_n 3, 1) := by decide +kernel
theorem dX9_run_53 : decode cX9_run 53 = .ok (.iload_n 3, 1) := by decide +kernel
theorem dX9_run_54 : decode cX9_run 54 = .ok (.aload_n 0, 1) := by decide +kernel
theorem dX9_run_55 : decode cX9_run 55 = .ok (.getfield 35, 3) := by decide +kernel
theorem dX9_run_58 : decode cX9_run 58 = .ok (.getfield 335, 3) := by decide +kernel
theorem dX9_run_61 : decode cX9_run 61 = .ok (.if_icmp .ge 83, 3) := by decide +kernel
theorem dX9_run_64 : decode cX9_run 64 = .ok (.iload_n 2, 1) := by decide +kernel
theorem dX9_run_65 : decode cX9_run 65 = .ok (.ifCond .ne 79, 3) := by decide +kernel
theorem dX9_run_68 : decode cX9_run 68 = .ok (.aload_n 0, 1) := by decide +kernel
theorem dX9_run_69 : decode cX9_run 69 = .ok (.getfield 35, 3) := by decide +kernel
theorem dX9_run_72 : decode cX9_run 72 = .ok (.aload_n 0, 1) := by decide +kernel
theorem dX9_run_73 : decode cX9_run 73 = .ok (.getfield 35, 3) := by decide +kernel
theorem dX9_run_76 : decode cX9_run 76 = .ok (.getfield 367, 3) := by decide +kernel
theorem dX9_run_79 : decode cX9_run 79 = .ok (.iload_n 3, 1) := by decide +kernel
theorem dX9_run_80 : decode cX9_run 80 = .ok (.iaload, 1) := by decide +kernel
theorem dX9_run_81 : decode cX9_run 81 = .ok (.invokevirtual 371, 3) := by decide +kernel
theorem dX9_run_84 : decode cX9_run 84 = .ok (.pop, 1) := by decide +kernel
theorem dX9_run_85 : decode cX9_run 85 = .ok (.aload_n 0, 1) := by decide +kernel
theorem dX9_run_86 : decode cX9_run 86 = .ok (.getfield 35, 3) := by decide +kernel
theorem dX9_run_89 : decode cX9_run 89 = .ok (.iload_n 3, 1) := by decide +kernel
theorem dX9_run_90 : decode cX9_run 90 = .ok (.invokevirtual 375, 3) := by decide +kernel
theorem dX9_run_93 : decode cX9_run 93 = .ok (.ifCond .eq 45, 3) := by decide +kernel
theorem dX9_run_96 : decode cX9_run 96 = .ok (.aload_n 0, 1) := by decide +kernel
theorem dX9_run_97 : decode cX9_run 97 = .ok (.getfield 28, 3) := by decide +kernel
theorem dX9_run_100 : decode cX9_run 100 = .ok (.aload_n 0, 1) := by decide +kernel
theorem dX9_run_101 : decode cX9_run 101 = .ok (.getfield 35, 3) := by decide +kernel
theorem dX9_run_104 : decode cX9_run 104 = .ok (.getfield 378, 3) := by decide +kernel
theorem dX9_run_107 : decode cX9_run 107 = .ok (.aload_n 0, 1) := by decide +kernel
theorem dX9_run_108 : decode cX9_run 108 = .ok (.getfield 35, 3) := by decide +kernel
theorem dX9_run_111 : decode cX9_run 111 = .ok (.getfield 381, 3) := by decide +kernel
theorem dX9_run_114 : decode cX9_run 114 = .ok (.invokevirtual 384, 3) := by decide +kernel
theorem dX9_run_117 : decode cX9_run 117 = .ok (.ifCond .ge 7, 3) := by decide +kernel
theorem dX9_run_120 : decode cX9_run 120 = .ok (.iconst 1, 1) := by decide +kernel
theorem dX9_run_121 : decode cX9_run 121 = .ok (.goto 4, 3) := by decide +kernel
theorem dX9_run_124 : decode cX9_run 124 = .ok (.iconst 0, 1) := by decide +kernel
theorem dX9_run_125 : decode cX9_run 125 = .ok (.istore_n 2, 1) := by decide +kernel
theorem dX9_run_126 : decode cX9_run 126 = .ok (.iload_n 1, 1) := by decide +kernel
theorem dX9_run_127 : decode cX9_run 127 = .ok (.iload_n 2, 1) := by decide +kernel
theorem dX9_run_128 : decode cX9_run 128 = .ok (.ifCond .eq 7, 3) := by decide +kernel
theorem dX9_run_131 : decode cX9_run 131 = .ok (.iconst 0, 1) := by decide +kernel
theorem dX9_run_132 : decode cX9_run 132 = .ok (.goto 4, 3) := by decide +kernel
theorem dX9_run_135 : decode cX9_run 135 = .ok (.iconst 1, 1) := by decide +kernel
theorem dX9_run_136 : decode cX9_run 136 = .ok (.iadd, 1) := by decide +kernel
theorem dX9_run_137 : decode cX9_run 137 = .ok (.istore_n 1, 1) := by decide +kernel
theorem dX9_run_138 : decode cX9_run 138 = .ok (.iinc 3 1, 3) := by decide +kernel
theorem dX9_run_141 : decode cX9_run 141 = .ok (.goto (-88), 3) := by decide +kernel
theorem dX9_run_144 : decode cX9_run 144 = .ok (.aload_n 0, 1) := by decide +kernel
theorem dX9_run_145 : decode cX9_run 145 = .ok (.getfield 19, 3) := by decide +kernel
theorem dX9_run_148 : decode cX9_run 148 = .ok (.iconst 0, 1) := by decide +kernel
theorem dX9_run_149 : decode cX9_run 149 = .ok (.putfield 361, 3) := by decide +kernel
theorem dX9_run_152 : decode cX9_run 152 = .ok (.aload_n 0, 1) := by decide +kernel
theorem dX9_run_153 : decode cX9_run 153 = .ok (.getfield 35, 3) := by decide +kernel
theorem dX9_run_156 : decode cX9_run 156 = .ok (.invokevirtual 346, 3) := by decide +kernel
theorem dX9_run_159 : decode cX9_run 159 = .ok (.pop, 1) := by decide +kernel
theorem dX9_run_160 : decode cX9_run 160 = .ok (.iload_n 1, 1) := by decide +kernel
theorem dX9_run_161 : decode cX9_run 161 = .ok (.ireturn, 1) := by decide +kernel
def w_X9_run_J125 (y_9 : Int32) (y_11 : Int32) (m_31 : Mm) (K_13 : Int32 → Int32 → Int32 → Mm → Prop) (y_32 : Int32) : Prop :=
  ((y_32 = 0 → ∀ x_34 : Int32, x_34 = (y_9 + 1) → (∀ x_35 : Int32, x_35 = y_11 + 1 → (K_13 x_34 y_32 x_35 m_31))) ∧
  (¬ y_32 = 0 → ∀ x_36 : Int32, x_36 = (y_9 + 0) → (∀ x_37 : Int32, x_37 = y_11 + 1 → (K_13 x_36 y_32 x_37 m_31))))
def w_X9_run_B53 (Q9 : Int32 → Mm → Prop) (K_13 : Int32 → Int32 → Int32 → Mm → Prop) (y_9 : Int32) (y_10 : Int32) (y_11 : Int32) (m_12 : Mm) : Prop :=
  (((m_12.1 17 1 1) ≤ y_11 → ∀ m_16 : Mm, m_16 = sI m_12 12 1 5 0 → (w_X4_wipe m_16 (fun (r_17 : Int32) (m_18 : Mm) => Q9 y_9 m_18))) ∧
  (¬ (m_12.1 17 1 1) ≤ y_11 → ((¬ y_10 = 0 → ∀ m_20 : Mm, m_20 = sI m_12 12 1 5 0 → (w_X4_wipe m_20 (fun (r_21 : Int32) (m_22 : Mm) => Q9 y_9 m_22))) ∧
  (y_10 = 0 → vp_in y_11 60 ∧ (w_X4_reads (m_12.1 18 1 y_11.toNatClampNeg) m_12 (fun (r_24 : Int32) (m_25 : Mm) => w_X4_isLastOfLine y_11 m_25 (fun (r_26 : Int32) => ((r_26 = 0 → ∀ x_29 : Int32, x_29 = y_11 + 1 → (K_13 y_9 y_10 x_29 m_25)) ∧
  (¬ r_26 = 0 → w_X1_carryOutLine (m_25.1 17 1 2) m_25 (fun (r_30 : Int32) (m_31 : Mm) => ((0 ≤ r_30 → w_X9_run_J125 y_9 y_11 m_31 K_13 0) ∧
  (¬ 0 ≤ r_30 → w_X9_run_J125 y_9 y_11 m_31 K_13 1))))))))))))
def w_X9_run  (mm : Mm) (Q9 : Int32 → Mm → Prop) (X9 : Nat → Mm → Prop) : Prop :=
  w_X4_isComplete mm (fun (r_1 : Int32) (m_2 : Mm) => ((¬ r_1 = 0 → w_X3_save 1 m_2 (fun (m_5 : Mm) => ∀ m_6 : Mm, m_6 = sI m_5 12 1 5 1 → (w_X4_startLine m_6 (fun (m_8 : Mm) => ∃ n, itr (α := Int32 × Int32 × Int32 × Mm) (fun K a => w_X9_run_B53 Q9 (fun z0 z1 z2 z3 => K (z0, z1, z2, z3)) a.1 a.2.1 a.2.2.1 a.2.2.2) n (0, 0, 0, m_8))))) ∧
  (r_1 = 0 → X9 2 m_2)))
def rm_X9_run : Room := { frames := 6, cells := 1, slots := 6, locals := 139 }
theorem hy_X9_run : yX9_run.cls = RX9 ∧ yX9_run.cls ≠ "java/lang/invoke/MethodHandle" ∧ yX9_run.cls ≠ "java/lang/invoke/VarHandle" ∧ (parseMethodDescriptor yX9_run.desc).map (fun d => d.parameters.length) = some 0 := by decide +kernel
set_option maxRecDepth 100000 in
set_option maxHeartbeats 4000000 in
theorem c_X9_run {l : Launch} {D : va_G} {cA : Nat → ClassId} {ad : Nat → Nat → Nat} {A : Nat → Prop} (ax : Ax ad GC A) (hst : l.stackTraces = false)  (mm : Mm) (Q9 : Int32 → Mm → Prop) (X9 : Nat → Mm → Prop) (h : w_X9_run mm Q9 X9) : vx_Met l yX9_run (.code yX9_run cX9_run 4 (some .int) :: TG) rm_X9_run (PcM TT D cA ad false GC (ZC ad A) [.ref (ad 0 1)] mm) (AnsI TT D cA ad false GC A Q9) (AnsX TT D cA ad false GC A X9) 1 6 A := by
  have zo := ZC_ok ad A
  unfold w_X9_run at h
  refine enterXI pl_X9 rfl (Nat.le_of_ble_eq_true rfl) ?_
  intro p e s m args below meth c QQ X hK hZ hnm hlk htab hQ hE
  refine q_aload_n (j := 0) X dX9_run_0 rfl rfl ?_
  refine q_get (k := 3) (v := .ref (ad 17 1)) X hK rfl rfl (Nat.le_of_ble_eq_true rfl) inTX9 (gc (t := 0) (by decide) (ok1 (t := 0) (Nat.le_of_ble_eq_true rfl))) kw_2_114 rfl (rv_nn (a := ad 17) (r := 1) (ok1 (t := 17) (Nat.le_of_ble_eq_true rfl)).1) dX9_run_1 ?_
  refine q_calli (q_runVN X hK hZ zo (gc (t := 17) (by decide) (ok1 (t := 17) (Nat.le_of_ble_eq_true rfl))) rfl rfl [] [] rfl rfl (Nat.le_of_ble_eq_true rfl) dX9_run_4 ⟨Nat.le_of_ble_eq_true rfl, Nat.le_of_ble_eq_true rfl⟩ (c_X4_isComplete ax mm _ h) rfl rfl (List.mem_of_getElem? (i := 90) rfl) kw_1_10 kw_6_13 kw_6_12 ks_70 hy_X4_isComplete.2 ⟨Nat.le_of_ble_eq_true rfl, Nat.le_of_ble_eq_true rfl⟩) (fun r_1 m_2 h => ?_)
  refine q_if_ne (tgt := 21) X dX9_run_7 (by decide) (fun c_3 => ?_) (fun c_3 => ?_)
  · have h := h.1 c_3
    refine q_aload_n (j := 0) X dX9_run_21 rfl rfl ?_
    refine q_get (k := 1) (v := .ref (ad 12 1)) X hK rfl rfl (Nat.le_of_ble_eq_true rfl) inTX9 (gc (t := 0) (by decide) (ok1 (t := 0) (Nat.le_of_ble_eq_true rfl))) kw_2_112 rfl (rv_nn (a := ad 12) (r := 1) (ok1 (t := 12) (Nat.le_of_ble_eq_true rfl)).1) dX9_run_22 ?_
    refine q_aload_n (j := 0) X dX9_run_25 rfl rfl ?_
    refine q_get (k := 0) (v := .ref (ad 1 1)) X hK rfl rfl (Nat.le_of_ble_eq_true rfl) inTX9 (gc (t := 0) (by decide) (ok1 (t := 0) (Nat.le_of_ble_eq_true rfl))) kw_2_111 rfl (rv_nn (a := ad 1) (r := 1) (ok1 (t := 1) (Nat.le_of_ble_eq_true rfl)).1) dX9_run_26 ?_
    refine q_callv (q_runVN X hK hZ zo (gc (t := 12) (by decide) (ok1 (t := 12) (Nat.le_of_ble_eq_true rfl))) rfl rfl [.ref (ad 1 1)] [] rfl rfl (Nat.le_of_ble_eq_true rfl) dX9_run_29 ⟨Nat.le_of_ble_eq_true rfl, Nat.le_of_ble_eq_true rfl⟩ (c_X3_save ax 1 (ok1 (t := 1) (Nat.le_of_ble_eq_true rfl)) m_2 _ h) rfl rfl (List.mem_of_getElem? (i := 92) rfl) kw_1_8 kw_2_194 kw_2_193 ks_9 hy_X3_save.2 ⟨Nat.le_of_ble_eq_true rfl, Nat.le_of_ble_eq_true rfl⟩) (fun m_5 h => ?_)
    refine q_aload_n (j := 0) X dX9_run_32 rfl rfl ?_
    refine q_get (k := 1) (v := .ref (ad 12 1)) X hK rfl rfl (Nat.le_of_ble_eq_true rfl) inTX9 (gc (t := 0) (by decide) (ok1 (t := 0) (Nat.le_of_ble_eq_true rfl))) kw_2_112 rfl (rv_nn (a := ad 12) (r := 1) (ok1 (t := 12) (Nat.le_of_ble_eq_true rfl)).1) dX9_run_33 ?_
    refine q_iconst (v := 1) X dX9_run_36 (by decide) ?_
    refine q_putBN (k := 5) X ax hK rfl rfl (Nat.le_of_ble_eq_true rfl) inTX3 (gc (t := 12) (by decide) (ok1 (t := 12) (Nat.le_of_ble_eq_true rfl))) tyX3 tyX3_ok nmX3 (List.mem_of_getElem? (i := 84) rfl) rfl rfl (tyX3_ok 5 (Nat.le_of_ble_eq_true rfl)) (Or.inr rfl) rfl dX9_run_37 ?_
    refine q_nmP (fun m_6 em_6 => ?_)
    have h := h m_6 em_6
    refine q_iconst (v := 0) X dX9_run_40 (by decide) ?_
    refine q_istore_n (lv' := [(1, .int 0), (0, .ref (ad 0 1))]) X dX9_run_41 rfl (by decide) rfl ?_
    refine q_iconst (v := 0) X dX9_run_42 (by decide) ?_
    refine q_istore_n (lv' := [(2, .int 0), (1, .int 0), (0, .ref (ad 0 1))]) X dX9_run_43 rfl (by decide) rfl ?_
    refine q_aload_n (j := 2) X dX9_run_44 rfl rfl ?_
    refine q_get (k := 3) (v := .ref (ad 17 1)) X hK rfl rfl (Nat.le_of_ble_eq_true rfl) inTX9 (gc (t := 0) (by decide) (ok1 (t := 0) (Nat.le_of_ble_eq_true rfl))) kw_2_114 rfl (rv_nn (a := ad 17) (r := 1) (ok1 (t := 17) (Nat.le_of_ble_eq_true rfl)).1) dX9_run_45 ?_
    refine q_callv (q_runVN X hK hZ zo (gc (t := 17) (by decide) (ok1 (t := 17) (Nat.le_of_ble_eq_true rfl))) rfl rfl [] [] rfl rfl (Nat.le_of_ble_eq_true rfl) dX9_run_48 ⟨Nat.le_of_ble_eq_true rfl, Nat.le_of_ble_eq_true rfl⟩ (c_X4_startLine ax m_6 _ h) rfl rfl (List.mem_of_getElem? (i := 93) rfl) kw_1_10 kw_6_21 kw_6_20 ks_72 hy_X4_startLine.2 ⟨Nat.le_of_ble_eq_true rfl, Nat.le_of_ble_eq_true rfl⟩) (fun m_8 h => ?_)
    refine q_iconst (v := 0) X dX9_run_51 (by decide) ?_
    refine q_istore_n (lv' := [(3, .int 0), (2, .int 0), (1, .int 0), (0, .ref (ad 0 1))]) X dX9_run_52 rfl (by decide) rfl ?_
    refine q_sub [3, 2, 1, 0] rfl ?_
    have L53 : ∀ (n : Nat) (y_9 : Int32) (y_10 : Int32) (y_11 : Int32) (m_12 : Mm), itr (α := Int32 × Int32 × Int32 × Mm) (fun K a => w_X9_run_B53 Q9 (fun z0 z1 z2 z3 => K (z0, z1, z2, z3)) a.1 a.2.1 a.2.2.1 a.2.2.2) n (y_9, y_10, y_11, m_12) → V p l e rm_X9_run s m args below meth c QQ 4 A 0 0 (Rep TT D cA ad false GC m_12) 53 [(0, .ref (ad 0 1)), (1, .int y_9), (2, .int y_10), (3, .int y_11)] [] := by
      intro n
      induction n with
      | zero => intro y_9 y_10 y_11 m_12 h; exact h.elim
      | succ n ih_14 =>
        intro y_9 y_10 y_11 m_12 h
        have h : w_X9_run_B53 Q9 (fun z0 z1 z2 z3 => itr (α := Int32 × Int32 × Int32 × Mm) (fun K a => w_X9_run_B53 Q9 (fun z0 z1 z2 z3 => K (z0, z1, z2, z3)) a.1 a.2.1 a.2.2.1 a.2.2.2) n (z0, z1, z2, z3)) y_9 y_10 y_11 m_12 := h
        generalize hKe : (fun z0 z1 z2 z3 => itr (α := Int32 × Int32 × Int32 × Mm) (fun K a => w_X9_run_B53 Q9 (fun z0 z1 z2 z3 => K (z0, z1, z2, z3)) a.1 a.2.1 a.2.2.1 a.2.2.2) n (z0, z1, z2, z3)) = K_13 at h
        have ih_14k : ∀ (y_9 : Int32) (y_10 : Int32) (y_11 : Int32) (m_12 : Mm), K_13 y_9 y_10 y_11 m_12 → V p l e rm_X9_run s m args below meth c QQ 4 A 0 0 (Rep TT D cA ad false GC m_12) 53 [(0, .ref (ad 0 1)), (1, .int y_9), (2, .int y_10), (3, .int y_11)] [] := fun y_9 y_10 y_11 m_12 h => ih_14 y_9 y_10 y_11 m_12 (by rw [← hKe] at h; exact h)
        unfold w_X9_run_B53 at h
        refine q_iload_n (j := 3) X dX9_run_53 rfl rfl ?_
        refine q_aload_n (j := 0) X dX9_run_54 rfl rfl ?_
        refine q_get (k := 3) (v := .ref (ad 17 1)) X hK rfl rfl (Nat.le_of_ble_eq_true rfl) inTX9 (gc (t := 0) (by decide) (ok1 (t := 0) (Nat.le_of_ble_eq_true rfl))) kw_2_114 rfl (rv_nn (a := ad 17) (r := 1) (ok1 (t := 17) (Nat.le_of_ble_eq_true rfl)).1) dX9_run_55 ?_
        refine q_getN (k := 1) (v := .int (m_12.1 17 1 1)) X hK rfl rfl (Nat.le_of_ble_eq_true rfl) inTX4 (gc (t := 17) (by decide) (ok1 (t := 17) (Nat.le_of_ble_eq_true rfl))) (List.mem_of_getElem? (i := 86) rfl) rfl rfl dX9_run_58 ?_
        refine q_icmp_ge (tgt := 144) X dX9_run_61 (by decide) (fun c_15 => ?_) (fun c_15 => ?_)
        · have h := h.1 c_15
          refine q_aload_n (j := 0) X dX9_run_144 rfl rfl ?_
          refine q_get (k := 1) (v := .ref (ad 12 1)) X hK rfl rfl (Nat.le_of_ble_eq_true rfl) inTX9 (gc (t := 0) (by decide) (ok1 (t := 0) (Nat.le_of_ble_eq_true rfl))) kw_2_112 rfl (rv_nn (a := ad 12) (r := 1) (ok1 (t := 12) (Nat.le_of_ble_eq_true rfl)).1) dX9_run_145 ?_
          refine q_iconst (v := 0) X dX9_run_148 (by decide) ?_
          refine q_putBN (k := 5) X ax hK rfl rfl (Nat.le_of_ble_eq_true rfl) inTX3 (gc (t := 12) (by decide) (ok1 (t := 12) (Nat.le_of_ble_eq_true rfl))) tyX3 tyX3_ok nmX3 (List.mem_of_getElem? (i := 84) rfl) rfl rfl (tyX3_ok 5 (Nat.le_of_ble_eq_true rfl)) (Or.inl rfl) rfl dX9_run_149 ?_
          refine q_nmP (fun m_16 em_16 => ?_)
          have h := h m_16 em_16
          refine q_aload_n (j := 0) X dX9_run_152 rfl rfl ?_
          refine q_get (k := 3) (v := .ref (ad 17 1)) X hK rfl rfl (Nat.le_of_ble_eq_true rfl) inTX9 (gc (t := 0) (by decide) (ok1 (t := 0) (Nat.le_of_ble_eq_true rfl))) kw_2_114 rfl (rv_nn (a := ad 17) (r := 1) (ok1 (t := 17) (Nat.le_of_ble_eq_true rfl)).1) dX9_run_153 ?_
          refine q_calli (q_runVN X hK hZ zo (gc (t := 17) (by decide) (ok1 (t := 17) (Nat.le_of_ble_eq_true rfl))) rfl rfl [] [] rfl rfl (Nat.le_of_ble_eq_true rfl) dX9_run_156 ⟨Nat.le_of_ble_eq_true rfl, Nat.le_of_ble_eq_true rfl⟩ (c_X4_wipe ax m_16 _ h) rfl rfl (List.mem_of_getElem? (i := 97) rfl) kw_1_10 kw_6_92 kw_6_91 ks_80 hy_X4_wipe.2 ⟨Nat.le_of_ble_eq_true rfl, Nat.le_of_ble_eq_true rfl⟩) (fun r_17 m_18 h => ?_)
          refine q_pop X dX9_run_159 rfl ?_
          refine q_iload_n (j := 1) X dX9_run_160 rfl rfl ?_
          exact hE _ _ _ _ _ _ dX9_run_161 (Nat.le_of_ble_eq_true rfl) (Nat.le_of_ble_eq_true rfl) h
        · have h := h.2 c_15
          refine q_iload_n (j := 2) X dX9_run_64 rfl rfl ?_
          refine q_if_ne (tgt := 144) X dX9_run_65 (by decide) (fun c_19 => ?_) (fun c_19 => ?_)
          · have h := h.1 c_19
            refine q_aload_n (j := 0) X dX9_run_144 rfl rfl ?_
            refine q_get (k := 1) (v := .ref (ad 12 1)) X hK rfl rfl (Nat.le_of_ble_eq_true rfl) inTX9 (gc (t := 0) (by decide) (ok1 (t := 0) (Nat.le_of_ble_eq_true rfl))) kw_2_112 rfl (rv_nn (a := ad 12) (r := 1) (ok1 (t := 12) (Nat.le_of_ble_eq_true rfl)).1) dX9_run_145 ?_
            refine q_iconst (v := 0) X dX9_run_148 (by decide) ?_
            refine q_putBN (k := 5) X ax hK rfl rfl (Nat.le_of_ble_eq_true rfl) inTX3 (gc (t := 12) (by decide) (ok1 (t := 12) (Nat.le_of_ble_eq_true rfl))) tyX3 tyX3_ok nmX3 (List.mem_of_getElem? (i := 84) rfl) rfl rfl (tyX3_ok 5 (Nat.le_of_ble_eq_true rfl)) (Or.inl rfl) rfl dX9_run_149 ?_
            refine q_nmP (fun m_20 em_20 => ?_)
            have h := h m_20 em_20
            refine q_aload_n (j := 0) X dX9_run_152 rfl rfl ?_
            refine q_get (k := 3) (v := .ref (ad 17 1)) X hK rfl rfl (Nat.le_of_ble_eq_true rfl) inTX9 (gc (t := 0) (by decide) (ok1 (t := 0) (Nat.le_of_ble_eq_true rfl))) kw_2_114 rfl (rv_nn (a := ad 17) (r := 1) (ok1 (t := 17) (Nat.le_of_ble_eq_true rfl)).1) dX9_run_153 ?_
            refine q_calli (q_runVN X hK hZ zo (gc (t := 17) (by decide) (ok1 (t := 17) (Nat.le_of_ble_eq_true rfl))) rfl rfl [] [] rfl rfl (Nat.le_of_ble_eq_true rfl) dX9_run_156 ⟨Nat.le_of_ble_eq_true rfl, Nat.le_of_ble_eq_true rfl⟩ (c_X4_wipe ax m_20 _ h) rfl rfl (List.mem_of_getElem? (i := 97) rfl) kw_1_10 kw_6_92 kw_6_91 ks_80 hy_X4_wipe.2 ⟨Nat.le_of_ble_eq_true rfl, Nat.le_of_ble_eq_true rfl⟩) (fun r_21 m_22 h => ?_)
            refine q_pop X dX9_run_159 rfl ?_
            refine q_iload_n (j := 1) X dX9_run_160 rfl rfl ?_
            exact hE _ _ _ _ _ _ dX9_run_161 (Nat.le_of_ble_eq_true rfl) (Nat.le_of_ble_eq_true rfl) h
          · have h := h.2 c_19
            refine q_aload_n (j := 0) X dX9_run_68 rfl rfl ?_
            refine q_get (k := 3) (v := .ref (ad 17 1)) X hK rfl rfl (Nat.le_of_ble_eq_true rfl) inTX9 (gc (t := 0) (by decide) (ok1 (t := 0) (Nat.le_of_ble_eq_true rfl))) kw_2_114 rfl (rv_nn (a := ad 17) (r := 1) (ok1 (t := 17) (Nat.le_of_ble_eq_true rfl)).1) dX9_run_69 ?_
            refine q_aload_n (j := 0) X dX9_run_72 rfl rfl ?_
            refine q_get (k := 3) (v := .ref (ad 17 1)) X hK rfl rfl (Nat.le_of_ble_eq_true rfl) inTX9 (gc (t := 0) (by decide) (ok1 (t := 0) (Nat.le_of_ble_eq_true rfl))) kw_2_114 rfl (rv_nn (a := ad 17) (r := 1) (ok1 (t := 17) (Nat.le_of_ble_eq_true rfl)).1) dX9_run_73 ?_
            refine q_getN (k := 0) (v := .ref (ad 18 1)) X hK rfl rfl (Nat.le_of_ble_eq_true rfl) inTX4 (gc (t := 17) (by decide) (ok1 (t := 17) (Nat.le_of_ble_eq_true rfl))) (List.mem_of_getElem? (i := 85) rfl) rfl (rv_nn (a := ad 18) (r := 1) (ok1 (t := 18) (Nat.le_of_ble_eq_true rfl)).1) dX9_run_76 ?_
            refine q_iload_n (j := 3) X dX9_run_79 rfl rfl ?_
            obtain ⟨b_23, h⟩ := h
            refine q_iald (t := 18) (i := 1) (jn := y_11.toNatClampNeg) (v := .int (m_12.1 18 1 y_11.toNatClampNeg)) X hK rfl rfl (gc (t := 18) (by decide) (ok1 (t := 18) (Nat.le_of_ble_eq_true rfl))) rfl b_23 rfl rfl dX9_run_80 ?_
            refine q_calli (q_runVN X hK hZ zo (gc (t := 17) (by decide) (ok1 (t := 17) (Nat.le_of_ble_eq_true rfl))) rfl rfl [.int (m_12.1 18 1 y_11.toNatClampNeg)] [] rfl rfl (Nat.le_of_ble_eq_true rfl) dX9_run_81 ⟨Nat.le_of_ble_eq_true rfl, Nat.le_of_ble_eq_true rfl⟩ (c_X4_reads ax (m_12.1 18 1 y_11.toNatClampNeg) m_12 _ h) rfl rfl (List.mem_of_getElem? (i := 94) rfl) kw_1_10 kw_6_29 kw_6_28 ks_74 hy_X4_reads.2 ⟨Nat.le_of_ble_eq_true rfl, Nat.le_of_ble_eq_true rfl⟩) (fun r_24 m_25 h => ?_)
            refine q_pop X dX9_run_84 rfl ?_
            refine q_aload_n (j := 0) X dX9_run_85 rfl rfl ?_
            refine q_get (k := 3) (v := .ref (ad 17 1)) X hK rfl rfl (Nat.le_of_ble_eq_true rfl) inTX9 (gc (t := 0) (by decide) (ok1 (t := 0) (Nat.le_of_ble_eq_true rfl))) kw_2_114 rfl (rv_nn (a := ad 17) (r := 1) (ok1 (t := 17) (Nat.le_of_ble_eq_true rfl)).1) dX9_run_86 ?_
            refine q_iload_n (j := 3) X dX9_run_89 rfl rfl ?_
            refine q_calli (q_runVN X hK hZ zo (gc (t := 17) (by decide) (ok1 (t := 17) (Nat.le_of_ble_eq_true rfl))) rfl rfl [.int y_11] [] rfl rfl (Nat.le_of_ble_eq_true rfl) dX9_run_90 ⟨Nat.le_of_ble_eq_true rfl, Nat.le_of_ble_eq_true rfl⟩ (c_X4_isLastOfLine ax y_11 m_25 _ h) rfl rfl (List.mem_of_getElem? (i := 95) rfl) kw_1_10 kw_6_74 kw_6_73 ks_78 hy_X4_isLastOfLine.2 ⟨Nat.le_of_ble_eq_true rfl, Nat.le_of_ble_eq_true rfl⟩) (fun r_26 m_27 h => ?_)
            obtain ⟨h, hm⟩ := h
            subst hm
            refine q_if_eq (tgt := 138) X dX9_run_93 (by decide) (fun c_28 => ?_) (fun c_28 => ?_)
            · have h := h.1 c_28
              obtain ⟨x_29, ex_29⟩ : ∃ z : Int32, z = y_11 + 1 := ⟨_, rfl⟩
              have h := h x_29 ex_29
              refine q_iinc (j := 3) (v := x_29) (lv' := [(3, .int x_29), (0, .ref (ad 0 1)), (1, .int y_9), (2, .int y_10)]) X dX9_run_138 rfl (by rw [ex_29]; rfl) (by decide) rfl ?_
              refine q_goto (tgt := 53) X dX9_run_141 (by decide) ?_
              refine q_sub [1, 2, 3, 0] rfl ?_
              exact ih_14k y_9 y_10 x_29 m_25 h
            · have h := h.2 c_28
              refine q_aload_n (j := 0) X dX9_run_96 rfl rfl ?_
              refine q_get (k := 2) (v := .ref (ad 16 1)) X hK rfl rfl (Nat.le_of_ble_eq_true rfl) inTX9 (gc (t := 0) (by decide) (ok1 (t := 0) (Nat.le_of_ble_eq_true rfl))) kw_2_113 rfl (rv_nn (a := ad 16) (r := 1) (ok1 (t := 16) (Nat.le_of_ble_eq_true rfl)).1) dX9_run_97 ?_
              refine q_aload_n (j := 0) X dX9_run_100 rfl rfl ?_
              refine q_get (k := 3) (v := .ref (ad 17 1)) X hK rfl rfl (Nat.le_of_ble_eq_true rfl) inTX9 (gc (t := 0) (by decide) (ok1 (t := 0) (Nat.le_of_ble_eq_true rfl))) kw_2_114 rfl (rv_nn (a := ad 17) (r := 1) (ok1 (t := 17) (Nat.le_of_ble_eq_true rfl)).1) dX9_run_101 ?_
              refine q_getN (k := 2) (v := .int (m_25.1 17 1 2)) X hK rfl rfl (Nat.le_of_ble_eq_true rfl) inTX4 (gc (t := 17) (by decide) (ok1 (t := 17) (Nat.le_of_ble_eq_true rfl))) (List.mem_of_getElem? (i := 87) rfl) rfl rfl dX9_run_104 ?_
              refine q_aload_n (j := 0) X dX9_run_107 rfl rfl ?_
              refine q_get (k := 3) (v := .ref (ad 17 1)) X hK rfl rfl (Nat.le_of_ble_eq_true rfl) inTX9 (gc (t := 0) (by decide) (ok1 (t := 0) (Nat.le_of_ble_eq_true rfl))) kw_2_114 rfl (rv_nn (a := ad 17) (r := 1) (ok1 (t := 17) (Nat.le_of_ble_eq_true rfl)).1) dX9_run_108 ?_
              refine q_getN (k := 5) (v := .ref (ad 19 1)) X hK rfl rfl (Nat.le_of_ble_eq_true rfl) inTX4 (gc (t := 17) (by decide) (ok1 (t := 17) (Nat.le_of_ble_eq_true rfl))) (List.mem_of_getElem? (i := 88) rfl) rfl (rv_nn (a := ad 19) (r := 1) (ok1 (t := 19) (Nat.le_of_ble_eq_true rfl)).1) dX9_run_111 ?_
              refine q_calli (q_runVN X hK hZ zo (gc (t := 16) (by decide) (ok1 (t := 16) (Nat.le_of_ble_eq_true rfl))) rfl rfl [.int (m_25.1 17 1 2), .ref (ad 19 1)] [] rfl rfl (Nat.le_of_ble_eq_true rfl) dX9_run_114 ⟨Nat.le_of_ble_eq_true rfl, Nat.le_of_ble_eq_true rfl⟩ (c_X1_carryOutLine ax (m_25.1 17 1 2) m_25 _ h) rfl rfl (List.mem_of_getElem? (i := 96) rfl) kw_1_9 kw_6_78 kw_6_77 ks_79 hy_X1_carryOutLine.2 ⟨Nat.le_of_ble_eq_true rfl, Nat.le_of_ble_eq_true rfl⟩) (fun r_30 m_31 h => ?_)
              have J125 : ∀ (y_32 : Int32), w_X9_run_J125 y_9 y_11 m_31 K_13 y_32 → V p l e rm_X9_run s m args below meth c QQ 4 A 0 0 (Rep TT D cA ad false GC m_31) 125 [(0, .ref (ad 0 1)), (1, .int y_9), (3, .int y_11)] [.int y_32] := by
                intro y_32 h
                unfold w_X9_run_J125 at h
                refine q_istore_n (lv' := [(2, .int y_32), (0, .ref (ad 0 1)), (1, .int y_9), (3, .int y_11)]) X dX9_run_125 rfl (by decide) rfl ?_
                refine q_iload_n (j := 2) X dX9_run_126 rfl rfl ?_
                refine q_iload_n (j := 0) X dX9_run_127 rfl rfl ?_
                refine q_if_eq (tgt := 135) X dX9_run_128 (by decide) (fun c_33 => ?_) (fun c_33 => ?_)
                · have h := h.1 c_33
                  refine q_iconst (v := 1) X dX9_run_135 (by decide) ?_
                  refine q_iadd X dX9_run_136 ?_
                  refine q_topi (fun x_34 ex_34 => ?_)
                  have h := h x_34 ex_34
                  refine q_istore_n (lv' := [(1, .int x_34), (2, .int y_32), (0, .ref (ad 0 1)), (3, .int y_11)]) X dX9_run_137 rfl (by decide) rfl ?_
                  obtain ⟨x_35, ex_35⟩ : ∃ z : Int32, z = y_11 + 1 := ⟨_, rfl⟩
                  have h := h x_35 ex_35
                  refine q_iinc (j := 3) (v := x_35) (lv' := [(3, .int x_35), (1, .int x_34), (2, .int y_32), (0, .ref (ad 0 1))]) X dX9_run_138 rfl (by rw [ex_35]; rfl) (by decide) rfl ?_
                  refine q_goto (tgt := 53) X dX9_run_141 (by decide) ?_
                  refine q_sub [3, 1, 2, 0] rfl ?_
                  exact ih_14k x_34 y_32 x_35 m_31 h
                · have h := h.2 c_33
                  refine q_iconst (v := 0) X dX9_run_131 (by decide) ?_
                  refine q_goto (tgt := 136) X dX9_run_132 (by decide) ?_
                  refine q_iadd X dX9_run_136 ?_
                  refine q_topi (fun x_36 ex_36 => ?_)
                  have h := h x_36 ex_36
                  refine q_istore_n (lv' := [(1, .int x_36), (2, .int y_32), (0, .ref (ad 0 1)), (3, .int y_11)]) X dX9_run_137 rfl (by decide) rfl ?_
                  obtain ⟨x_37, ex_37⟩ : ∃ z : Int32, z = y_11 + 1 := ⟨_, rfl⟩
                  have h := h x_37 ex_37
                  refine q_iinc (j := 3) (v := x_37) (lv' := [(3, .int x_37), (1, .int x_36), (2, .int y_32), (0, .ref (ad 0 1))]) X dX9_run_138 rfl (by rw [ex_37]; rfl) (by decide) rfl ?_
                  refine q_goto (tgt := 53) X dX9_run_141 (by decide) ?_
                  refine q_sub [3, 1, 2, 0] rfl ?_
                  exact ih_14k x_36 y_32 x_37 m_31 h
              refine q_if_ge (tgt := 124) X dX9_run_117 (by decide) (fun c_38 => ?_) (fun c_38 => ?_)
              · have h := h.1 c_38
                refine q_iconst (v := 0) X dX9_run_124 (by decide) ?_
                refine q_sub [0, 1, 3] rfl ?_
                exact J125 0 h
              · have h := h.2 c_38
                refine q_iconst (v := 1) X dX9_run_120 (by decide) ?_
                refine q_goto (tgt := 125) X dX9_run_121 (by decide) ?_
                refine q_sub [0, 1, 3] rfl ?_
                exact J125 1 h
    obtain ⟨n_39, h⟩ := h
    exact L53 n_39 0 0 0 m_8 h
  · have h := h.2 c_3
    exact q_throwSW (k := 2) X hQ hlk htab hst hZ thr_2 (List.mem_of_getElem? (i := 3) rfl) dX9_run_10 dX9_run_13 dX9_run_14 dX9_run_17 dX9_run_20 (Nat.le_of_ble_eq_true rfl) (Nat.le_of_ble_eq_true rfl) (Nat.le_of_ble_eq_true rfl) (Nat.le_of_ble_eq_true rfl) (Nat.le_of_ble_eq_true rfl) (Nat.le_of_ble_eq_true rfl) h
theorem dX9_undo_0 : decode cX9_undo 0 = .ok (.aload_n 0, 1) := by decide +kernel
theorem dX9_undo_1 : decode cX9_undo 1 = .ok (.getfield 19, 3) := by decide +kernel
theorem dX9_undo_4 : decode cX9_undo 4 = .ok (.getfield 388, 3) := by decide +kernel
theorem dX9_undo_7 : decode cX9_undo 7 = .ok (.ifCond .gt 14, 3) := by decide +kernel
theorem dX9_undo_10 : decode cX9_undo 10 = .ok (.new 338, 3) := by decide +kernel
theorem dX9_undo_13 : decode cX9_undo 13 = .ok (.dup, 1) := by decide +kernel
theorem dX9_undo_14 : decode cX9_undo 14 = .ok (.ldc_w 391, 3) := by decide +kernel
theorem dX9_undo_17 : decode cX9_undo 17 = .ok (.invokespecial 342, 3) := by decide +kernel
theorem dX9_undo_20 : decode cX9_undo 20 = .ok (.athrow, 1) := by decide +kernel
theorem dX9_undo_21 : decode cX9_undo 21 = .ok (.aload_n 0, 1) := by decide +kernel
theorem dX9_undo_22 : decode cX9_undo 22 = .ok (.getfield 19, 3) := by decide +kernel
theorem dX9_undo_25 : decode cX9_undo 25 = .ok (.aload_n 0, 1) := by decide +kernel
theorem dX9_undo_26 : decode cX9_undo 26 = .ok (.getfield 10, 3) := by decide +kernel
theorem dX9_undo_29 : decode cX9_undo 29 = .ok (.invokevirtual 393, 3) := by decide +kernel
theorem dX9_undo_32 : decode cX9_undo 32 = .ok (.aload_n 0, 1) := by decide +kernel
theorem dX9_undo_33 : decode cX9_undo 33 = .ok (.getfield 19, 3) := by decide +kernel
theorem dX9_undo_36 : decode cX9_undo 36 = .ok (.getfield 388, 3) := by decide +kernel
theorem dX9_undo_39 : decode cX9_undo 39 = .ok (.ireturn, 1) := by decide +kernel
def w_X9_undo  (mm : Mm) (Q9 : Int32 → Mm → Prop) (X9 : Nat → Mm → Prop) : Prop :=
  ((0 < (mm.1 12 1 2) → w_X3_restoreLast 1 mm (fun (m_3 : Mm) => Q9 (m_3.1 12 1 2) m_3)) ∧
  (¬ 0 < (mm.1 12 1 2) → X9 3 mm))
def rm_X9_undo : Room := { frames := 6, cells := 1, slots := 6, locals := 90 }
theorem hy_X9_undo : yX9_undo.cls = RX9 ∧ yX9_undo.cls ≠ "java/lang/invoke/MethodHandle" ∧ yX9_undo.cls ≠ "java/lang/invoke/VarHandle" ∧ (parseMethodDescriptor yX9_undo.desc).map (fun d => d.parameters.length) = some 0 := by decide +kernel
set_option maxRecDepth 100000 in
set_option maxHeartbeats 4000000 in
theorem c_X9_undo {l : Launch} {D : va_G} {cA : Nat → ClassId} {ad : Nat → Nat → Nat} {A : Nat → Prop} (ax : Ax ad GC A) (hst : l.stackTraces = false)  (mm : Mm) (Q9 : Int32 → Mm → Prop) (X9 : Nat → Mm → Prop) (h : w_X9_undo mm Q9 X9) : vx_Met l yX9_undo (.code yX9_undo cX9_undo 1 (some .int) :: TG) rm_X9_undo (PcM TT D cA ad false GC (ZC ad A) [.ref (ad 0 1)] mm) (AnsI TT D cA ad false GC A Q9) (AnsX TT D cA ad false GC A X9) 1 6 A := by
  have zo := ZC_ok ad A
  unfold w_X9_undo at h
  refine enterXI pl_X9 rfl (Nat.le_of_ble_eq_true rfl) ?_
  intro p e s m args below meth c QQ X hK hZ hnm hlk htab hQ hE
  refine q_aload_n (j := 0) X dX9_undo_0 rfl rfl ?_
  refine q_get (k := 1) (v := .ref (ad 12 1)) X hK rfl rfl (Nat.le_of_ble_eq_true rfl) inTX9 (gc (t := 0) (by decide) (ok1 (t := 0) (Nat.le_of_ble_eq_true rfl))) kw_2_112 rfl (rv_nn (a := ad 12) (r := 1) (ok1 (t := 12) (Nat.le_of_ble_eq_true rfl)).1) dX9_undo_1 ?_
  refine q_getN (k := 2) (v := .int (mm.1 12 1 2)) X hK rfl rfl (Nat.le_of_ble_eq_true rfl) inTX3 (gc (t := 12) (by decide) (ok1 (t := 12) (Nat.le_of_ble_eq_true rfl))) (List.mem_of_getElem? (i := 81) rfl) rfl rfl dX9_undo_4 ?_
  refine q_if_gt (tgt := 21) X dX9_undo_7 (by decide) (fun c_1 => ?_) (fun c_1 => ?_)
  · have h := h.1 c_1
    refine q_aload_n (j := 0) X dX9_undo_21 rfl rfl ?_
    refine q_get (k := 1) (v := .ref (ad 12 1)) X hK rfl rfl (Nat.le_of_ble_eq_true rfl) inTX9 (gc (t := 0) (by decide) (ok1 (t := 0) (Nat.le_of_ble_eq_true rfl))) kw_2_112 rfl (rv_nn (a := ad 12) (r := 1) (ok1 (t := 12) (Nat.le_of_ble_eq_true rfl)).1) dX9_undo_22 ?_
    refine q_aload_n (j := 0) X dX9_undo_25 rfl rfl ?_
    refine q_get (k := 0) (v := .ref (ad 1 1)) X hK rfl rfl (Nat.le_of_ble_eq_true rfl) inTX9 (gc (t := 0) (by decide) (ok1 (t := 0) (Nat.le_of_ble_eq_true rfl))) kw_2_111 rfl (rv_nn (a := ad 1) (r := 1) (ok1 (t := 1) (Nat.le_of_ble_eq_true rfl)).1) dX9_undo_26 ?_
    refine q_callv (q_runVN X hK hZ zo (gc (t := 12) (by decide) (ok1 (t := 12) (Nat.le_of_ble_eq_true rfl))) rfl rfl [.ref (ad 1 1)] [] rfl rfl (Nat.le_of_ble_eq_true rfl) dX9_undo_29 ⟨Nat.le_of_ble_eq_true rfl, Nat.le_of_ble_eq_true rfl⟩ (c_X3_restoreLast ax 1 (ok1 (t := 1) (Nat.le_of_ble_eq_true rfl)) mm _ h) rfl rfl (List.mem_of_getElem? (i := 98) rfl) kw_1_8 kw_6_104 kw_6_103 ks_81 hy_X3_restoreLast.2 ⟨Nat.le_of_ble_eq_true rfl, Nat.le_of_ble_eq_true rfl⟩) (fun m_3 h => ?_)
    refine q_aload_n (j := 0) X dX9_undo_32 rfl rfl ?_
    refine q_get (k := 1) (v := .ref (ad 12 1)) X hK rfl rfl (Nat.le_of_ble_eq_true rfl) inTX9 (gc (t := 0) (by decide) (ok1 (t := 0) (Nat.le_of_ble_eq_true rfl))) kw_2_112 rfl (rv_nn (a := ad 12) (r := 1) (ok1 (t := 12) (Nat.le_of_ble_eq_true rfl)).1) dX9_undo_33 ?_
    refine q_getN (k := 2) (v := .int (m_3.1 12 1 2)) X hK rfl rfl (Nat.le_of_ble_eq_true rfl) inTX3 (gc (t := 12) (by decide) (ok1 (t := 12) (Nat.le_of_ble_eq_true rfl))) (List.mem_of_getElem? (i := 81) rfl) rfl rfl dX9_undo_36 ?_
    exact hE _ _ _ _ _ _ dX9_undo_39 (Nat.le_of_ble_eq_true rfl) (Nat.le_of_ble_eq_true rfl) h
  · have h := h.2 c_1
    exact q_throwSW (k := 3) X hQ hlk htab hst hZ thr_3 (List.mem_of_getElem? (i := 4) rfl) dX9_undo_10 dX9_undo_13 dX9_undo_14 dX9_undo_17 dX9_undo_20 (Nat.le_of_ble_eq_true rfl) (Nat.le_of_ble_eq_true rfl) (Nat.le_of_ble_eq_true rfl) (Nat.le_of_ble_eq_true rfl) (Nat.le_of_ble_eq_true rfl) (Nat.le_of_ble_eq_true rfl) h
theorem dX9_requireSlot_0 : decode cX9_requireSlot 0 = .ok (.iload_n 0, 1) := by decide +kernel
theorem dX9_requireSlot_1 : decode cX9_requireSlot 1 = .ok (.iconst 0, 1) := by decide +kernel
theorem dX9_requireSlot_2 : decode cX9_requireSlot 2 = .ok (.iconst 1, 1) := by decide +kernel
theorem dX9_requireSlot_3 : decode cX9_requireSlot 3 = .ok (.invokestatic 107, 3) := by decide +kernel
theorem dX9_requireSlot_6 : decode cX9_requireSlot 6 = .ok (.ifCond .ne 14, 3) := by decide +kernel
theorem dX9_requireSlot_9 : decode cX9_requireSlot 9 = .ok (.new 111, 3) := by decide +kernel
theorem dX9_requireSlot_12 : decode cX9_requireSlot 12 = .ok (.dup, 1) := by decide +kernel
theorem dX9_requireSlot_13 : decode cX9_requireSlot 13 = .ok (.ldc_w 422, 3) := by decide +kernel
theorem dX9_requireSlot_16 : decode cX9_requireSlot 16 = .ok (.invokespecial 115, 3) := by decide +kernel
theorem dX9_requireSlot_19 : decode cX9_requireSlot 19 = .ok (.athrow, 1) := by decide +kernel
theorem dX9_requireSlot_20 : decode cX9_requireSlot 20 = .ok (.return_, 1) := by decide +kernel
def w_X9_requireSlot (p0 : Int32) (mm : Mm) (Q9 : Prop) (X9 : Nat → Mm → Prop) : Prop :=
  w_X9_isWithin p0 0 1 mm (fun (r_1 : Int32) => ((¬ r_1 = 0 → Q9) ∧
  (r_1 = 0 → X9 1 mm)))
def rm_X9_requireSlot : Room := { frames := 6, cells := 1, slots := 6, locals := 90 }
theorem hy_X9_requireSlot : yX9_requireSlot.cls = RX9 ∧ yX9_requireSlot.cls ≠ "java/lang/invoke/MethodHandle" ∧ yX9_requireSlot.cls ≠ "java/lang/invoke/VarHandle" ∧ (parseMethodDescriptor yX9_requireSlot.desc).map (fun d => d.parameters.length) = some 1 := by decide +kernel
set_option maxRecDepth 100000 in
set_option maxHeartbeats 4000000 in
theorem c_X9_requireSlot {l : Launch} {D : va_G} {cA : Nat → ClassId} {ad : Nat → Nat → Nat} {A : Nat → Prop} (ax : Ax ad GC A) (hst : l.stackTraces = false) (p0 : Int32) (mm : Mm) (Q9 : Prop) (X9 : Nat → Mm → Prop) (h : w_X9_requireSlot p0 mm Q9 X9) : vx_Met l yX9_requireSlot (.code yX9_requireSlot cX9_requireSlot 1 none :: TG) rm_X9_requireSlot (PcM TT D cA ad false GC (ZC ad A) [.int p0] mm) (AnsV TT D cA ad false GC A (fun mm' => Q9 ∧ mm = mm')) (AnsX TT D cA ad false GC A X9) 1 6 A := by
  have zo := ZC_ok ad A
  unfold w_X9_requireSlot at h
  refine enterXV pl_X9 rfl (Nat.le_of_ble_eq_true rfl) ?_
  intro p e s m args below meth c QQ X hK hZ hnm hlk htab hQ hE
  refine q_iload_n (j := 0) X dX9_requireSlot_0 rfl rfl ?_
  refine q_iconst (v := 0) X dX9_requireSlot_1 (by decide) ?_
  refine q_iconst (v := 1) X dX9_requireSlot_2 (by decide) ?_
  refine q_calli (q_runS X hK hZ zo [.int p0, .int 0, .int 1] [] rfl rfl (Nat.le_of_ble_eq_true rfl) dX9_requireSlot_3 ⟨Nat.le_of_ble_eq_true rfl, Nat.le_of_ble_eq_true rfl⟩ (c_X9_isWithin ax p0 0 1 mm _ h) rfl rfl (gS kw_2_156 kw_2_157 kw_1_1 kw_2_158) hy_X9_isWithin.2 ⟨Nat.le_of_ble_eq_true rfl, Nat.le_of_ble_eq_true rfl⟩) (fun r_1 m_2 h => ?_)
  obtain ⟨h, hm⟩ := h
  subst hm
  refine q_if_ne (tgt := 20) X dX9_requireSlot_6 (by decide) (fun c_3 => ?_) (fun c_3 => ?_)
  · have h := h.1 c_3
    exact hE _ _ _ _ _ dX9_requireSlot_20 (Nat.le_of_ble_eq_true rfl) (Nat.le_of_ble_eq_true rfl) ⟨h, rfl⟩
  · have h := h.2 c_3
    exact q_throwSW (k := 1) X hQ hlk htab hst hZ thr_1 (List.mem_of_getElem? (i := 9) rfl) dX9_requireSlot_9 dX9_requireSlot_12 dX9_requireSlot_13 dX9_requireSlot_16 dX9_requireSlot_19 (Nat.le_of_ble_eq_true rfl) (Nat.le_of_ble_eq_true rfl) (Nat.le_of_ble_eq_true rfl) (Nat.le_of_ble_eq_true rfl) (Nat.le_of_ble_eq_true rfl) (Nat.le_of_ble_eq_true rfl) h
theorem dX9_keep_0 : decode cX9_keep 0 = .ok (.iload_n 1, 1) := by decide +kernel
theorem dX9_keep_1 : decode cX9_keep 1 = .ok (.invokestatic 396, 3) := by decide +kernel
theorem dX9_keep_4 : decode cX9_keep 4 = .ok (.aload_n 0, 1) := by decide +kernel
theorem dX9_keep_5 : decode cX9_keep 5 = .ok (.getfield 19, 3) := by decide +kernel
theorem dX9_keep_8 : decode cX9_keep 8 = .ok (.iload_n 1, 1) := by decide +kernel
theorem dX9_keep_9 : decode cX9_keep 9 = .ok (.aload_n 0, 1) := by decide +kernel
theorem dX9_keep_10 : decode cX9_keep 10 = .ok (.getfield 10, 3) := by decide +kernel
theorem dX9_keep_13 : decode cX9_keep 13 = .ok (.invokevirtual 399, 3) := by decide +kernel
theorem dX9_keep_16 : decode cX9_keep 16 = .ok (.aload_n 0, 1) := by decide +kernel
theorem dX9_keep_17 : decode cX9_keep 17 = .ok (.getfield 10, 3) := by decide +kernel
theorem dX9_keep_20 : decode cX9_keep 20 = .ok (.getfield 97, 3) := by decide +kernel
theorem dX9_keep_23 : decode cX9_keep 23 = .ok (.ireturn, 1) := by decide +kernel
def w_X9_keep (p0 : Int32) (mm : Mm) (Q9 : Int32 → Mm → Prop) (X9 : Nat → Mm → Prop) : Prop :=
  w_X9_requireSlot p0 mm (w_X3_fillSlot p0 1 mm (fun (m_4 : Mm) => Q9 (m_4.1 1 1 1) m_4)) X9
def rm_X9_keep : Room := { frames := 7, cells := 1, slots := 6, locals := 110 }
theorem hy_X9_keep : yX9_keep.cls = RX9 ∧ yX9_keep.cls ≠ "java/lang/invoke/MethodHandle" ∧ yX9_keep.cls ≠ "java/lang/invoke/VarHandle" ∧ (parseMethodDescriptor yX9_keep.desc).map (fun d => d.parameters.length) = some 1 := by decide +kernel
set_option maxRecDepth 100000 in
set_option maxHeartbeats 4000000 in
theorem c_X9_keep {l : Launch} {D : va_G} {cA : Nat → ClassId} {ad : Nat → Nat → Nat} {A : Nat → Prop} (ax : Ax ad GC A) (hst : l.stackTraces = false) (p0 : Int32) (mm : Mm) (Q9 : Int32 → Mm → Prop) (X9 : Nat → Mm → Prop) (h : w_X9_keep p0 mm Q9 X9) : vx_Met l yX9_keep (.code yX9_keep cX9_keep 2 (some .int) :: TG) rm_X9_keep (PcM TT D cA ad false GC (ZC ad A) [.ref (ad 0 1), .int p0] mm) (AnsI TT D cA ad false GC A Q9) (AnsX TT D cA ad false GC A X9) 1 6 A := by
  have zo := ZC_ok ad A
  unfold w_X9_keep at h
  refine enterXI pl_X9 rfl (Nat.le_of_ble_eq_true rfl) ?_
  intro p e s m args below meth c QQ X hK hZ hnm hlk htab hQ hE
  refine q_iload_n (j := 1) X dX9_keep_0 rfl rfl ?_
  refine q_xcallv hQ hlk htab (q_runxS X hK hZ zo [.int p0] [] rfl rfl (Nat.le_of_ble_eq_true rfl) dX9_keep_1 ⟨Nat.le_of_ble_eq_true rfl, Nat.le_of_ble_eq_true rfl⟩ (c_X9_requireSlot ax hst p0 mm _ _ h) rfl rfl (gS kw_6_112 kw_6_113 kw_1_1 kw_6_114) hy_X9_requireSlot.2 ⟨Nat.le_of_ble_eq_true rfl, Nat.le_of_ble_eq_true rfl⟩) ⟨Nat.le_of_ble_eq_true rfl, Nat.le_of_ble_eq_true rfl⟩ (fun k9 m9 h9 => h9) (fun m_2 h => ?_)
  obtain ⟨h, hm⟩ := h
  subst hm
  refine q_aload_n (j := 0) X dX9_keep_4 rfl rfl ?_
  refine q_get (k := 1) (v := .ref (ad 12 1)) X hK rfl rfl (Nat.le_of_ble_eq_true rfl) inTX9 (gc (t := 0) (by decide) (ok1 (t := 0) (Nat.le_of_ble_eq_true rfl))) kw_2_112 rfl (rv_nn (a := ad 12) (r := 1) (ok1 (t := 12) (Nat.le_of_ble_eq_true rfl)).1) dX9_keep_5 ?_
  refine q_iload_n (j := 1) X dX9_keep_8 rfl rfl ?_
  refine q_aload_n (j := 0) X dX9_keep_9 rfl rfl ?_
  refine q_get (k := 0) (v := .ref (ad 1 1)) X hK rfl rfl (Nat.le_of_ble_eq_true rfl) inTX9 (gc (t := 0) (by decide) (ok1 (t := 0) (Nat.le_of_ble_eq_true rfl))) kw_2_111 rfl (rv_nn (a := ad 1) (r := 1) (ok1 (t := 1) (Nat.le_of_ble_eq_true rfl)).1) dX9_keep_10 ?_
  refine q_callv (q_runVN X hK hZ zo (gc (t := 12) (by decide) (ok1 (t := 12) (Nat.le_of_ble_eq_true rfl))) rfl rfl [.int p0, .ref (ad 1 1)] [] rfl rfl (Nat.le_of_ble_eq_true rfl) dX9_keep_13 ⟨Nat.le_of_ble_eq_true rfl, Nat.le_of_ble_eq_true rfl⟩ (c_X3_fillSlot ax p0 1 (ok1 (t := 1) (Nat.le_of_ble_eq_true rfl)) mm _ h) rfl rfl (List.mem_of_getElem? (i := 99) rfl) kw_1_8 kw_6_119 kw_6_118 ks_82 hy_X3_fillSlot.2 ⟨Nat.le_of_ble_eq_true rfl, Nat.le_of_ble_eq_true rfl⟩) (fun m_4 h => ?_)
  refine q_aload_n (j := 0) X dX9_keep_16 rfl rfl ?_
  refine q_get (k := 0) (v := .ref (ad 1 1)) X hK rfl rfl (Nat.le_of_ble_eq_true rfl) inTX9 (gc (t := 0) (by decide) (ok1 (t := 0) (Nat.le_of_ble_eq_true rfl))) kw_2_111 rfl (rv_nn (a := ad 1) (r := 1) (ok1 (t := 1) (Nat.le_of_ble_eq_true rfl)).1) dX9_keep_17 ?_
  refine q_getN (k := 1) (v := .int (m_4.1 1 1 1)) X hK rfl rfl (Nat.le_of_ble_eq_true rfl) inTX8 (gc (t := 1) (by decide) (ok1 (t := 1) (Nat.le_of_ble_eq_true rfl))) (List.mem_of_getElem? (i := 69) rfl) rfl rfl dX9_keep_20 ?_
  exact hE _ _ _ _ _ _ dX9_keep_23 (Nat.le_of_ble_eq_true rfl) (Nat.le_of_ble_eq_true rfl) h
theorem dX9_goBack_0 : decode cX9_goBack 0 = .ok (.iload_n 1, 1) := by decide +kernel
theorem dX9_goBack_1 : decode cX9_goBack 1 = .ok (.invokestatic 396, 3) := by decide +kernel
theorem dX9_goBack_4 : decode cX9_goBack 4 = .ok (.aload_n 0, 1) := by decide +kernel
theorem dX9_goBack_5 : decode cX9_goBack 5 = .ok (.getfield 19, 3) := by decide +kernel
theorem dX9_goBack_8 : decode cX9_goBack 8 = .ok (.getfield 403, 3) := by decide +kernel
theorem dX9_goBack_11 : decode cX9_goBack 11 = .ok (.iload_n 1, 1) := by decide +kernel
theorem dX9_goBack_12 : decode cX9_goBack 12 = .ok (.baload, 1) := by decide +kernel
theorem dX9_goBack_13 : decode cX9_goBack 13 = .ok (.ifCond .ne 14, 3) := by decide +kernel
theorem dX9_goBack_16 : decode cX9_goBack 16 = .ok (.new 338, 3) := by decide +kernel
theorem dX9_goBack_19 : decode cX9_goBack 19 = .ok (.dup, 1) := by decide +kernel
theorem dX9_goBack_20 : decode cX9_goBack 20 = .ok (.ldc_w 407, 3) := by decide +kernel
theorem dX9_goBack_23 : decode cX9_goBack 23 = .ok (.invokespecial 342, 3) := by decide +kernel
theorem dX9_goBack_26 : decode cX9_goBack 26 = .ok (.athrow, 1) := by decide +kernel
theorem dX9_goBack_27 : decode cX9_goBack 27 = .ok (.aload_n 0, 1) := by decide +kernel
theorem dX9_goBack_28 : decode cX9_goBack 28 = .ok (.getfield 19, 3) := by decide +kernel
theorem dX9_goBack_31 : decode cX9_goBack 31 = .ok (.aload_n 0, 1) := by decide +kernel
theorem dX9_goBack_32 : decode cX9_goBack 32 = .ok (.getfield 10, 3) := by decide +kernel
theorem dX9_goBack_35 : decode cX9_goBack 35 = .ok (.invokevirtual 357, 3) := by decide +kernel
theorem dX9_goBack_38 : decode cX9_goBack 38 = .ok (.aload_n 0, 1) := by decide +kernel
theorem dX9_goBack_39 : decode cX9_goBack 39 = .ok (.getfield 10, 3) := by decide +kernel
theorem dX9_goBack_42 : decode cX9_goBack 42 = .ok (.aload_n 0, 1) := by decide +kernel
theorem dX9_goBack_43 : decode cX9_goBack 43 = .ok (.getfield 19, 3) := by decide +kernel
theorem dX9_goBack_46 : decode cX9_goBack 46 = .ok (.getfield 409, 3) := by decide +kernel
theorem dX9_goBack_49 : decode cX9_goBack 49 = .ok (.iload_n 1, 1) := by decide +kernel
theorem dX9_goBack_50 : decode cX9_goBack 50 = .ok (.aaload, 1) := by decide +kernel
theorem dX9_goBack_51 : decode cX9_goBack 51 = .ok (.invokevirtual 413, 3) := by decide +kernel
theorem dX9_goBack_54 : decode cX9_goBack 54 = .ok (.aload_n 0, 1) := by decide +kernel
theorem dX9_goBack_55 : decode cX9_goBack 55 = .ok (.getfield 10, 3) := by decide +kernel
theorem dX9_goBack_58 : decode cX9_goBack 58 = .ok (.getfield 97, 3) := by decide +kernel
theorem dX9_goBack_61 : decode cX9_goBack 61 = .ok (.ireturn, 1) := by decide +kernel
def w_X9_goBack (p0 : Int32) (mm : Mm) (Q9 : Int32 → Mm → Prop) (X9 : Nat → Mm → Prop) : Prop :=
  w_X9_requireSlot p0 mm (vp_in p0 2 ∧ (((¬ (mm.1 15 1 p0.toNatClampNeg) = 0 → w_X3_save 1 mm (fun (m_6 : Mm) => w_X8_copyFrom 1 (p0.toNatClampNeg + 8) m_6 (fun (m_8 : Mm) => Q9 (m_8.1 1 1 1) m_8))) ∧
  ((mm.1 15 1 p0.toNatClampNeg) = 0 → X9 3 mm)))) X9
def rm_X9_goBack : Room := { frames := 7, cells := 2, slots := 12, locals := 110 }
theorem hy_X9_goBack : yX9_goBack.cls = RX9 ∧ yX9_goBack.cls ≠ "java/lang/invoke/MethodHandle" ∧ yX9_goBack.cls ≠ "java/lang/invoke/VarHandle" ∧ (parseMethodDescriptor yX9_goBack.desc).map (fun d => d.parameters.length) = some 1 := by decide +kernel
set_option maxRecDepth 100000 in
set_option maxHeartbeats 4000000 in
theorem c_X9_goBack {l : Launch} {D : va_G} {cA : Nat → ClassId} {ad : Nat → Nat → Nat} {A : Nat → Prop} (ax : Ax ad GC A) (hst : l.stackTraces = false) (p0 : Int32) (mm : Mm) (Q9 : Int32 → Mm → Prop) (X9 : Nat → Mm → Prop) (h : w_X9_goBack p0 mm Q9 X9) : vx_Met l yX9_goBack (.code yX9_goBack cX9_goBack 2 (some .int) :: TG) rm_X9_goBack (PcM TT D cA ad false GC (ZC ad A) [.ref (ad 0 1), .int p0] mm) (AnsI TT D cA ad false GC A Q9) (AnsX TT D cA ad false GC A X9) 2 12 A := by
  have zo := ZC_ok ad A
  unfold w_X9_goBack at h
  refine enterXI pl_X9 rfl (Nat.le_of_ble_eq_true rfl) ?_
  intro p e s m args below meth c QQ X hK hZ hnm hlk htab hQ hE
  refine q_iload_n (j := 1) X dX9_goBack_0 rfl rfl ?_
  refine q_xcallv hQ hlk htab (q_runxS X hK hZ zo [.int p0] [] rfl rfl (Nat.le_of_ble_eq_true rfl) dX9_goBack_1 ⟨Nat.le_of_ble_eq_true rfl, Nat.le_of_ble_eq_true rfl⟩ (c_X9_requireSlot ax hst p0 mm _ _ h) rfl rfl (gS kw_6_112 kw_6_113 kw_1_1 kw_6_114) hy_X9_requireSlot.2 ⟨Nat.le_of_ble_eq_true rfl, Nat.le_of_ble_eq_true rfl⟩) ⟨Nat.le_of_ble_eq_true rfl, Nat.le_of_ble_eq_true rfl⟩ (fun k9 m9 h9 => h9) (fun m_2 h => ?_)
  obtain ⟨h, hm⟩ := h
  subst hm
  refine q_aload_n (j := 0) X dX9_goBack_4 rfl rfl ?_
  refine q_get (k := 1) (v := .ref (ad 12 1)) X hK rfl rfl (Nat.le_of_ble_eq_true rfl) inTX9 (gc (t := 0) (by decide) (ok1 (t := 0) (Nat.le_of_ble_eq_true rfl))) kw_2_112 rfl (rv_nn (a := ad 12) (r := 1) (ok1 (t := 12) (Nat.le_of_ble_eq_true rfl)).1) dX9_goBack_5 ?_
  refine q_getN (k := 4) (v := .ref (ad 15 1)) X hK rfl rfl (Nat.le_of_ble_eq_true rfl) inTX3 (gc (t := 12) (by decide) (ok1 (t := 12) (Nat.le_of_ble_eq_true rfl))) (List.mem_of_getElem? (i := 83) rfl) rfl (rv_nn (a := ad 15) (r := 1) (ok1 (t := 15) (Nat.le_of_ble_eq_true rfl)).1) dX9_goBack_8 ?_
  refine q_iload_n (j := 1) X dX9_goBack_11 rfl rfl ?_
  obtain ⟨b_3, h⟩ := h
  refine q_zald (t := 15) (i := 1) (jn := p0.toNatClampNeg) (v := .int (mm.1 15 1 p0.toNatClampNeg)) X hK rfl rfl (gc (t := 15) (by decide) (ok1 (t := 15) (Nat.le_of_ble_eq_true rfl))) rfl b_3 rfl rfl dX9_goBack_12 ?_
  refine q_if_ne (tgt := 27) X dX9_goBack_13 (by decide) (fun c_4 => ?_) (fun c_4 => ?_)
  · have h := h.1 c_4
    refine q_aload_n (j := 0) X dX9_goBack_27 rfl rfl ?_
    refine q_get (k := 1) (v := .ref (ad 12 1)) X hK rfl rfl (Nat.le_of_ble_eq_true rfl) inTX9 (gc (t := 0) (by decide) (ok1 (t := 0) (Nat.le_of_ble_eq_true rfl))) kw_2_112 rfl (rv_nn (a := ad 12) (r := 1) (ok1 (t := 12) (Nat.le_of_ble_eq_true rfl)).1) dX9_goBack_28 ?_
    refine q_aload_n (j := 0) X dX9_goBack_31 rfl rfl ?_
    refine q_get (k := 0) (v := .ref (ad 1 1)) X hK rfl rfl (Nat.le_of_ble_eq_true rfl) inTX9 (gc (t := 0) (by decide) (ok1 (t := 0) (Nat.le_of_ble_eq_true rfl))) kw_2_111 rfl (rv_nn (a := ad 1) (r := 1) (ok1 (t := 1) (Nat.le_of_ble_eq_true rfl)).1) dX9_goBack_32 ?_
    refine q_callv (q_runVN X hK hZ zo (gc (t := 12) (by decide) (ok1 (t := 12) (Nat.le_of_ble_eq_true rfl))) rfl rfl [.ref (ad 1 1)] [] rfl rfl (Nat.le_of_ble_eq_true rfl) dX9_goBack_35 ⟨Nat.le_of_ble_eq_true rfl, Nat.le_of_ble_eq_true rfl⟩ (c_X3_save ax 1 (ok1 (t := 1) (Nat.le_of_ble_eq_true rfl)) mm _ h) rfl rfl (List.mem_of_getElem? (i := 92) rfl) kw_1_8 kw_2_194 kw_2_193 ks_9 hy_X3_save.2 ⟨Nat.le_of_ble_eq_true rfl, Nat.le_of_ble_eq_true rfl⟩) (fun m_6 h => ?_)
    refine q_aload_n (j := 0) X dX9_goBack_38 rfl rfl ?_
    refine q_get (k := 0) (v := .ref (ad 1 1)) X hK rfl rfl (Nat.le_of_ble_eq_true rfl) inTX9 (gc (t := 0) (by decide) (ok1 (t := 0) (Nat.le_of_ble_eq_true rfl))) kw_2_111 rfl (rv_nn (a := ad 1) (r := 1) (ok1 (t := 1) (Nat.le_of_ble_eq_true rfl)).1) dX9_goBack_39 ?_
    refine q_aload_n (j := 0) X dX9_goBack_42 rfl rfl ?_
    refine q_get (k := 1) (v := .ref (ad 12 1)) X hK rfl rfl (Nat.le_of_ble_eq_true rfl) inTX9 (gc (t := 0) (by decide) (ok1 (t := 0) (Nat.le_of_ble_eq_true rfl))) kw_2_112 rfl (rv_nn (a := ad 12) (r := 1) (ok1 (t := 12) (Nat.le_of_ble_eq_true rfl)).1) dX9_goBack_43 ?_
    refine q_getN (k := 3) (v := .ref (ad 14 1)) X hK rfl rfl (Nat.le_of_ble_eq_true rfl) inTX3 (gc (t := 12) (by decide) (ok1 (t := 12) (Nat.le_of_ble_eq_true rfl))) (List.mem_of_getElem? (i := 82) rfl) rfl (rv_nn (a := ad 14) (r := 1) (ok1 (t := 14) (Nat.le_of_ble_eq_true rfl)).1) dX9_goBack_46 ?_
    refine q_iload_n (j := 1) X dX9_goBack_49 rfl rfl ?_
    refine q_aald (t := 14) (i := 1) (jn := p0.toNatClampNeg) (v := .ref (ad 1 (p0.toNatClampNeg + 8))) X hK rfl rfl (gc (t := 14) (by decide) (ok1 (t := 14) (Nat.le_of_ble_eq_true rfl))) rfl b_3 rfl (rv_nn (a := ad 1) (r := (p0.toNatClampNeg + 8)) (ok_sl (ok1 (t := 14) (Nat.le_of_ble_eq_true rfl)) b_3).1) dX9_goBack_50 ?_
    refine q_callv (q_runVN X hK hZ zo (gc (t := 1) (by decide) (ok1 (t := 1) (Nat.le_of_ble_eq_true rfl))) rfl rfl [.ref (ad 1 (p0.toNatClampNeg + 8))] [] rfl rfl (Nat.le_of_ble_eq_true rfl) dX9_goBack_51 ⟨Nat.le_of_ble_eq_true rfl, Nat.le_of_ble_eq_true rfl⟩ (c_X8_copyFrom ax 1 (ok1 (t := 1) (Nat.le_of_ble_eq_true rfl)) (p0.toNatClampNeg + 8) (ok_sl (ok1 (t := 14) (Nat.le_of_ble_eq_true rfl)) b_3) m_6 _ h) rfl rfl (List.mem_of_getElem? (i := 100) rfl) kw_1_2 kw_2_198 kw_2_197 ks_10 hy_X8_copyFrom.2 ⟨Nat.le_of_ble_eq_true rfl, Nat.le_of_ble_eq_true rfl⟩) (fun m_8 h => ?_)
    refine q_aload_n (j := 0) X dX9_goBack_54 rfl rfl ?_
    refine q_get (k := 0) (v := .ref (ad 1 1)) X hK rfl rfl (Nat.le_of_ble_eq_true rfl) inTX9 (gc (t := 0) (by decide) (ok1 (t := 0) (Nat.le_of_ble_eq_true rfl))) kw_2_111 rfl (rv_nn (a := ad 1) (r := 1) (ok1 (t := 1) (Nat.le_of_ble_eq_true rfl)).1) dX9_goBack_55 ?_
    refine q_getN (k := 1) (v := .int (m_8.1 1 1 1)) X hK rfl rfl (Nat.le_of_ble_eq_true rfl) inTX8 (gc (t := 1) (by decide) (ok1 (t := 1) (Nat.le_of_ble_eq_true rfl))) (List.mem_of_getElem? (i := 69) rfl) rfl rfl dX9_goBack_58 ?_
    exact hE _ _ _ _ _ _ dX9_goBack_61 (Nat.le_of_ble_eq_true rfl) (Nat.le_of_ble_eq_true rfl) h
  · have h := h.2 c_4
    exact q_throwSW (k := 3) X hQ hlk htab hst hZ thr_3 (List.mem_of_getElem? (i := 5) rfl) dX9_goBack_16 dX9_goBack_19 dX9_goBack_20 dX9_goBack_23 dX9_goBack_26 (Nat.le_of_ble_eq_true rfl) (Nat.le_of_ble_eq_true rfl) (Nat.le_of_ble_eq_true rfl) (Nat.le_of_ble_eq_true rfl) (Nat.le_of_ble_eq_true rfl) (Nat.le_of_ble_eq_true rfl) h
