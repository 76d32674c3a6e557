theorem dX10_withdrawOn_0 : decode cX10_withdrawOn 0 = .ok (.aload_n 0, 1) := by decide +kernel
theorem dX10_withdrawOn_1 : decode cX10_withdrawOn 1 = .ok (.iload_n 1, 1) := by decide +kernel
theorem dX10_withdrawOn_2 : decode cX10_withdrawOn 2 = .ok (.iload_n 2, 1) := by decide +kernel
theorem dX10_withdrawOn_3 : decode cX10_withdrawOn 3 = .ok (.invokevirtual 59, 3) := by decide +kernel
theorem dX10_withdrawOn_6 : decode cX10_withdrawOn 6 = .ok (.istore_n 3, 1) := by decide +kernel
theorem dX10_withdrawOn_7 : decode cX10_withdrawOn 7 = .ok (.aload_n 0, 1) := by decide +kernel
theorem dX10_withdrawOn_8 : decode cX10_withdrawOn 8 = .ok (.getfield 13, 3) := by decide +kernel
theorem dX10_withdrawOn_11 : decode cX10_withdrawOn 11 = .ok (.iconst 3, 1) := by decide +kernel
theorem dX10_withdrawOn_12 : decode cX10_withdrawOn 12 = .ok (.dup2, 1) := by decide +kernel
theorem dX10_withdrawOn_13 : decode cX10_withdrawOn 13 = .ok (.iaload, 1) := by decide +kernel
theorem dX10_withdrawOn_14 : decode cX10_withdrawOn 14 = .ok (.iload_n 3, 1) := by decide +kernel
theorem dX10_withdrawOn_15 : decode cX10_withdrawOn 15 = .ok (.isub, 1) := by decide +kernel
theorem dX10_withdrawOn_16 : decode cX10_withdrawOn 16 = .ok (.iastore, 1) := by decide +kernel
theorem dX10_withdrawOn_17 : decode cX10_withdrawOn 17 = .ok (.aload_n 0, 1) := by decide +kernel
theorem dX10_withdrawOn_18 : decode cX10_withdrawOn 18 = .ok (.getfield 13, 3) := by decide +kernel
theorem dX10_withdrawOn_21 : decode cX10_withdrawOn 21 = .ok (.bipush 7, 2) := by decide +kernel
theorem dX10_withdrawOn_23 : decode cX10_withdrawOn 23 = .ok (.dup2, 1) := by decide +kernel
theorem dX10_withdrawOn_24 : decode cX10_withdrawOn 24 = .ok (.iaload, 1) := by decide +kernel
theorem dX10_withdrawOn_25 : decode cX10_withdrawOn 25 = .ok (.iload_n 3, 1) := by decide +kernel
theorem dX10_withdrawOn_26 : decode cX10_withdrawOn 26 = .ok (.iadd, 1) := by decide +kernel
theorem dX10_withdrawOn_27 : decode cX10_withdrawOn 27 = .ok (.iastore, 1) := by decide +kernel
theorem dX10_withdrawOn_28 : decode cX10_withdrawOn 28 = .ok (.aload_n 0, 1) := by decide +kernel
theorem dX10_withdrawOn_29 : decode cX10_withdrawOn 29 = .ok (.aload_n 0, 1) := by decide +kernel
theorem dX10_withdrawOn_30 : decode cX10_withdrawOn 30 = .ok (.iload_n 1, 1) := by decide +kernel
theorem dX10_withdrawOn_31 : decode cX10_withdrawOn 31 = .ok (.iconst 1, 1) := by decide +kernel
theorem dX10_withdrawOn_32 : decode cX10_withdrawOn 32 = .ok (.invokevirtual 41, 3) := by decide +kernel
theorem dX10_withdrawOn_35 : decode cX10_withdrawOn 35 = .ok (.iload_n 2, 1) := by decide +kernel
theorem dX10_withdrawOn_36 : decode cX10_withdrawOn 36 = .ok (.iload_n 3, 1) := by decide +kernel
theorem dX10_withdrawOn_37 : decode cX10_withdrawOn 37 = .ok (.invokevirtual 81, 3) := by decide +kernel
theorem dX10_withdrawOn_40 : decode cX10_withdrawOn 40 = .ok (.aload_n 0, 1) := by decide +kernel
theorem dX10_withdrawOn_41 : decode cX10_withdrawOn 41 = .ok (.aload_n 0, 1) := by decide +kernel
theorem dX10_withdrawOn_42 : decode cX10_withdrawOn 42 = .ok (.iload_n 1, 1) := by decide +kernel
theorem dX10_withdrawOn_43 : decode cX10_withdrawOn 43 = .ok (.iconst 1, 1) := by decide +kernel
theorem dX10_withdrawOn_44 : decode cX10_withdrawOn 44 = .ok (.invokevirtual 41, 3) := by decide +kernel
theorem dX10_withdrawOn_47 : decode cX10_withdrawOn 47 = .ok (.iconst 1, 1) := by decide +kernel
theorem dX10_withdrawOn_48 : decode cX10_withdrawOn 48 = .ok (.iload_n 2, 1) := by decide +kernel
theorem dX10_withdrawOn_49 : decode cX10_withdrawOn 49 = .ok (.invokevirtual 74, 3) := by decide +kernel
theorem dX10_withdrawOn_52 : decode cX10_withdrawOn 52 = .ok (.aload_n 0, 1) := by decide +kernel
theorem dX10_withdrawOn_53 : decode cX10_withdrawOn 53 = .ok (.iload_n 1, 1) := by decide +kernel
theorem dX10_withdrawOn_54 : decode cX10_withdrawOn 54 = .ok (.iload_n 2, 1) := by decide +kernel
theorem dX10_withdrawOn_55 : decode cX10_withdrawOn 55 = .ok (.invokevirtual 84, 3) := by decide +kernel
theorem dX10_withdrawOn_58 : decode cX10_withdrawOn 58 = .ok (.iload_n 3, 1) := by decide +kernel
theorem dX10_withdrawOn_59 : decode cX10_withdrawOn 59 = .ok (.ireturn, 1) := by decide +kernel
def w_X10_withdrawOn (p0 : Int32) (p1 : Int32) (mm : Mm) (Q9 : Int32 → Mm → Prop) : Prop :=
  w_X10_dutyPart p0 p1 mm (fun (r_1 : Int32) => ∀ m_3 : Mm, m_3 = sI mm 32 1 3 ((mm.1 32 1 3) - r_1) → (∀ m_4 : Mm, m_4 = sI m_3 32 1 7 ((m_3.1 32 1 7) + r_1) → (w_X10_of p0 1 m_4 (fun (r_5 : Int32) => w_X10_files r_5 p1 r_1 m_4 (fun (m_8 : Mm) => w_X10_of p0 1 m_8 (fun (r_9 : Int32) => w_X10_total r_9 1 p1 m_8 (fun (m_12 : Mm) => w_X10_goes p0 p1 m_12 (fun (m_14 : Mm) => Q9 r_1 m_14))))))))
def rm_X10_withdrawOn : Room := { frames := 3, cells := 0, slots := 0, locals := 68 }
theorem hy_X10_withdrawOn : yX10_withdrawOn.cls = RX10 ∧ yX10_withdrawOn.cls ≠ "java/lang/invoke/MethodHandle" ∧ yX10_withdrawOn.cls ≠ "java/lang/invoke/VarHandle" ∧ (parseMethodDescriptor yX10_withdrawOn.desc).map (fun d => d.parameters.length) = some 2 := by decide +kernel
set_option maxRecDepth 100000 in
set_option maxHeartbeats 4000000 in
theorem c_X10_withdrawOn {l : Launch} {D : va_G} {cA : Nat → ClassId} {ad : Nat → Nat → Nat} {A : Nat → Prop} (ax : Ax ad GM A) (p0 : Int32) (p1 : Int32) (mm : Mm) (Q9 : Int32 → Mm → Prop) (h : w_X10_withdrawOn p0 p1 mm Q9) : Met l yX10_withdrawOn (.code yX10_withdrawOn cX10_withdrawOn 4 (some .int) :: TG) rm_X10_withdrawOn (PcM TT D cA ad false GM (ZM) [.ref (ad 30 1), .int p0, .int p1] mm) (AnsI TT D cA ad false GM A Q9) 0 0 A := by
  have zo := ZM_ok A
  unfold w_X10_withdrawOn at h
  refine enterI pl_X10 ⟨rfl, rfl⟩ rfl (Nat.le_of_ble_eq_true rfl) ?_
  intro p e s m args below meth c QQ X hK hZ hnm hE
  refine q_aload_n (j := 0) X dX10_withdrawOn_0 rfl rfl ?_
  refine q_iload_n (j := 1) X dX10_withdrawOn_1 rfl rfl ?_
  refine q_iload_n (j := 2) X dX10_withdrawOn_2 rfl rfl ?_
  refine q_calli (q_runV X hK hZ zo (gm (t := 30) (by decide) (ok1 (t := 30) (Nat.le_of_ble_eq_true rfl))) rfl rfl [.int p0, .int p1] [] rfl rfl (Nat.le_of_ble_eq_true rfl) dX10_withdrawOn_3 ⟨Nat.le_of_ble_eq_true rfl, Nat.le_of_ble_eq_true rfl⟩ (c_X10_dutyPart ax p0 p1 mm _ h) rfl rfl (gV kw_7_107 kw_7_109 ks_91 kw_1_11 kw_7_110) hy_X10_dutyPart ⟨Nat.le_of_ble_eq_true rfl, Nat.le_of_ble_eq_true rfl⟩) (fun r_1 m_2 h => ?_)
  obtain ⟨h, hm⟩ := h
  subst hm
  refine q_istore_n (lv' := [(3, .int r_1), (0, .ref (ad 30 1)), (1, .int p0), (2, .int p1)]) X dX10_withdrawOn_6 rfl (by decide) rfl ?_
  refine q_aload_n (j := 1) X dX10_withdrawOn_7 rfl rfl ?_
  refine q_get (k := 3) (v := .ref (ad 32 1)) X hK rfl rfl (Nat.le_of_ble_eq_true rfl) inTX10 (gm (t := 30) (by decide) (ok1 (t := 30) (Nat.le_of_ble_eq_true rfl))) kw_7_10 rfl (rv_nn (a := ad 32) (r := 1) (ok1 (t := 32) (Nat.le_of_ble_eq_true rfl)).1) dX10_withdrawOn_8 ?_
  refine q_iconst (v := 3) X dX10_withdrawOn_11 (by decide) ?_
  refine q_dup2 X dX10_withdrawOn_12 rfl rfl ?_
  refine q_iald (t := 32) (i := 1) (jn := 3) (v := .int (mm.1 32 1 3)) X hK rfl rfl (gm (t := 32) (by decide) (ok1 (t := 32) (Nat.le_of_ble_eq_true rfl))) rfl (vpl (by decide +kernel)) (by decide +kernel) rfl dX10_withdrawOn_13 ?_
  refine q_iload_n (j := 0) X dX10_withdrawOn_14 rfl rfl ?_
  refine q_isub X dX10_withdrawOn_15 ?_
  refine q_iast (t := 32) (i := 1) (jn := 3) X ax hK rfl rfl (gm (t := 32) (by decide) (ok1 (t := 32) (Nat.le_of_ble_eq_true rfl))) rfl (vpl (by decide +kernel)) (by decide +kernel) rfl dX10_withdrawOn_16 ?_
  refine q_nmP (fun m_3 em_3 => ?_)
  have h := h m_3 em_3
  refine q_aload_n (j := 1) X dX10_withdrawOn_17 rfl rfl ?_
  refine q_get (k := 3) (v := .ref (ad 32 1)) X hK rfl rfl (Nat.le_of_ble_eq_true rfl) inTX10 (gm (t := 30) (by decide) (ok1 (t := 30) (Nat.le_of_ble_eq_true rfl))) kw_7_10 rfl (rv_nn (a := ad 32) (r := 1) (ok1 (t := 32) (Nat.le_of_ble_eq_true rfl)).1) dX10_withdrawOn_18 ?_
  refine q_bipush (v := 7) X dX10_withdrawOn_21 (by decide) ?_
  refine q_dup2 X dX10_withdrawOn_23 rfl rfl ?_
  refine q_iald (t := 32) (i := 1) (jn := 7) (v := .int (m_3.1 32 1 7)) X hK rfl rfl (gm (t := 32) (by decide) (ok1 (t := 32) (Nat.le_of_ble_eq_true rfl))) rfl (vpl (by decide +kernel)) (by decide +kernel) rfl dX10_withdrawOn_24 ?_
  refine q_iload_n (j := 0) X dX10_withdrawOn_25 rfl rfl ?_
  refine q_iadd X dX10_withdrawOn_26 ?_
  refine q_iast (t := 32) (i := 1) (jn := 7) X ax hK rfl rfl (gm (t := 32) (by decide) (ok1 (t := 32) (Nat.le_of_ble_eq_true rfl))) rfl (vpl (by decide +kernel)) (by decide +kernel) rfl dX10_withdrawOn_27 ?_
  refine q_nmP (fun m_4 em_4 => ?_)
  have h := h m_4 em_4
  refine q_aload_n (j := 1) X dX10_withdrawOn_28 rfl rfl ?_
  refine q_aload_n (j := 1) X dX10_withdrawOn_29 rfl rfl ?_
  refine q_iload_n (j := 2) X dX10_withdrawOn_30 rfl rfl ?_
  refine q_iconst (v := 1) X dX10_withdrawOn_31 (by decide) ?_
  refine q_calli (q_runV X hK hZ zo (gm (t := 30) (by decide) (ok1 (t := 30) (Nat.le_of_ble_eq_true rfl))) rfl rfl [.int p0, .int 1] [.ref (ad 30 1)] rfl rfl (Nat.le_of_ble_eq_true rfl) dX10_withdrawOn_32 ⟨Nat.le_of_ble_eq_true rfl, Nat.le_of_ble_eq_true rfl⟩ (c_X10_of ax p0 1 m_4 _ h) rfl rfl (gV kw_7_95 kw_7_97 ks_88 kw_1_11 kw_7_98) hy_X10_of ⟨Nat.le_of_ble_eq_true rfl, Nat.le_of_ble_eq_true rfl⟩) (fun r_5 m_6 h => ?_)
  obtain ⟨h, hm⟩ := h
  subst hm
  refine q_iload_n (j := 3) X dX10_withdrawOn_35 rfl rfl ?_
  refine q_iload_n (j := 0) X dX10_withdrawOn_36 rfl rfl ?_
  refine q_callv (q_runV X hK hZ zo (gm (t := 30) (by decide) (ok1 (t := 30) (Nat.le_of_ble_eq_true rfl))) rfl rfl [.int r_5, .int p1, .int r_1] [] rfl rfl (Nat.le_of_ble_eq_true rfl) dX10_withdrawOn_37 ⟨Nat.le_of_ble_eq_true rfl, Nat.le_of_ble_eq_true rfl⟩ (c_X10_files ax r_5 p1 r_1 m_4 _ h) rfl rfl (gV kw_7_173 kw_7_175 ks_105 kw_1_11 kw_7_176) hy_X10_files ⟨Nat.le_of_ble_eq_true rfl, Nat.le_of_ble_eq_true rfl⟩) (fun m_8 h => ?_)
  refine q_aload_n (j := 1) X dX10_withdrawOn_40 rfl rfl ?_
  refine q_aload_n (j := 1) X dX10_withdrawOn_41 rfl rfl ?_
  refine q_iload_n (j := 2) X dX10_withdrawOn_42 rfl rfl ?_
  refine q_iconst (v := 1) X dX10_withdrawOn_43 (by decide) ?_
  refine q_calli (q_runV X hK hZ zo (gm (t := 30) (by decide) (ok1 (t := 30) (Nat.le_of_ble_eq_true rfl))) rfl rfl [.int p0, .int 1] [.ref (ad 30 1)] rfl rfl (Nat.le_of_ble_eq_true rfl) dX10_withdrawOn_44 ⟨Nat.le_of_ble_eq_true rfl, Nat.le_of_ble_eq_true rfl⟩ (c_X10_of ax p0 1 m_8 _ h) rfl rfl (gV kw_7_95 kw_7_97 ks_88 kw_1_11 kw_7_98) hy_X10_of ⟨Nat.le_of_ble_eq_true rfl, Nat.le_of_ble_eq_true rfl⟩) (fun r_9 m_10 h => ?_)
  obtain ⟨h, hm⟩ := h
  subst hm
  refine q_iconst (v := 1) X dX10_withdrawOn_47 (by decide) ?_
  refine q_iload_n (j := 3) X dX10_withdrawOn_48 rfl rfl ?_
  refine q_callv (q_runV X hK hZ zo (gm (t := 30) (by decide) (ok1 (t := 30) (Nat.le_of_ble_eq_true rfl))) rfl rfl [.int r_9, .int 1, .int p1] [] rfl rfl (Nat.le_of_ble_eq_true rfl) dX10_withdrawOn_49 ⟨Nat.le_of_ble_eq_true rfl, Nat.le_of_ble_eq_true rfl⟩ (c_X10_total ax r_9 1 p1 m_8 _ h) rfl rfl (gV kw_7_141 kw_7_143 ks_98 kw_1_11 kw_7_144) hy_X10_total ⟨Nat.le_of_ble_eq_true rfl, Nat.le_of_ble_eq_true rfl⟩) (fun m_12 h => ?_)
  refine q_aload_n (j := 1) X dX10_withdrawOn_52 rfl rfl ?_
  refine q_iload_n (j := 2) X dX10_withdrawOn_53 rfl rfl ?_
  refine q_iload_n (j := 3) X dX10_withdrawOn_54 rfl rfl ?_
  refine q_callv (q_runV X hK hZ zo (gm (t := 30) (by decide) (ok1 (t := 30) (Nat.le_of_ble_eq_true rfl))) rfl rfl [.int p0, .int p1] [] rfl rfl (Nat.le_of_ble_eq_true rfl) dX10_withdrawOn_55 ⟨Nat.le_of_ble_eq_true rfl, Nat.le_of_ble_eq_true rfl⟩ (c_X10_goes ax p0 p1 m_12 _ h) rfl rfl (gV kw_7_177 kw_7_179 ks_106 kw_1_11 kw_7_180) hy_X10_goes ⟨Nat.le_of_ble_eq_true rfl, Nat.le_of_ble_eq_true rfl⟩) (fun m_14 h => ?_)
  refine q_iload_n (j := 0) X dX10_withdrawOn_58 rfl rfl ?_
  exact hE _ _ _ _ dX10_withdrawOn_59 h
theorem dX10_sendOn_0 : decode cX10_sendOn 0 = .ok (.aload_n 0, 1) := by decide +kernel
theorem dX10_sendOn_1 : decode cX10_sendOn 1 = .ok (.iload_n 1, 1) := by decide +kernel
theorem dX10_sendOn_2 : decode cX10_sendOn 2 = .ok (.iconst 2, 1) := by decide +kernel
theorem dX10_sendOn_3 : decode cX10_sendOn 3 = .ok (.invokevirtual 41, 3) := by decide +kernel
theorem dX10_sendOn_6 : decode cX10_sendOn 6 = .ok (.iload_n 2, 1) := by decide +kernel
theorem dX10_sendOn_7 : decode cX10_sendOn 7 = .ok (.isub, 1) := by decide +kernel
theorem dX10_sendOn_8 : decode cX10_sendOn 8 = .ok (.istore_n 3, 1) := by decide +kernel
theorem dX10_sendOn_9 : decode cX10_sendOn 9 = .ok (.aload_n 0, 1) := by decide +kernel
theorem dX10_sendOn_10 : decode cX10_sendOn 10 = .ok (.aload_n 0, 1) := by decide +kernel
theorem dX10_sendOn_11 : decode cX10_sendOn 11 = .ok (.iload_n 1, 1) := by decide +kernel
theorem dX10_sendOn_12 : decode cX10_sendOn 12 = .ok (.iconst 1, 1) := by decide +kernel
theorem dX10_sendOn_13 : decode cX10_sendOn 13 = .ok (.invokevirtual 41, 3) := by decide +kernel
theorem dX10_sendOn_16 : decode cX10_sendOn 16 = .ok (.iconst 2, 1) := by decide +kernel
theorem dX10_sendOn_17 : decode cX10_sendOn 17 = .ok (.iload_n 2, 1) := by decide +kernel
theorem dX10_sendOn_18 : decode cX10_sendOn 18 = .ok (.invokevirtual 74, 3) := by decide +kernel
theorem dX10_sendOn_21 : decode cX10_sendOn 21 = .ok (.aload_n 0, 1) := by decide +kernel
theorem dX10_sendOn_22 : decode cX10_sendOn 22 = .ok (.iload_n 1, 1) := by decide +kernel
theorem dX10_sendOn_23 : decode cX10_sendOn 23 = .ok (.iload_n 2, 1) := by decide +kernel
theorem dX10_sendOn_24 : decode cX10_sendOn 24 = .ok (.invokevirtual 84, 3) := by decide +kernel
theorem dX10_sendOn_27 : decode cX10_sendOn 27 = .ok (.iload_n 3, 1) := by decide +kernel
theorem dX10_sendOn_28 : decode cX10_sendOn 28 = .ok (.ireturn, 1) := by decide +kernel
def w_X10_sendOn (p0 : Int32) (p1 : Int32) (mm : Mm) (Q9 : Int32 → Mm → Prop) : Prop :=
  w_X10_of p0 2 mm (fun (r_1 : Int32) => ∀ x_3 : Int32, x_3 = (r_1 - p1) → (w_X10_of p0 1 mm (fun (r_4 : Int32) => w_X10_total r_4 2 p1 mm (fun (m_7 : Mm) => w_X10_goes p0 p1 m_7 (fun (m_9 : Mm) => Q9 x_3 m_9)))))
def rm_X10_sendOn : Room := { frames := 3, cells := 0, slots := 0, locals := 67 }
theorem hy_X10_sendOn : yX10_sendOn.cls = RX10 ∧ yX10_sendOn.cls ≠ "java/lang/invoke/MethodHandle" ∧ yX10_sendOn.cls ≠ "java/lang/invoke/VarHandle" ∧ (parseMethodDescriptor yX10_sendOn.desc).map (fun d => d.parameters.length) = some 2 := by decide +kernel
set_option maxRecDepth 100000 in
set_option maxHeartbeats 4000000 in
theorem c_X10_sendOn {l : Launch} {D : va_G} {cA : Nat → ClassId} {ad : Nat → Nat → Nat} {A : Nat → Prop} (ax : Ax ad GM A) (p0 : Int32) (p1 : Int32) (mm : Mm) (Q9 : Int32 → Mm → Prop) (h : w_X10_sendOn p0 p1 mm Q9) : Met l yX10_sendOn (.code yX10_sendOn cX10_sendOn 4 (some .int) :: TG) rm_X10_sendOn (PcM TT D cA ad false GM (ZM) [.ref (ad 30 1), .int p0, .int p1] mm) (AnsI TT D cA ad false GM A Q9) 0 0 A := by
  have zo := ZM_ok A
  unfold w_X10_sendOn at h
  refine enterI pl_X10 ⟨rfl, rfl⟩ rfl (Nat.le_of_ble_eq_true rfl) ?_
  intro p e s m args below meth c QQ X hK hZ hnm hE
  refine q_aload_n (j := 0) X dX10_sendOn_0 rfl rfl ?_
  refine q_iload_n (j := 1) X dX10_sendOn_1 rfl rfl ?_
  refine q_iconst (v := 2) X dX10_sendOn_2 (by decide) ?_
  refine q_calli (q_runV X hK hZ zo (gm (t := 30) (by decide) (ok1 (t := 30) (Nat.le_of_ble_eq_true rfl))) rfl rfl [.int p0, .int 2] [] rfl rfl (Nat.le_of_ble_eq_true rfl) dX10_sendOn_3 ⟨Nat.le_of_ble_eq_true rfl, Nat.le_of_ble_eq_true rfl⟩ (c_X10_of ax p0 2 mm _ h) rfl rfl (gV kw_7_95 kw_7_97 ks_88 kw_1_11 kw_7_98) hy_X10_of ⟨Nat.le_of_ble_eq_true rfl, Nat.le_of_ble_eq_true rfl⟩) (fun r_1 m_2 h => ?_)
  obtain ⟨h, hm⟩ := h
  subst hm
  refine q_iload_n (j := 2) X dX10_sendOn_6 rfl rfl ?_
  refine q_isub X dX10_sendOn_7 ?_
  refine q_topi (fun x_3 ex_3 => ?_)
  have h := h x_3 ex_3
  refine q_istore_n (lv' := [(3, .int x_3), (0, .ref (ad 30 1)), (1, .int p0), (2, .int p1)]) X dX10_sendOn_8 rfl (by decide) rfl ?_
  refine q_aload_n (j := 1) X dX10_sendOn_9 rfl rfl ?_
  refine q_aload_n (j := 1) X dX10_sendOn_10 rfl rfl ?_
  refine q_iload_n (j := 2) X dX10_sendOn_11 rfl rfl ?_
  refine q_iconst (v := 1) X dX10_sendOn_12 (by decide) ?_
  refine q_calli (q_runV X hK hZ zo (gm (t := 30) (by decide) (ok1 (t := 30) (Nat.le_of_ble_eq_true rfl))) rfl rfl [.int p0, .int 1] [.ref (ad 30 1)] rfl rfl (Nat.le_of_ble_eq_true rfl) dX10_sendOn_13 ⟨Nat.le_of_ble_eq_true rfl, Nat.le_of_ble_eq_true rfl⟩ (c_X10_of ax p0 1 mm _ h) rfl rfl (gV kw_7_95 kw_7_97 ks_88 kw_1_11 kw_7_98) hy_X10_of ⟨Nat.le_of_ble_eq_true rfl, Nat.le_of_ble_eq_true rfl⟩) (fun r_4 m_5 h => ?_)
  obtain ⟨h, hm⟩ := h
  subst hm
  refine q_iconst (v := 2) X dX10_sendOn_16 (by decide) ?_
  refine q_iload_n (j := 3) X dX10_sendOn_17 rfl rfl ?_
  refine q_callv (q_runV X hK hZ zo (gm (t := 30) (by decide) (ok1 (t := 30) (Nat.le_of_ble_eq_true rfl))) rfl rfl [.int r_4, .int 2, .int p1] [] rfl rfl (Nat.le_of_ble_eq_true rfl) dX10_sendOn_18 ⟨Nat.le_of_ble_eq_true rfl, Nat.le_of_ble_eq_true rfl⟩ (c_X10_total ax r_4 2 p1 mm _ h) rfl rfl (gV kw_7_141 kw_7_143 ks_98 kw_1_11 kw_7_144) hy_X10_total ⟨Nat.le_of_ble_eq_true rfl, Nat.le_of_ble_eq_true rfl⟩) (fun m_7 h => ?_)
  refine q_aload_n (j := 1) X dX10_sendOn_21 rfl rfl ?_
  refine q_iload_n (j := 2) X dX10_sendOn_22 rfl rfl ?_
  refine q_iload_n (j := 3) X dX10_sendOn_23 rfl rfl ?_
  refine q_callv (q_runV X hK hZ zo (gm (t := 30) (by decide) (ok1 (t := 30) (Nat.le_of_ble_eq_true rfl))) rfl rfl [.int p0, .int p1] [] rfl rfl (Nat.le_of_ble_eq_true rfl) dX10_sendOn_24 ⟨Nat.le_of_ble_eq_true rfl, Nat.le_of_ble_eq_true rfl⟩ (c_X10_goes ax p0 p1 m_7 _ h) rfl rfl (gV kw_7_177 kw_7_179 ks_106 kw_1_11 kw_7_180) hy_X10_goes ⟨Nat.le_of_ble_eq_true rfl, Nat.le_of_ble_eq_true rfl⟩) (fun m_9 h => ?_)
  refine q_iload_n (j := 0) X dX10_sendOn_27 rfl rfl ?_
  exact hE _ _ _ _ dX10_sendOn_28 h
theorem dX10_partOf_0 : decode cX10_partOf 0 = .ok (.aload_n 0, 1) := by decide +kernel
theorem dX10_partOf_1 : decode cX10_partOf 1 = .ok (.getfield 13, 3) := by decide +kernel
theorem dX10_partOf_4 : decode cX10_partOf 4 = .ok (.bipush 69, 2) := by decide +kernel
theorem dX10_partOf_6 : decode cX10_partOf 6 = .ok (.iconst 4, 1) := by decide +kernel
theorem dX10_partOf_7 : decode cX10_partOf 7 = .ok (.iload_n 1, 1) := by decide +kernel
theorem dX10_partOf_8 : decode cX10_partOf 8 = .ok (.imul, 1) := by decide +kernel
theorem dX10_partOf_9 : decode cX10_partOf 9 = .ok (.iadd, 1) := by decide +kernel
theorem dX10_partOf_10 : decode cX10_partOf 10 = .ok (.iconst 2, 1) := by decide +kernel
theorem dX10_partOf_11 : decode cX10_partOf 11 = .ok (.iadd, 1) := by decide +kernel
theorem dX10_partOf_12 : decode cX10_partOf 12 = .ok (.iaload, 1) := by decide +kernel
theorem dX10_partOf_13 : decode cX10_partOf 13 = .ok (.iload_n 2, 1) := by decide +kernel
theorem dX10_partOf_14 : decode cX10_partOf 14 = .ok (.imul, 1) := by decide +kernel
theorem dX10_partOf_15 : decode cX10_partOf 15 = .ok (.aload_n 0, 1) := by decide +kernel
theorem dX10_partOf_16 : decode cX10_partOf 16 = .ok (.getfield 13, 3) := by decide +kernel
theorem dX10_partOf_19 : decode cX10_partOf 19 = .ok (.bipush 69, 2) := by decide +kernel
theorem dX10_partOf_21 : decode cX10_partOf 21 = .ok (.iconst 4, 1) := by decide +kernel
theorem dX10_partOf_22 : decode cX10_partOf 22 = .ok (.iload_n 1, 1) := by decide +kernel
theorem dX10_partOf_23 : decode cX10_partOf 23 = .ok (.imul, 1) := by decide +kernel
theorem dX10_partOf_24 : decode cX10_partOf 24 = .ok (.iadd, 1) := by decide +kernel
theorem dX10_partOf_25 : decode cX10_partOf 25 = .ok (.iconst 1, 1) := by decide +kernel
theorem dX10_partOf_26 : decode cX10_partOf 26 = .ok (.iadd, 1) := by decide +kernel
theorem dX10_partOf_27 : decode cX10_partOf 27 = .ok (.iaload, 1) := by decide +kernel
theorem dX10_partOf_28 : decode cX10_partOf 28 = .ok (.idiv, 1) := by decide +kernel
theorem dX10_partOf_29 : decode cX10_partOf 29 = .ok (.ireturn, 1) := by decide +kernel
def w_X10_partOf (p0 : Int32) (p1 : Int32) (mm : Mm) (Q9 : Int32 → Prop) : Prop :=
  vp_in ((69 + (4 * p0)) + 2) 246 ∧ (vp_in ((69 + (4 * p0)) + 1) 246 ∧ (¬ (mm.1 32 1 ((69 + (4 * p0)) + 1).toNatClampNeg) = 0 ∧ (Q9 (((mm.1 32 1 ((69 + (4 * p0)) + 2).toNatClampNeg) * p1) / (mm.1 32 1 ((69 + (4 * p0)) + 1).toNatClampNeg)))))
def rm_X10_partOf : Room := { frames := 0, cells := 0, slots := 0, locals := 0 }
theorem hy_X10_partOf : yX10_partOf.cls = RX10 ∧ yX10_partOf.cls ≠ "java/lang/invoke/MethodHandle" ∧ yX10_partOf.cls ≠ "java/lang/invoke/VarHandle" ∧ (parseMethodDescriptor yX10_partOf.desc).map (fun d => d.parameters.length) = some 2 := by decide +kernel
set_option maxRecDepth 100000 in
set_option maxHeartbeats 4000000 in
theorem c_X10_partOf {l : Launch} {D : va_G} {cA : Nat → ClassId} {ad : Nat → Nat → Nat} {A : Nat → Prop} (ax : Ax ad GM A) (p0 : Int32) (p1 : Int32) (mm : Mm) (Q9 : Int32 → Prop) (h : w_X10_partOf p0 p1 mm Q9) : Met l yX10_partOf (.code yX10_partOf cX10_partOf 3 (some .int) :: TG) rm_X10_partOf (PcM TT D cA ad false GM (ZM) [.ref (ad 30 1), .int p0, .int p1] mm) (AnsI TT D cA ad false GM A (fun r mm' => Q9 r ∧ mm = mm')) 0 0 A := by
  have zo := ZM_ok A
  unfold w_X10_partOf at h
  refine enterI pl_X10 ⟨rfl, rfl⟩ rfl (Nat.le_of_ble_eq_true rfl) ?_
  intro p e s m args below meth c QQ X hK hZ hnm hE
  refine q_aload_n (j := 0) X dX10_partOf_0 rfl rfl ?_
  refine q_get (k := 3) (v := .ref (ad 32 1)) X hK rfl rfl (Nat.le_of_ble_eq_true rfl) inTX10 (gm (t := 30) (by decide) (ok1 (t := 30) (Nat.le_of_ble_eq_true rfl))) kw_7_10 rfl (rv_nn (a := ad 32) (r := 1) (ok1 (t := 32) (Nat.le_of_ble_eq_true rfl)).1) dX10_partOf_1 ?_
  refine q_bipush (v := 69) X dX10_partOf_4 (by decide) ?_
  refine q_iconst (v := 4) X dX10_partOf_6 (by decide) ?_
  refine q_iload_n (j := 1) X dX10_partOf_7 rfl rfl ?_
  refine q_imul X dX10_partOf_8 ?_
  refine q_iadd X dX10_partOf_9 ?_
  refine q_iconst (v := 2) X dX10_partOf_10 (by decide) ?_
  refine q_iadd X dX10_partOf_11 ?_
  obtain ⟨b_1, h⟩ := h
  refine q_iald (t := 32) (i := 1) (jn := ((69 + (4 * p0)) + 2).toNatClampNeg) (v := .int (mm.1 32 1 ((69 + (4 * p0)) + 2).toNatClampNeg)) X hK rfl rfl (gm (t := 32) (by decide) (ok1 (t := 32) (Nat.le_of_ble_eq_true rfl))) rfl b_1 rfl rfl dX10_partOf_12 ?_
  refine q_iload_n (j := 2) X dX10_partOf_13 rfl rfl ?_
  refine q_imul X dX10_partOf_14 ?_
  refine q_aload_n (j := 0) X dX10_partOf_15 rfl rfl ?_
  refine q_get (k := 3) (v := .ref (ad 32 1)) X hK rfl rfl (Nat.le_of_ble_eq_true rfl) inTX10 (gm (t := 30) (by decide) (ok1 (t := 30) (Nat.le_of_ble_eq_true rfl))) kw_7_10 rfl (rv_nn (a := ad 32) (r := 1) (ok1 (t := 32) (Nat.le_of_ble_eq_true rfl)).1) dX10_partOf_16 ?_
  refine q_bipush (v := 69) X dX10_partOf_19 (by decide) ?_
  refine q_iconst (v := 4) X dX10_partOf_21 (by decide) ?_
  refine q_iload_n (j := 1) X dX10_partOf_22 rfl rfl ?_
  refine q_imul X dX10_partOf_23 ?_
  refine q_iadd X dX10_partOf_24 ?_
  refine q_iconst (v := 1) X dX10_partOf_25 (by decide) ?_
  refine q_iadd X dX10_partOf_26 ?_
  obtain ⟨b_2, h⟩ := h
  refine q_iald (t := 32) (i := 1) (jn := ((69 + (4 * p0)) + 1).toNatClampNeg) (v := .int (mm.1 32 1 ((69 + (4 * p0)) + 1).toNatClampNeg)) X hK rfl rfl (gm (t := 32) (by decide) (ok1 (t := 32) (Nat.le_of_ble_eq_true rfl))) rfl b_2 rfl rfl dX10_partOf_27 ?_
  obtain ⟨c_3, h⟩ := h
  refine q_idiv X dX10_partOf_28 c_3 ?_
  exact hE _ _ _ _ dX10_partOf_29 ⟨h, rfl⟩
theorem dX10_backOf_0 : decode cX10_backOf 0 = .ok (.aload_n 0, 1) := by decide +kernel
theorem dX10_backOf_1 : decode cX10_backOf 1 = .ok (.iload_n 1, 1) := by decide +kernel
theorem dX10_backOf_2 : decode cX10_backOf 2 = .ok (.iload_n 2, 1) := by decide +kernel
theorem dX10_backOf_3 : decode cX10_backOf 3 = .ok (.invokevirtual 88, 3) := by decide +kernel
theorem dX10_backOf_6 : decode cX10_backOf 6 = .ok (.bipush 9, 2) := by decide +kernel
theorem dX10_backOf_8 : decode cX10_backOf 8 = .ok (.imul, 1) := by decide +kernel
theorem dX10_backOf_9 : decode cX10_backOf 9 = .ok (.bipush 10, 2) := by decide +kernel
theorem dX10_backOf_11 : decode cX10_backOf 11 = .ok (.idiv, 1) := by decide +kernel
theorem dX10_backOf_12 : decode cX10_backOf 12 = .ok (.ireturn, 1) := by decide +kernel
def w_X10_backOf (p0 : Int32) (p1 : Int32) (mm : Mm) (Q9 : Int32 → Prop) : Prop :=
  w_X10_partOf p0 p1 mm (fun (r_1 : Int32) => Q9 ((r_1 * 9) / 10))
def rm_X10_backOf : Room := { frames := 1, cells := 0, slots := 0, locals := 22 }
theorem hy_X10_backOf : yX10_backOf.cls = RX10 ∧ yX10_backOf.cls ≠ "java/lang/invoke/MethodHandle" ∧ yX10_backOf.cls ≠ "java/lang/invoke/VarHandle" ∧ (parseMethodDescriptor yX10_backOf.desc).map (fun d => d.parameters.length) = some 2 := by decide +kernel
set_option maxRecDepth 100000 in
set_option maxHeartbeats 4000000 in
theorem c_X10_backOf {l : Launch} {D : va_G} {cA : Nat → ClassId} {ad : Nat → Nat → Nat} {A : Nat → Prop} (ax : Ax ad GM A) (p0 : Int32) (p1 : Int32) (mm : Mm) (Q9 : Int32 → Prop) (h : w_X10_backOf p0 p1 mm Q9) : Met l yX10_backOf (.code yX10_backOf cX10_backOf 3 (some .int) :: TG) rm_X10_backOf (PcM TT D cA ad false GM (ZM) [.ref (ad 30 1), .int p0, .int p1] mm) (AnsI TT D cA ad false GM A (fun r mm' => Q9 r ∧ mm = mm')) 0 0 A := by
  have zo := ZM_ok A
  unfold w_X10_backOf at h
  refine enterI pl_X10 ⟨rfl, rfl⟩ rfl (Nat.le_of_ble_eq_true rfl) ?_
  intro p e s m args below meth c QQ X hK hZ hnm hE
  refine q_aload_n (j := 0) X dX10_backOf_0 rfl rfl ?_
  refine q_iload_n (j := 1) X dX10_backOf_1 rfl rfl ?_
  refine q_iload_n (j := 2) X dX10_backOf_2 rfl rfl ?_
  refine q_calli (q_runV X hK hZ zo (gm (t := 30) (by decide) (ok1 (t := 30) (Nat.le_of_ble_eq_true rfl))) rfl rfl [.int p0, .int p1] [] rfl rfl (Nat.le_of_ble_eq_true rfl) dX10_backOf_3 ⟨Nat.le_of_ble_eq_true rfl, Nat.le_of_ble_eq_true rfl⟩ (c_X10_partOf ax p0 p1 mm _ h) rfl rfl (gV kw_7_213 kw_7_215 ks_113 kw_1_11 kw_7_216) hy_X10_partOf ⟨Nat.le_of_ble_eq_true rfl, Nat.le_of_ble_eq_true rfl⟩) (fun r_1 m_2 h => ?_)
  obtain ⟨h, hm⟩ := h
  subst hm
  refine q_bipush (v := 9) X dX10_backOf_6 (by decide) ?_
  refine q_imul X dX10_backOf_8 ?_
  refine q_bipush (v := 10) X dX10_backOf_9 (by decide) ?_
  refine q_idiv X dX10_backOf_11 (by decide) ?_
  exact hE _ _ _ _ dX10_backOf_12 ⟨h, rfl⟩
theorem dX10_drawOn_0 : decode cX10_drawOn 0 = .ok (.aload_n 0, 1) := by decide +kernel
theorem dX10_drawOn_1 : decode cX10_drawOn 1 = .ok (.iload_n 1, 1) := by decide +kernel
theorem dX10_drawOn_2 : decode cX10_drawOn 2 = .ok (.iload_n 2, 1) := by decide +kernel
theorem dX10_drawOn_3 : decode cX10_drawOn 3 = .ok (.invokevirtual 88, 3) := by decide +kernel
theorem dX10_drawOn_6 : decode cX10_drawOn 6 = .ok (.istore_n 3, 1) := by decide +kernel
theorem dX10_drawOn_7 : decode cX10_drawOn 7 = .ok (.aload_n 0, 1) := by decide +kernel
theorem dX10_drawOn_8 : decode cX10_drawOn 8 = .ok (.iload_n 1, 1) := by decide +kernel
theorem dX10_drawOn_9 : decode cX10_drawOn 9 = .ok (.iload_n 2, 1) := by decide +kernel
theorem dX10_drawOn_10 : decode cX10_drawOn 10 = .ok (.invokevirtual 91, 3) := by decide +kernel
theorem dX10_drawOn_13 : decode cX10_drawOn 13 = .ok (.istore 4, 2) := by decide +kernel
theorem dX10_drawOn_15 : decode cX10_drawOn 15 = .ok (.aload_n 0, 1) := by decide +kernel
theorem dX10_drawOn_16 : decode cX10_drawOn 16 = .ok (.getfield 13, 3) := by decide +kernel
theorem dX10_drawOn_19 : decode cX10_drawOn 19 = .ok (.iconst 3, 1) := by decide +kernel
theorem dX10_drawOn_20 : decode cX10_drawOn 20 = .ok (.dup2, 1) := by decide +kernel
theorem dX10_drawOn_21 : decode cX10_drawOn 21 = .ok (.iaload, 1) := by decide +kernel
theorem dX10_drawOn_22 : decode cX10_drawOn 22 = .ok (.iload 4, 2) := by decide +kernel
theorem dX10_drawOn_24 : decode cX10_drawOn 24 = .ok (.iadd, 1) := by decide +kernel
theorem dX10_drawOn_25 : decode cX10_drawOn 25 = .ok (.iastore, 1) := by decide +kernel
theorem dX10_drawOn_26 : decode cX10_drawOn 26 = .ok (.aload_n 0, 1) := by decide +kernel
theorem dX10_drawOn_27 : decode cX10_drawOn 27 = .ok (.getfield 13, 3) := by decide +kernel
theorem dX10_drawOn_30 : decode cX10_drawOn 30 = .ok (.bipush 9, 2) := by decide +kernel
theorem dX10_drawOn_32 : decode cX10_drawOn 32 = .ok (.dup2, 1) := by decide +kernel
theorem dX10_drawOn_33 : decode cX10_drawOn 33 = .ok (.iaload, 1) := by decide +kernel
theorem dX10_drawOn_34 : decode cX10_drawOn 34 = .ok (.iload 4, 2) := by decide +kernel
theorem dX10_drawOn_36 : decode cX10_drawOn 36 = .ok (.iadd, 1) := by decide +kernel
theorem dX10_drawOn_37 : decode cX10_drawOn 37 = .ok (.iastore, 1) := by decide +kernel
theorem dX10_drawOn_38 : decode cX10_drawOn 38 = .ok (.aload_n 0, 1) := by decide +kernel
theorem dX10_drawOn_39 : decode cX10_drawOn 39 = .ok (.aload_n 0, 1) := by decide +kernel
theorem dX10_drawOn_40 : decode cX10_drawOn 40 = .ok (.getfield 13, 3) := by decide +kernel
theorem dX10_drawOn_43 : decode cX10_drawOn 43 = .ok (.bipush 69, 2) := by decide +kernel
theorem dX10_drawOn_45 : decode cX10_drawOn 45 = .ok (.iconst 4, 1) := by decide +kernel
theorem dX10_drawOn_46 : decode cX10_drawOn 46 = .ok (.iload_n 1, 1) := by decide +kernel
theorem dX10_drawOn_47 : decode cX10_drawOn 47 = .ok (.imul, 1) := by decide +kernel
theorem dX10_drawOn_48 : decode cX10_drawOn 48 = .ok (.iadd, 1) := by decide +kernel
theorem dX10_drawOn_49 : decode cX10_drawOn 49 = .ok (.iaload, 1) := by decide +kernel
theorem dX10_drawOn_50 : decode cX10_drawOn 50 = .ok (.iconst 5, 1) := by decide +kernel
theorem dX10_drawOn_51 : decode cX10_drawOn 51 = .ok (.iload_n 2, 1) := by decide +kernel
theorem dX10_drawOn_52 : decode cX10_drawOn 52 = .ok (.invokevirtual 74, 3) := by decide +kernel
theorem dX10_drawOn_55 : decode cX10_drawOn 55 = .ok (.aload_n 0, 1) := by decide +kernel
theorem dX10_drawOn_56 : decode cX10_drawOn 56 = .ok (.getfield 13, 3) := by decide +kernel
theorem dX10_drawOn_59 : decode cX10_drawOn 59 = .ok (.bipush 69, 2) := by decide +kernel
theorem dX10_drawOn_61 : decode cX10_drawOn 61 = .ok (.iconst 4, 1) := by decide +kernel
theorem dX10_drawOn_62 : decode cX10_drawOn 62 = .ok (.iload_n 1, 1) := by decide +kernel
theorem dX10_drawOn_63 : decode cX10_drawOn 63 = .ok (.imul, 1) := by decide +kernel
theorem dX10_drawOn_64 : decode cX10_drawOn 64 = .ok (.iadd, 1) := by decide +kernel
theorem dX10_drawOn_65 : decode cX10_drawOn 65 = .ok (.iconst 1, 1) := by decide +kernel
theorem dX10_drawOn_66 : decode cX10_drawOn 66 = .ok (.iadd, 1) := by decide +kernel
theorem dX10_drawOn_67 : decode cX10_drawOn 67 = .ok (.dup2, 1) := by decide +kernel
theorem dX10_drawOn_68 : decode cX10_drawOn 68 = .ok (.iaload, 1) := by decide +kernel
theorem dX10_drawOn_69 : decode cX10_drawOn 69 = .ok (.iload_n 2, 1) := by decide +kernel
theorem dX10_drawOn_70 : decode cX10_drawOn 70 = .ok (.isub, 1) := by decide +kernel
theorem dX10_drawOn_71 : decode cX10_drawOn 71 = .ok (.iastore, 1) := by decide +kernel
theorem dX10_drawOn_72 : decode cX10_drawOn 72 = .ok (.aload_n 0, 1) := by decide +kernel
theorem dX10_drawOn_73 : decode cX10_drawOn 73 = .ok (.getfield 13, 3) := by decide +kernel
theorem dX10_drawOn_76 : decode cX10_drawOn 76 = .ok (.bipush 69, 2) := by decide +kernel
theorem dX10_drawOn_78 : decode cX10_drawOn 78 = .ok (.iconst 4, 1) := by decide +kernel
theorem dX10_drawOn_79 : decode cX10_drawOn 79 = .ok (.iload_n 1, 1) := by decide +kernel
theorem dX10_drawOn_80 : decode cX10_drawOn 80 = .ok (.imul, 1) := by decide +kernel
theorem dX10_drawOn_81 : decode cX10_drawOn 81 = .ok (.iadd, 1) := by decide +kernel
theorem dX10_drawOn_82 : decode cX10_drawOn 82 = .ok (.iconst 2, 1) := by decide +kernel
theorem dX10_drawOn_83 : decode cX10_drawOn 83 = .ok (.iadd, 1) := by decide +kernel
theorem dX10_drawOn_84 : decode cX10_drawOn 84 = .ok (.dup2, 1) := by decide +kernel
theorem dX10_drawOn_85 : decode cX10_drawOn 85 = .ok (.iaload, 1) := by decide +kernel
theorem dX10_drawOn_86 : decode cX10_drawOn 86 = .ok (.iload_n 3, 1) := by decide +kernel
theorem dX10_drawOn_87 : decode cX10_drawOn 87 = .ok (.isub, 1) := by decide +kernel
theorem dX10_drawOn_88 : decode cX10_drawOn 88 = .ok (.iastore, 1) := by decide +kernel
theorem dX10_drawOn_89 : decode cX10_drawOn 89 = .ok (.iload 4, 2) := by decide +kernel
theorem dX10_drawOn_91 : decode cX10_drawOn 91 = .ok (.ireturn, 1) := by decide +kernel
def w_X10_drawOn (p0 : Int32) (p1 : Int32) (mm : Mm) (Q9 : Int32 → Mm → Prop) : Prop :=
  w_X10_partOf p0 p1 mm (fun (r_1 : Int32) => w_X10_backOf p0 p1 mm (fun (r_3 : Int32) => ∀ m_5 : Mm, m_5 = sI mm 32 1 3 ((mm.1 32 1 3) + r_3) → (∀ m_6 : Mm, m_6 = sI m_5 32 1 9 ((m_5.1 32 1 9) + r_3) → (vp_in (69 + (4 * p0)) 246 ∧ (w_X10_total (m_6.1 32 1 (69 + (4 * p0)).toNatClampNeg) 5 p1 m_6 (fun (m_9 : Mm) => vp_in ((69 + (4 * p0)) + 1) 246 ∧ (∀ m_11 : Mm, m_11 = sI m_9 32 1 ((69 + (4 * p0)) + 1).toNatClampNeg ((m_9.1 32 1 ((69 + (4 * p0)) + 1).toNatClampNeg) - p1) → (vp_in ((69 + (4 * p0)) + 2) 246 ∧ (∀ m_13 : Mm, m_13 = sI m_11 32 1 ((69 + (4 * p0)) + 2).toNatClampNeg ((m_11.1 32 1 ((69 + (4 * p0)) + 2).toNatClampNeg) - r_1) → (Q9 r_3 m_13))))))))))
def rm_X10_drawOn : Room := { frames := 2, cells := 0, slots := 0, locals := 44 }
theorem hy_X10_drawOn : yX10_drawOn.cls = RX10 ∧ yX10_drawOn.cls ≠ "java/lang/invoke/MethodHandle" ∧ yX10_drawOn.cls ≠ "java/lang/invoke/VarHandle" ∧ (parseMethodDescriptor yX10_drawOn.desc).map (fun d => d.parameters.length) = some 2 := by decide +kernel
set_option maxRecDepth 100000 in
set_option maxHeartbeats 4000000 in
theorem c_X10_drawOn {l : Launch} {D : va_G} {cA : Nat → ClassId} {ad : Nat → Nat → Nat} {A : Nat → Prop} (ax : Ax ad GM A) (p0 : Int32) (p1 : Int32) (mm : Mm) (Q9 : Int32 → Mm → Prop) (h : w_X10_drawOn p0 p1 mm Q9) : Met l yX10_drawOn (.code yX10_drawOn cX10_drawOn 5 (some .int) :: TG) rm_X10_drawOn (PcM TT D cA ad false GM (ZM) [.ref (ad 30 1), .int p0, .int p1] mm) (AnsI TT D cA ad false GM A Q9) 0 0 A := by
  have zo := ZM_ok A
  unfold w_X10_drawOn at h
  refine enterI pl_X10 ⟨rfl, rfl⟩ rfl (Nat.le_of_ble_eq_true rfl) ?_
  intro p e s m args below meth c QQ X hK hZ hnm hE
  refine q_aload_n (j := 0) X dX10_drawOn_0 rfl rfl ?_
  refine q_iload_n (j := 1) X dX10_drawOn_1 rfl rfl ?_
  refine q_iload_n (j := 2) X dX10_drawOn_2 rfl rfl ?_
  refine q_calli (q_runV X hK hZ zo (gm (t := 30) (by decide) (ok1 (t := 30) (Nat.le_of_ble_eq_true rfl))) rfl rfl [.int p0, .int p1] [] rfl rfl (Nat.le_of_ble_eq_true rfl) dX10_drawOn_3 ⟨Nat.le_of_ble_eq_true rfl, Nat.le_of_ble_eq_true rfl⟩ (c_X10_partOf ax p0 p1 mm _ h) rfl rfl (gV kw_7_213 kw_7_215 ks_113 kw_1_11 kw_7_216) hy_X10_partOf ⟨Nat.le_of_ble_eq_true rfl, Nat.le_of_ble_eq_true rfl⟩) (fun r_1 m_2 h => ?_)
  obtain ⟨h, hm⟩ := h
  subst hm
  refine q_istore_n (lv' := [(3, .int r_1), (0, .ref (ad 30 1)), (1, .int p0), (2, .int p1)]) X dX10_drawOn_6 rfl (by decide) rfl ?_
  refine q_aload_n (j := 1) X dX10_drawOn_7 rfl rfl ?_
  refine q_iload_n (j := 2) X dX10_drawOn_8 rfl rfl ?_
  refine q_iload_n (j := 3) X dX10_drawOn_9 rfl rfl ?_
  refine q_calli (q_runV X hK hZ zo (gm (t := 30) (by decide) (ok1 (t := 30) (Nat.le_of_ble_eq_true rfl))) rfl rfl [.int p0, .int p1] [] rfl rfl (Nat.le_of_ble_eq_true rfl) dX10_drawOn_10 ⟨Nat.le_of_ble_eq_true rfl, Nat.le_of_ble_eq_true rfl⟩ (c_X10_backOf ax p0 p1 mm _ h) rfl rfl (gV kw_7_217 kw_7_219 ks_114 kw_1_11 kw_7_220) hy_X10_backOf ⟨Nat.le_of_ble_eq_true rfl, Nat.le_of_ble_eq_true rfl⟩) (fun r_3 m_4 h => ?_)
  obtain ⟨h, hm⟩ := h
  subst hm
  refine q_istore (lv' := [(4, .int r_3), (3, .int r_1), (0, .ref (ad 30 1)), (1, .int p0), (2, .int p1)]) X dX10_drawOn_13 (by decide) rfl ?_
  refine q_aload_n (j := 2) X dX10_drawOn_15 rfl rfl ?_
  refine q_get (k := 3) (v := .ref (ad 32 1)) X hK rfl rfl (Nat.le_of_ble_eq_true rfl) inTX10 (gm (t := 30) (by decide) (ok1 (t := 30) (Nat.le_of_ble_eq_true rfl))) kw_7_10 rfl (rv_nn (a := ad 32) (r := 1) (ok1 (t := 32) (Nat.le_of_ble_eq_true rfl)).1) dX10_drawOn_16 ?_
  refine q_iconst (v := 3) X dX10_drawOn_19 (by decide) ?_
  refine q_dup2 X dX10_drawOn_20 rfl rfl ?_
  refine q_iald (t := 32) (i := 1) (jn := 3) (v := .int (mm.1 32 1 3)) X hK rfl rfl (gm (t := 32) (by decide) (ok1 (t := 32) (Nat.le_of_ble_eq_true rfl))) rfl (vpl (by decide +kernel)) (by decide +kernel) rfl dX10_drawOn_21 ?_
  refine q_iload (j := 0) X dX10_drawOn_22 rfl ?_
  refine q_iadd X dX10_drawOn_24 ?_
  refine q_iast (t := 32) (i := 1) (jn := 3) X ax hK rfl rfl (gm (t := 32) (by decide) (ok1 (t := 32) (Nat.le_of_ble_eq_true rfl))) rfl (vpl (by decide +kernel)) (by decide +kernel) rfl dX10_drawOn_25 ?_
  refine q_nmP (fun m_5 em_5 => ?_)
  have h := h m_5 em_5
  refine q_aload_n (j := 2) X dX10_drawOn_26 rfl rfl ?_
  refine q_get (k := 3) (v := .ref (ad 32 1)) X hK rfl rfl (Nat.le_of_ble_eq_true rfl) inTX10 (gm (t := 30) (by decide) (ok1 (t := 30) (Nat.le_of_ble_eq_true rfl))) kw_7_10 rfl (rv_nn (a := ad 32) (r := 1) (ok1 (t := 32) (Nat.le_of_ble_eq_true rfl)).1) dX10_drawOn_27 ?_
  refine q_bipush (v := 9) X dX10_drawOn_30 (by decide) ?_
  refine q_dup2 X dX10_drawOn_32 rfl rfl ?_
  refine q_iald (t := 32) (i := 1) (jn := 9) (v := .int (m_5.1 32 1 9)) X hK rfl rfl (gm (t := 32) (by decide) (ok1 (t := 32) (Nat.le_of_ble_eq_true rfl))) rfl (vpl (by decide +kernel)) (by decide +kernel) rfl dX10_drawOn_33 ?_
  refine q_iload (j := 0) X dX10_drawOn_34 rfl ?_
  refine q_iadd X dX10_drawOn_36 ?_
  refine q_iast (t := 32) (i := 1) (jn := 9) X ax hK rfl rfl (gm (t := 32) (by decide) (ok1 (t := 32) (Nat.le_of_ble_eq_true rfl))) rfl (vpl (by decide +kernel)) (by decide +kernel) rfl dX10_drawOn_37 ?_
  refine q_nmP (fun m_6 em_6 => ?_)
  have h := h m_6 em_6
  refine q_aload_n (j := 2) X dX10_drawOn_38 rfl rfl ?_
  refine q_aload_n (j := 2) X dX10_drawOn_39 rfl rfl ?_
  refine q_get (k := 3) (v := .ref (ad 32 1)) X hK rfl rfl (Nat.le_of_ble_eq_true rfl) inTX10 (gm (t := 30) (by decide) (ok1 (t := 30) (Nat.le_of_ble_eq_true rfl))) kw_7_10 rfl (rv_nn (a := ad 32) (r := 1) (ok1 (t := 32) (Nat.le_of_ble_eq_true rfl)).1) dX10_drawOn_40 ?_
  refine q_bipush (v := 69) X dX10_drawOn_43 (by decide) ?_
  refine q_iconst (v := 4) X dX10_drawOn_45 (by decide) ?_
  refine q_iload_n (j := 3) X dX10_drawOn_46 rfl rfl ?_
  refine q_imul X dX10_drawOn_47 ?_
  refine q_iadd X dX10_drawOn_48 ?_
  obtain ⟨b_7, h⟩ := h
  refine q_iald (t := 32) (i := 1) (jn := (69 + (4 * p0)).toNatClampNeg) (v := .int (m_6.1 32 1 (69 + (4 * p0)).toNatClampNeg)) X hK rfl rfl (gm (t := 32) (by decide) (ok1 (t := 32) (Nat.le_of_ble_eq_true rfl))) rfl b_7 rfl rfl dX10_drawOn_49 ?_
  refine q_iconst (v := 5) X dX10_drawOn_50 (by decide) ?_
  refine q_iload_n (j := 4) X dX10_drawOn_51 rfl rfl ?_
  refine q_callv (q_runV X hK hZ zo (gm (t := 30) (by decide) (ok1 (t := 30) (Nat.le_of_ble_eq_true rfl))) rfl rfl [.int (m_6.1 32 1 (69 + (4 * p0)).toNatClampNeg), .int 5, .int p1] [] rfl rfl (Nat.le_of_ble_eq_true rfl) dX10_drawOn_52 ⟨Nat.le_of_ble_eq_true rfl, Nat.le_of_ble_eq_true rfl⟩ (c_X10_total ax (m_6.1 32 1 (69 + (4 * p0)).toNatClampNeg) 5 p1 m_6 _ h) rfl rfl (gV kw_7_141 kw_7_143 ks_98 kw_1_11 kw_7_144) hy_X10_total ⟨Nat.le_of_ble_eq_true rfl, Nat.le_of_ble_eq_true rfl⟩) (fun m_9 h => ?_)
  refine q_aload_n (j := 2) X dX10_drawOn_55 rfl rfl ?_
  refine q_get (k := 3) (v := .ref (ad 32 1)) X hK rfl rfl (Nat.le_of_ble_eq_true rfl) inTX10 (gm (t := 30) (by decide) (ok1 (t := 30) (Nat.le_of_ble_eq_true rfl))) kw_7_10 rfl (rv_nn (a := ad 32) (r := 1) (ok1 (t := 32) (Nat.le_of_ble_eq_true rfl)).1) dX10_drawOn_56 ?_
  refine q_bipush (v := 69) X dX10_drawOn_59 (by decide) ?_
  refine q_iconst (v := 4) X dX10_drawOn_61 (by decide) ?_
  refine q_iload_n (j := 3) X dX10_drawOn_62 rfl rfl ?_
  refine q_imul X dX10_drawOn_63 ?_
  refine q_iadd X dX10_drawOn_64 ?_
  refine q_iconst (v := 1) X dX10_drawOn_65 (by decide) ?_
  refine q_iadd X dX10_drawOn_66 ?_
  refine q_dup2 X dX10_drawOn_67 rfl rfl ?_
  obtain ⟨b_10, h⟩ := h
  refine q_iald (t := 32) (i := 1) (jn := ((69 + (4 * p0)) + 1).toNatClampNeg) (v := .int (m_9.1 32 1 ((69 + (4 * p0)) + 1).toNatClampNeg)) X hK rfl rfl (gm (t := 32) (by decide) (ok1 (t := 32) (Nat.le_of_ble_eq_true rfl))) rfl b_10 rfl rfl dX10_drawOn_68 ?_
  refine q_iload_n (j := 4) X dX10_drawOn_69 rfl rfl ?_
  refine q_isub X dX10_drawOn_70 ?_
  refine q_iast (t := 32) (i := 1) (jn := ((69 + (4 * p0)) + 1).toNatClampNeg) X ax hK rfl rfl (gm (t := 32) (by decide) (ok1 (t := 32) (Nat.le_of_ble_eq_true rfl))) rfl b_10 rfl rfl dX10_drawOn_71 ?_
  refine q_nmP (fun m_11 em_11 => ?_)
  have h := h m_11 em_11
  refine q_aload_n (j := 2) X dX10_drawOn_72 rfl rfl ?_
  refine q_get (k := 3) (v := .ref (ad 32 1)) X hK rfl rfl (Nat.le_of_ble_eq_true rfl) inTX10 (gm (t := 30) (by decide) (ok1 (t := 30) (Nat.le_of_ble_eq_true rfl))) kw_7_10 rfl (rv_nn (a := ad 32) (r := 1) (ok1 (t := 32) (Nat.le_of_ble_eq_true rfl)).1) dX10_drawOn_73 ?_
  refine q_bipush (v := 69) X dX10_drawOn_76 (by decide) ?_
  refine q_iconst (v := 4) X dX10_drawOn_78 (by decide) ?_
  refine q_iload_n (j := 3) X dX10_drawOn_79 rfl rfl ?_
  refine q_imul X dX10_drawOn_80 ?_
  refine q_iadd X dX10_drawOn_81 ?_
  refine q_iconst (v := 2) X dX10_drawOn_82 (by decide) ?_
  refine q_iadd X dX10_drawOn_83 ?_
  refine q_dup2 X dX10_drawOn_84 rfl rfl ?_
  obtain ⟨b_12, h⟩ := h
  refine q_iald (t := 32) (i := 1) (jn := ((69 + (4 * p0)) + 2).toNatClampNeg) (v := .int (m_11.1 32 1 ((69 + (4 * p0)) + 2).toNatClampNeg)) X hK rfl rfl (gm (t := 32) (by decide) (ok1 (t := 32) (Nat.le_of_ble_eq_true rfl))) rfl b_12 rfl rfl dX10_drawOn_85 ?_
  refine q_iload_n (j := 1) X dX10_drawOn_86 rfl rfl ?_
  refine q_isub X dX10_drawOn_87 ?_
  refine q_iast (t := 32) (i := 1) (jn := ((69 + (4 * p0)) + 2).toNatClampNeg) X ax hK rfl rfl (gm (t := 32) (by decide) (ok1 (t := 32) (Nat.le_of_ble_eq_true rfl))) rfl b_12 rfl rfl dX10_drawOn_88 ?_
  refine q_nmP (fun m_13 em_13 => ?_)
  have h := h m_13 em_13
  refine q_iload (j := 0) X dX10_drawOn_89 rfl ?_
  exact hE _ _ _ _ dX10_drawOn_91 h
theorem dX10_moveOn_0 : decode cX10_moveOn 0 = .ok (.aload_n 0, 1) := by decide +kernel
theorem dX10_moveOn_1 : decode cX10_moveOn 1 = .ok (.iload_n 1, 1) := by decide +kernel
theorem dX10_moveOn_2 : decode cX10_moveOn 2 = .ok (.iconst 4, 1) := by decide +kernel
theorem dX10_moveOn_3 : decode cX10_moveOn 3 = .ok (.iload_n 2, 1) := by decide +kernel
theorem dX10_moveOn_4 : decode cX10_moveOn 4 = .ok (.invokevirtual 66, 3) := by decide +kernel
theorem dX10_moveOn_7 : decode cX10_moveOn 7 = .ok (.aload_n 0, 1) := by decide +kernel
theorem dX10_moveOn_8 : decode cX10_moveOn 8 = .ok (.iload_n 2, 1) := by decide +kernel
theorem dX10_moveOn_9 : decode cX10_moveOn 9 = .ok (.invokevirtual 94, 3) := by decide +kernel
theorem dX10_moveOn_12 : decode cX10_moveOn 12 = .ok (.ireturn, 1) := by decide +kernel
def w_X10_moveOn (p0 : Int32) (p1 : Int32) (mm : Mm) (Q9 : Int32 → Mm → Prop) : Prop :=
  w_X10_put p0 4 p1 mm (fun (m_2 : Mm) => w_X10_room p1 m_2 (fun (r_3 : Int32) => Q9 r_3 m_2))
def rm_X10_moveOn : Room := { frames := 2, cells := 0, slots := 0, locals := 45 }
theorem hy_X10_moveOn : yX10_moveOn.cls = RX10 ∧ yX10_moveOn.cls ≠ "java/lang/invoke/MethodHandle" ∧ yX10_moveOn.cls ≠ "java/lang/invoke/VarHandle" ∧ (parseMethodDescriptor yX10_moveOn.desc).map (fun d => d.parameters.length) = some 2 := by decide +kernel
set_option maxRecDepth 100000 in
set_option maxHeartbeats 4000000 in
theorem c_X10_moveOn {l : Launch} {D : va_G} {cA : Nat → ClassId} {ad : Nat → Nat → Nat} {A : Nat → Prop} (ax : Ax ad GM A) (p0 : Int32) (p1 : Int32) (mm : Mm) (Q9 : Int32 → Mm → Prop) (h : w_X10_moveOn p0 p1 mm Q9) : Met l yX10_moveOn (.code yX10_moveOn cX10_moveOn 3 (some .int) :: TG) rm_X10_moveOn (PcM TT D cA ad false GM (ZM) [.ref (ad 30 1), .int p0, .int p1] mm) (AnsI TT D cA ad false GM A Q9) 0 0 A := by
  have zo := ZM_ok A
  unfold w_X10_moveOn at h
  refine enterI pl_X10 ⟨rfl, rfl⟩ rfl (Nat.le_of_ble_eq_true rfl) ?_
  intro p e s m args below meth c QQ X hK hZ hnm hE
  refine q_aload_n (j := 0) X dX10_moveOn_0 rfl rfl ?_
  refine q_iload_n (j := 1) X dX10_moveOn_1 rfl rfl ?_
  refine q_iconst (v := 4) X dX10_moveOn_2 (by decide) ?_
  refine q_iload_n (j := 2) X dX10_moveOn_3 rfl rfl ?_
  refine q_callv (q_runV X hK hZ zo (gm (t := 30) (by decide) (ok1 (t := 30) (Nat.le_of_ble_eq_true rfl))) rfl rfl [.int p0, .int 4, .int p1] [] rfl rfl (Nat.le_of_ble_eq_true rfl) dX10_moveOn_4 ⟨Nat.le_of_ble_eq_true rfl, Nat.le_of_ble_eq_true rfl⟩ (c_X10_put ax p0 4 p1 mm _ h) rfl rfl (gV kw_7_149 kw_7_151 ks_100 kw_1_11 kw_7_152) hy_X10_put ⟨Nat.le_of_ble_eq_true rfl, Nat.le_of_ble_eq_true rfl⟩) (fun m_2 h => ?_)
  refine q_aload_n (j := 0) X dX10_moveOn_7 rfl rfl ?_
  refine q_iload_n (j := 2) X dX10_moveOn_8 rfl rfl ?_
  refine q_calli (q_runV X hK hZ zo (gm (t := 30) (by decide) (ok1 (t := 30) (Nat.le_of_ble_eq_true rfl))) rfl rfl [.int p1] [] rfl rfl (Nat.le_of_ble_eq_true rfl) dX10_moveOn_9 ⟨Nat.le_of_ble_eq_true rfl, Nat.le_of_ble_eq_true rfl⟩ (c_X10_room ax p1 m_2 _ h) rfl rfl (gV kw_7_91 kw_7_93 ks_87 kw_1_11 kw_7_94) hy_X10_room ⟨Nat.le_of_ble_eq_true rfl, Nat.le_of_ble_eq_true rfl⟩) (fun r_3 m_4 h => ?_)
  obtain ⟨h, hm⟩ := h
  subst hm
  exact hE _ _ _ _ dX10_moveOn_12 h
theorem dX10_allowed_0 : decode cX10_allowed 0 = .ok (.aload_n 0, 1) := by decide +kernel
theorem dX10_allowed_1 : decode cX10_allowed 1 = .ok (.iload_n 1, 1) := by decide +kernel
theorem dX10_allowed_2 : decode cX10_allowed 2 = .ok (.iconst 2, 1) := by decide +kernel
theorem dX10_allowed_3 : decode cX10_allowed 3 = .ok (.invokevirtual 41, 3) := by decide +kernel
theorem dX10_allowed_6 : decode cX10_allowed 6 = .ok (.aload_n 0, 1) := by decide +kernel
theorem dX10_allowed_7 : decode cX10_allowed 7 = .ok (.iload_n 1, 1) := by decide +kernel
theorem dX10_allowed_8 : decode cX10_allowed 8 = .ok (.iconst 1, 1) := by decide +kernel
theorem dX10_allowed_9 : decode cX10_allowed 9 = .ok (.invokevirtual 41, 3) := by decide +kernel
theorem dX10_allowed_12 : decode cX10_allowed 12 = .ok (.invokestatic 97, 3) := by decide +kernel
theorem dX10_allowed_15 : decode cX10_allowed 15 = .ok (.imul, 1) := by decide +kernel
theorem dX10_allowed_16 : decode cX10_allowed 16 = .ok (.aload_n 0, 1) := by decide +kernel
theorem dX10_allowed_17 : decode cX10_allowed 17 = .ok (.iload_n 1, 1) := by decide +kernel
theorem dX10_allowed_18 : decode cX10_allowed 18 = .ok (.bipush 6, 2) := by decide +kernel
theorem dX10_allowed_20 : decode cX10_allowed 20 = .ok (.invokevirtual 41, 3) := by decide +kernel
theorem dX10_allowed_23 : decode cX10_allowed 23 = .ok (.bipush 10, 2) := by decide +kernel
theorem dX10_allowed_25 : decode cX10_allowed 25 = .ok (.idiv, 1) := by decide +kernel
theorem dX10_allowed_26 : decode cX10_allowed 26 = .ok (.imul, 1) := by decide +kernel
theorem dX10_allowed_27 : decode cX10_allowed 27 = .ok (.sipush 1000, 3) := by decide +kernel
theorem dX10_allowed_30 : decode cX10_allowed 30 = .ok (.idiv, 1) := by decide +kernel
theorem dX10_allowed_31 : decode cX10_allowed 31 = .ok (.istore_n 2, 1) := by decide +kernel
theorem dX10_allowed_32 : decode cX10_allowed 32 = .ok (.iload_n 2, 1) := by decide +kernel
theorem dX10_allowed_33 : decode cX10_allowed 33 = .ok (.aload_n 0, 1) := by decide +kernel
theorem dX10_allowed_34 : decode cX10_allowed 34 = .ok (.iload_n 1, 1) := by decide +kernel
theorem dX10_allowed_35 : decode cX10_allowed 35 = .ok (.iconst 2, 1) := by decide +kernel
theorem dX10_allowed_36 : decode cX10_allowed 36 = .ok (.invokevirtual 41, 3) := by decide +kernel
theorem dX10_allowed_39 : decode cX10_allowed 39 = .ok (.if_icmp .le 12, 3) := by decide +kernel
theorem dX10_allowed_42 : decode cX10_allowed 42 = .ok (.aload_n 0, 1) := by decide +kernel
theorem dX10_allowed_43 : decode cX10_allowed 43 = .ok (.iload_n 1, 1) := by decide +kernel
theorem dX10_allowed_44 : decode cX10_allowed 44 = .ok (.iconst 2, 1) := by decide +kernel
theorem dX10_allowed_45 : decode cX10_allowed 45 = .ok (.invokevirtual 41, 3) := by decide +kernel
theorem dX10_allowed_48 : decode cX10_allowed 48 = .ok (.goto 4, 3) := by decide +kernel
theorem dX10_allowed_51 : decode cX10_allowed 51 = .ok (.iload_n 2, 1) := by decide +kernel
theorem dX10_allowed_52 : decode cX10_allowed 52 = .ok (.ireturn, 1) := by decide +kernel
def w_X10_allowed (p0 : Int32) (mm : Mm) (Q9 : Int32 → Prop) : Prop :=
  w_X10_of p0 2 mm (fun (r_1 : Int32) => w_X10_of p0 1 mm (fun (r_3 : Int32) => w_X10_wasteRate r_3 mm (fun (r_5 : Int32) => w_X10_of p0 6 mm (fun (r_7 : Int32) => ∀ x_9 : Int32, x_9 = (((r_1 * r_5) * (r_7 / 10)) / 1000) → (w_X10_of p0 2 mm (fun (r_10 : Int32) => ((x_9 ≤ r_10 → Q9 x_9) ∧
  (¬ x_9 ≤ r_10 → w_X10_of p0 2 mm (fun (r_13 : Int32) => Q9 r_13)))))))))
def rm_X10_allowed : Room := { frames := 1, cells := 0, slots := 0, locals := 22 }
theorem hy_X10_allowed : yX10_allowed.cls = RX10 ∧ yX10_allowed.cls ≠ "java/lang/invoke/MethodHandle" ∧ yX10_allowed.cls ≠ "java/lang/invoke/VarHandle" ∧ (parseMethodDescriptor yX10_allowed.desc).map (fun d => d.parameters.length) = some 1 := by decide +kernel
set_option maxRecDepth 100000 in
set_option maxHeartbeats 4000000 in
theorem c_X10_allowed {l : Launch} {D : va_G} {cA : Nat → ClassId} {ad : Nat → Nat → Nat} {A : Nat → Prop} (ax : Ax ad GM A) (p0 : Int32) (mm : Mm) (Q9 : Int32 → Prop) (h : w_X10_allowed p0 mm Q9) : Met l yX10_allowed (.code yX10_allowed cX10_allowed 3 (some .int) :: TG) rm_X10_allowed (PcM TT D cA ad false GM (ZM) [.ref (ad 30 1), .int p0] mm) (AnsI TT D cA ad false GM A (fun r mm' => Q9 r ∧ mm = mm')) 0 0 A := by
  have zo := ZM_ok A
  unfold w_X10_allowed at h
  refine enterI pl_X10 ⟨rfl, rfl⟩ rfl (Nat.le_of_ble_eq_true rfl) ?_
  intro p e s m args below meth c QQ X hK hZ hnm hE
  refine q_aload_n (j := 0) X dX10_allowed_0 rfl rfl ?_
  refine q_iload_n (j := 1) X dX10_allowed_1 rfl rfl ?_
  refine q_iconst (v := 2) X dX10_allowed_2 (by decide) ?_
  refine q_calli (q_runV X hK hZ zo (gm (t := 30) (by decide) (ok1 (t := 30) (Nat.le_of_ble_eq_true rfl))) rfl rfl [.int p0, .int 2] [] rfl rfl (Nat.le_of_ble_eq_true rfl) dX10_allowed_3 ⟨Nat.le_of_ble_eq_true rfl, Nat.le_of_ble_eq_true rfl⟩ (c_X10_of ax p0 2 mm _ h) rfl rfl (gV kw_7_95 kw_7_97 ks_88 kw_1_11 kw_7_98) hy_X10_of ⟨Nat.le_of_ble_eq_true rfl, Nat.le_of_ble_eq_true rfl⟩) (fun r_1 m_2 h => ?_)
  obtain ⟨h, hm⟩ := h
  subst hm
  refine q_aload_n (j := 0) X dX10_allowed_6 rfl rfl ?_
  refine q_iload_n (j := 1) X dX10_allowed_7 rfl rfl ?_
  refine q_iconst (v := 1) X dX10_allowed_8 (by decide) ?_
  refine q_calli (q_runV X hK hZ zo (gm (t := 30) (by decide) (ok1 (t := 30) (Nat.le_of_ble_eq_true rfl))) rfl rfl [.int p0, .int 1] [.int r_1] rfl rfl (Nat.le_of_ble_eq_true rfl) dX10_allowed_9 ⟨Nat.le_of_ble_eq_true rfl, Nat.le_of_ble_eq_true rfl⟩ (c_X10_of ax p0 1 mm _ h) rfl rfl (gV kw_7_95 kw_7_97 ks_88 kw_1_11 kw_7_98) hy_X10_of ⟨Nat.le_of_ble_eq_true rfl, Nat.le_of_ble_eq_true rfl⟩) (fun r_3 m_4 h => ?_)
  obtain ⟨h, hm⟩ := h
  subst hm
  refine q_calli (q_runS X hK hZ zo [.int r_3] [.int r_1] rfl rfl (Nat.le_of_ble_eq_true rfl) dX10_allowed_12 ⟨Nat.le_of_ble_eq_true rfl, Nat.le_of_ble_eq_true rfl⟩ (c_X10_wasteRate ax r_3 mm _ h) rfl rfl (gS kw_8_26 kw_8_27 kw_1_11 kw_8_28) hy_X10_wasteRate.2 ⟨Nat.le_of_ble_eq_true rfl, Nat.le_of_ble_eq_true rfl⟩) (fun r_5 m_6 h => ?_)
  obtain ⟨h, hm⟩ := h
  subst hm
  refine q_imul X dX10_allowed_15 ?_
  refine q_aload_n (j := 0) X dX10_allowed_16 rfl rfl ?_
  refine q_iload_n (j := 1) X dX10_allowed_17 rfl rfl ?_
  refine q_bipush (v := 6) X dX10_allowed_18 (by decide) ?_
  refine q_calli (q_runV X hK hZ zo (gm (t := 30) (by decide) (ok1 (t := 30) (Nat.le_of_ble_eq_true rfl))) rfl rfl [.int p0, .int 6] [.int (r_1 * r_5)] rfl rfl (Nat.le_of_ble_eq_true rfl) dX10_allowed_20 ⟨Nat.le_of_ble_eq_true rfl, Nat.le_of_ble_eq_true rfl⟩ (c_X10_of ax p0 6 mm _ h) rfl rfl (gV kw_7_95 kw_7_97 ks_88 kw_1_11 kw_7_98) hy_X10_of ⟨Nat.le_of_ble_eq_true rfl, Nat.le_of_ble_eq_true rfl⟩) (fun r_7 m_8 h => ?_)
  obtain ⟨h, hm⟩ := h
  subst hm
  refine q_bipush (v := 10) X dX10_allowed_23 (by decide) ?_
  refine q_idiv X dX10_allowed_25 (by decide) ?_
  refine q_imul X dX10_allowed_26 ?_
  refine q_sipush (v := 1000) X dX10_allowed_27 (by decide) ?_
  refine q_idiv X dX10_allowed_30 (by decide) ?_
  refine q_topi (fun x_9 ex_9 => ?_)
  have h := h x_9 ex_9
  refine q_istore_n (lv' := [(2, .int x_9), (0, .ref (ad 30 1)), (1, .int p0)]) X dX10_allowed_31 rfl (by decide) rfl ?_
  refine q_iload_n (j := 0) X dX10_allowed_32 rfl rfl ?_
  refine q_aload_n (j := 1) X dX10_allowed_33 rfl rfl ?_
  refine q_iload_n (j := 2) X dX10_allowed_34 rfl rfl ?_
  refine q_iconst (v := 2) X dX10_allowed_35 (by decide) ?_
  refine q_calli (q_runV X hK hZ zo (gm (t := 30) (by decide) (ok1 (t := 30) (Nat.le_of_ble_eq_true rfl))) rfl rfl [.int p0, .int 2] [.int x_9] rfl rfl (Nat.le_of_ble_eq_true rfl) dX10_allowed_36 ⟨Nat.le_of_ble_eq_true rfl, Nat.le_of_ble_eq_true rfl⟩ (c_X10_of ax p0 2 mm _ h) rfl rfl (gV kw_7_95 kw_7_97 ks_88 kw_1_11 kw_7_98) hy_X10_of ⟨Nat.le_of_ble_eq_true rfl, Nat.le_of_ble_eq_true rfl⟩) (fun r_10 m_11 h => ?_)
  obtain ⟨h, hm⟩ := h
  subst hm
  refine q_icmp_le (tgt := 51) X dX10_allowed_39 (by decide) (fun c_12 => ?_) (fun c_12 => ?_)
  · have h := h.1 c_12
    refine q_iload_n (j := 0) X dX10_allowed_51 rfl rfl ?_
    exact hE _ _ _ _ dX10_allowed_52 ⟨h, rfl⟩
  · have h := h.2 c_12
    refine q_aload_n (j := 1) X dX10_allowed_42 rfl rfl ?_
    refine q_iload_n (j := 2) X dX10_allowed_43 rfl rfl ?_
    refine q_iconst (v := 2) X dX10_allowed_44 (by decide) ?_
    refine q_calli (q_runV X hK hZ zo (gm (t := 30) (by decide) (ok1 (t := 30) (Nat.le_of_ble_eq_true rfl))) rfl rfl [.int p0, .int 2] [] rfl rfl (Nat.le_of_ble_eq_true rfl) dX10_allowed_45 ⟨Nat.le_of_ble_eq_true rfl, Nat.le_of_ble_eq_true rfl⟩ (c_X10_of ax p0 2 mm _ h) rfl rfl (gV kw_7_95 kw_7_97 ks_88 kw_1_11 kw_7_98) hy_X10_of ⟨Nat.le_of_ble_eq_true rfl, Nat.le_of_ble_eq_true rfl⟩) (fun r_13 m_14 h => ?_)
    obtain ⟨h, hm⟩ := h
    subst hm
    refine q_goto (tgt := 52) X dX10_allowed_48 (by decide) ?_
    exact hE _ _ _ _ dX10_allowed_52 ⟨h, rfl⟩
theorem dX10_lostBy_0 : decode cX10_lostBy 0 = .ok (.aload_n 0, 1) := by decide +kernel
theorem dX10_lostBy_1 : decode cX10_lostBy 1 = .ok (.iload_n 1, 1) := by decide +kernel
theorem dX10_lostBy_2 : decode cX10_lostBy 2 = .ok (.iconst 2, 1) := by decide +kernel
theorem dX10_lostBy_3 : decode cX10_lostBy 3 = .ok (.invokevirtual 41, 3) := by decide +kernel
theorem dX10_lostBy_6 : decode cX10_lostBy 6 = .ok (.iload_n 2, 1) := by decide +kernel
theorem dX10_lostBy_7 : decode cX10_lostBy 7 = .ok (.isub, 1) := by decide +kernel
theorem dX10_lostBy_8 : decode cX10_lostBy 8 = .ok (.istore_n 3, 1) := by decide +kernel
theorem dX10_lostBy_9 : decode cX10_lostBy 9 = .ok (.iload_n 3, 1) := by decide +kernel
theorem dX10_lostBy_10 : decode cX10_lostBy 10 = .ok (.aload_n 0, 1) := by decide +kernel
theorem dX10_lostBy_11 : decode cX10_lostBy 11 = .ok (.iload_n 1, 1) := by decide +kernel
theorem dX10_lostBy_12 : decode cX10_lostBy 12 = .ok (.invokevirtual 100, 3) := by decide +kernel
theorem dX10_lostBy_15 : decode cX10_lostBy 15 = .ok (.if_icmp .le 13, 3) := by decide +kernel
theorem dX10_lostBy_18 : decode cX10_lostBy 18 = .ok (.iload_n 3, 1) := by decide +kernel
theorem dX10_lostBy_19 : decode cX10_lostBy 19 = .ok (.aload_n 0, 1) := by decide +kernel
theorem dX10_lostBy_20 : decode cX10_lostBy 20 = .ok (.iload_n 1, 1) := by decide +kernel
theorem dX10_lostBy_21 : decode cX10_lostBy 21 = .ok (.invokevirtual 100, 3) := by decide +kernel
theorem dX10_lostBy_24 : decode cX10_lostBy 24 = .ok (.isub, 1) := by decide +kernel
theorem dX10_lostBy_25 : decode cX10_lostBy 25 = .ok (.goto 4, 3) := by decide +kernel
theorem dX10_lostBy_28 : decode cX10_lostBy 28 = .ok (.iconst 0, 1) := by decide +kernel
theorem dX10_lostBy_29 : decode cX10_lostBy 29 = .ok (.ireturn, 1) := by decide +kernel
def w_X10_lostBy (p0 : Int32) (p1 : Int32) (mm : Mm) (Q9 : Int32 → Prop) : Prop :=
  w_X10_of p0 2 mm (fun (r_1 : Int32) => ∀ x_3 : Int32, x_3 = (r_1 - p1) → (w_X10_allowed p0 mm (fun (r_4 : Int32) => ((x_3 ≤ r_4 → Q9 0) ∧
  (¬ x_3 ≤ r_4 → w_X10_allowed p0 mm (fun (r_7 : Int32) => Q9 (x_3 - r_7)))))))
def rm_X10_lostBy : Room := { frames := 2, cells := 0, slots := 0, locals := 44 }
theorem hy_X10_lostBy : yX10_lostBy.cls = RX10 ∧ yX10_lostBy.cls ≠ "java/lang/invoke/MethodHandle" ∧ yX10_lostBy.cls ≠ "java/lang/invoke/VarHandle" ∧ (parseMethodDescriptor yX10_lostBy.desc).map (fun d => d.parameters.length) = some 2 := by decide +kernel
set_option maxRecDepth 100000 in
set_option maxHeartbeats 4000000 in
theorem c_X10_lostBy {l : Launch} {D : va_G} {cA : Nat → ClassId} {ad : Nat → Nat → Nat} {A : Nat → Prop} (ax : Ax ad GM A) (p0 : Int32) (p1 : Int32) (mm : Mm) (Q9 : Int32 → Prop) (h : w_X10_lostBy p0 p1 mm Q9) : Met l yX10_lostBy (.code yX10_lostBy cX10_lostBy 4 (some .int) :: TG) rm_X10_lostBy (PcM TT D cA ad false GM (ZM) [.ref (ad 30 1), .int p0, .int p1] mm) (AnsI TT D cA ad false GM A (fun r mm' => Q9 r ∧ mm = mm')) 0 0 A := by
  have zo := ZM_ok A
  unfold w_X10_lostBy at h
  refine enterI pl_X10 ⟨rfl, rfl⟩ rfl (Nat.le_of_ble_eq_true rfl) ?_
  intro p e s m args below meth c QQ X hK hZ hnm hE
  refine q_aload_n (j := 0) X dX10_lostBy_0 rfl rfl ?_
  refine q_iload_n (j := 1) X dX10_lostBy_1 rfl rfl ?_
  refine q_iconst (v := 2) X dX10_lostBy_2 (by decide) ?_
  refine q_calli (q_runV X hK hZ zo (gm (t := 30) (by decide) (ok1 (t := 30) (Nat.le_of_ble_eq_true rfl))) rfl rfl [.int p0, .int 2] [] rfl rfl (Nat.le_of_ble_eq_true rfl) dX10_lostBy_3 ⟨Nat.le_of_ble_eq_true rfl, Nat.le_of_ble_eq_true rfl⟩ (c_X10_of ax p0 2 mm _ h) rfl rfl (gV kw_7_95 kw_7_97 ks_88 kw_1_11 kw_7_98) hy_X10_of ⟨Nat.le_of_ble_eq_true rfl, Nat.le_of_ble_eq_true rfl⟩) (fun r_1 m_2 h => ?_)
  obtain ⟨h, hm⟩ := h
  subst hm
  refine q_iload_n (j := 2) X dX10_lostBy_6 rfl rfl ?_
  refine q_isub X dX10_lostBy_7 ?_
  refine q_topi (fun x_3 ex_3 => ?_)
  have h := h x_3 ex_3
  refine q_istore_n (lv' := [(3, .int x_3), (0, .ref (ad 30 1)), (1, .int p0), (2, .int p1)]) X dX10_lostBy_8 rfl (by decide) rfl ?_
  refine q_iload_n (j := 0) X dX10_lostBy_9 rfl rfl ?_
  refine q_aload_n (j := 1) X dX10_lostBy_10 rfl rfl ?_
  refine q_iload_n (j := 2) X dX10_lostBy_11 rfl rfl ?_
  refine q_calli (q_runV X hK hZ zo (gm (t := 30) (by decide) (ok1 (t := 30) (Nat.le_of_ble_eq_true rfl))) rfl rfl [.int p0] [.int x_3] rfl rfl (Nat.le_of_ble_eq_true rfl) dX10_lostBy_12 ⟨Nat.le_of_ble_eq_true rfl, Nat.le_of_ble_eq_true rfl⟩ (c_X10_allowed ax p0 mm _ h) rfl rfl (gV kw_8_22 kw_8_24 ks_121 kw_1_11 kw_8_25) hy_X10_allowed ⟨Nat.le_of_ble_eq_true rfl, Nat.le_of_ble_eq_true rfl⟩) (fun r_4 m_5 h => ?_)
  obtain ⟨h, hm⟩ := h
  subst hm
  refine q_icmp_le (tgt := 28) X dX10_lostBy_15 (by decide) (fun c_6 => ?_) (fun c_6 => ?_)
  · have h := h.1 c_6
    refine q_iconst (v := 0) X dX10_lostBy_28 (by decide) ?_
    exact hE _ _ _ _ dX10_lostBy_29 ⟨h, rfl⟩
  · have h := h.2 c_6
    refine q_iload_n (j := 0) X dX10_lostBy_18 rfl rfl ?_
    refine q_aload_n (j := 1) X dX10_lostBy_19 rfl rfl ?_
    refine q_iload_n (j := 2) X dX10_lostBy_20 rfl rfl ?_
    refine q_calli (q_runV X hK hZ zo (gm (t := 30) (by decide) (ok1 (t := 30) (Nat.le_of_ble_eq_true rfl))) rfl rfl [.int p0] [.int x_3] rfl rfl (Nat.le_of_ble_eq_true rfl) dX10_lostBy_21 ⟨Nat.le_of_ble_eq_true rfl, Nat.le_of_ble_eq_true rfl⟩ (c_X10_allowed ax p0 mm _ h) rfl rfl (gV kw_8_22 kw_8_24 ks_121 kw_1_11 kw_8_25) hy_X10_allowed ⟨Nat.le_of_ble_eq_true rfl, Nat.le_of_ble_eq_true rfl⟩) (fun r_7 m_8 h => ?_)
    obtain ⟨h, hm⟩ := h
    subst hm
    refine q_isub X dX10_lostBy_24 ?_
    refine q_goto (tgt := 29) X dX10_lostBy_25 (by decide) ?_
    exact hE _ _ _ _ dX10_lostBy_29 ⟨h, rfl⟩
theorem dX10_chargeBy_0 : decode cX10_chargeBy 0 = .ok (.aload_n 0, 1) := by decide +kernel
theorem dX10_chargeBy_1 : decode cX10_chargeBy 1 = .ok (.iload_n 1, 1) := by decide +kernel
theorem dX10_chargeBy_2 : decode cX10_chargeBy 2 = .ok (.iload_n 2, 1) := by decide +kernel
theorem dX10_chargeBy_3 : decode cX10_chargeBy 3 = .ok (.invokevirtual 103, 3) := by decide +kernel
theorem dX10_chargeBy_6 : decode cX10_chargeBy 6 = .ok (.istore_n 3, 1) := by decide +kernel
theorem dX10_chargeBy_7 : decode cX10_chargeBy 7 = .ok (.aload_n 0, 1) := by decide +kernel
theorem dX10_chargeBy_8 : decode cX10_chargeBy 8 = .ok (.iload_n 1, 1) := by decide +kernel
theorem dX10_chargeBy_9 : decode cX10_chargeBy 9 = .ok (.iload_n 3, 1) := by decide +kernel
theorem dX10_chargeBy_10 : decode cX10_chargeBy 10 = .ok (.invokevirtual 59, 3) := by decide +kernel
theorem dX10_chargeBy_13 : decode cX10_chargeBy 13 = .ok (.istore 4, 2) := by decide +kernel
theorem dX10_chargeBy_15 : decode cX10_chargeBy 15 = .ok (.iload_n 3, 1) := by decide +kernel
theorem dX10_chargeBy_16 : decode cX10_chargeBy 16 = .ok (.ifCond .ne 7, 3) := by decide +kernel
theorem dX10_chargeBy_19 : decode cX10_chargeBy 19 = .ok (.iconst 0, 1) := by decide +kernel
theorem dX10_chargeBy_20 : decode cX10_chargeBy 20 = .ok (.goto 23, 3) := by decide +kernel
theorem dX10_chargeBy_23 : decode cX10_chargeBy 23 = .ok (.aload_n 0, 1) := by decide +kernel
theorem dX10_chargeBy_24 : decode cX10_chargeBy 24 = .ok (.iload_n 1, 1) := by decide +kernel
theorem dX10_chargeBy_25 : decode cX10_chargeBy 25 = .ok (.bipush 7, 2) := by decide +kernel
theorem dX10_chargeBy_27 : decode cX10_chargeBy 27 = .ok (.invokevirtual 41, 3) := by decide +kernel
theorem dX10_chargeBy_30 : decode cX10_chargeBy 30 = .ok (.iconst 1, 1) := by decide +kernel
theorem dX10_chargeBy_31 : decode cX10_chargeBy 31 = .ok (.if_icmp .ne 8, 3) := by decide +kernel
theorem dX10_chargeBy_34 : decode cX10_chargeBy 34 = .ok (.iload 4, 2) := by decide +kernel
theorem dX10_chargeBy_36 : decode cX10_chargeBy 36 = .ok (.goto 7, 3) := by decide +kernel
theorem dX10_chargeBy_39 : decode cX10_chargeBy 39 = .ok (.iconst 2, 1) := by decide +kernel
theorem dX10_chargeBy_40 : decode cX10_chargeBy 40 = .ok (.iload 4, 2) := by decide +kernel
theorem dX10_chargeBy_42 : decode cX10_chargeBy 42 = .ok (.imul, 1) := by decide +kernel
theorem dX10_chargeBy_43 : decode cX10_chargeBy 43 = .ok (.ireturn, 1) := by decide +kernel
def w_X10_chargeBy (p0 : Int32) (p1 : Int32) (mm : Mm) (Q9 : Int32 → Prop) : Prop :=
  w_X10_lostBy p0 p1 mm (fun (r_1 : Int32) => w_X10_dutyPart p0 r_1 mm (fun (r_3 : Int32) => ((¬ r_1 = 0 → w_X10_of p0 7 mm (fun (r_6 : Int32) => ((¬ r_6 = 1 → Q9 (2 * r_3)) ∧
  (r_6 = 1 → Q9 r_3)))) ∧
  (r_1 = 0 → Q9 0))))
def rm_X10_chargeBy : Room := { frames := 3, cells := 0, slots := 0, locals := 68 }
theorem hy_X10_chargeBy : yX10_chargeBy.cls = RX10 ∧ yX10_chargeBy.cls ≠ "java/lang/invoke/MethodHandle" ∧ yX10_chargeBy.cls ≠ "java/lang/invoke/VarHandle" ∧ (parseMethodDescriptor yX10_chargeBy.desc).map (fun d => d.parameters.length) = some 2 := by decide +kernel
set_option maxRecDepth 100000 in
set_option maxHeartbeats 4000000 in
theorem c_X10_chargeBy {l : Launch} {D : va_G} {cA : Nat → ClassId} {ad : Nat → Nat → Nat} {A : Nat → Prop} (ax : Ax ad GM A) (p0 : Int32) (p1 : Int32) (mm : Mm) (Q9 : Int32 → Prop) (h : w_X10_chargeBy p0 p1 mm Q9) : Met l yX10_chargeBy (.code yX10_chargeBy cX10_chargeBy 5 (some .int) :: TG) rm_X10_chargeBy (PcM TT D cA ad false GM (ZM) [.ref (ad 30 1), .int p0, .int p1] mm) (AnsI TT D cA ad false GM A (fun r mm' => Q9 r ∧ mm = mm')) 0 0 A := by
  have zo := ZM_ok A
  unfold w_X10_chargeBy at h
  refine enterI pl_X10 ⟨rfl, rfl⟩ rfl (Nat.le_of_ble_eq_true rfl) ?_
  intro p e s m args below meth c QQ X hK hZ hnm hE
  refine q_aload_n (j := 0) X dX10_chargeBy_0 rfl rfl ?_
  refine q_iload_n (j := 1) X dX10_chargeBy_1 rfl rfl ?_
  refine q_iload_n (j := 2) X dX10_chargeBy_2 rfl rfl ?_
  refine q_calli (q_runV X hK hZ zo (gm (t := 30) (by decide) (ok1 (t := 30) (Nat.le_of_ble_eq_true rfl))) rfl rfl [.int p0, .int p1] [] rfl rfl (Nat.le_of_ble_eq_true rfl) dX10_chargeBy_3 ⟨Nat.le_of_ble_eq_true rfl, Nat.le_of_ble_eq_true rfl⟩ (c_X10_lostBy ax p0 p1 mm _ h) rfl rfl (gV kw_8_18 kw_8_20 ks_120 kw_1_11 kw_8_21) hy_X10_lostBy ⟨Nat.le_of_ble_eq_true rfl, Nat.le_of_ble_eq_true rfl⟩) (fun r_1 m_2 h => ?_)
  obtain ⟨h, hm⟩ := h
  subst hm
  refine q_istore_n (lv' := [(3, .int r_1), (0, .ref (ad 30 1)), (1, .int p0), (2, .int p1)]) X dX10_chargeBy_6 rfl (by decide) rfl ?_
  refine q_aload_n (j := 1) X dX10_chargeBy_7 rfl rfl ?_
  refine q_iload_n (j := 2) X dX10_chargeBy_8 rfl rfl ?_
  refine q_iload_n (j := 0) X dX10_chargeBy_9 rfl rfl ?_
  refine q_calli (q_runV X hK hZ zo (gm (t := 30) (by decide) (ok1 (t := 30) (Nat.le_of_ble_eq_true rfl))) rfl rfl [.int p0, .int r_1] [] rfl rfl (Nat.le_of_ble_eq_true rfl) dX10_chargeBy_10 ⟨Nat.le_of_ble_eq_true rfl, Nat.le_of_ble_eq_true rfl⟩ (c_X10_dutyPart ax p0 r_1 mm _ h) rfl rfl (gV kw_7_107 kw_7_109 ks_91 kw_1_11 kw_7_110) hy_X10_dutyPart ⟨Nat.le_of_ble_eq_true rfl, Nat.le_of_ble_eq_true rfl⟩) (fun r_3 m_4 h => ?_)
  obtain ⟨h, hm⟩ := h
  subst hm
  refine q_istore (lv' := [(4, .int r_3), (3, .int r_1), (0, .ref (ad 30 1)), (1, .int p0), (2, .int p1)]) X dX10_chargeBy_13 (by decide) rfl ?_
  refine q_iload_n (j := 1) X dX10_chargeBy_15 rfl rfl ?_
  refine q_if_ne (tgt := 23) X dX10_chargeBy_16 (by decide) (fun c_5 => ?_) (fun c_5 => ?_)
  · have h := h.1 c_5
    refine q_aload_n (j := 2) X dX10_chargeBy_23 rfl rfl ?_
    refine q_iload_n (j := 3) X dX10_chargeBy_24 rfl rfl ?_
    refine q_bipush (v := 7) X dX10_chargeBy_25 (by decide) ?_
    refine q_calli (q_runV X hK hZ zo (gm (t := 30) (by decide) (ok1 (t := 30) (Nat.le_of_ble_eq_true rfl))) rfl rfl [.int p0, .int 7] [] rfl rfl (Nat.le_of_ble_eq_true rfl) dX10_chargeBy_27 ⟨Nat.le_of_ble_eq_true rfl, Nat.le_of_ble_eq_true rfl⟩ (c_X10_of ax p0 7 mm _ h) rfl rfl (gV kw_7_95 kw_7_97 ks_88 kw_1_11 kw_7_98) hy_X10_of ⟨Nat.le_of_ble_eq_true rfl, Nat.le_of_ble_eq_true rfl⟩) (fun r_6 m_7 h => ?_)
    obtain ⟨h, hm⟩ := h
    subst hm
    refine q_iconst (v := 1) X dX10_chargeBy_30 (by decide) ?_
    refine q_icmp_ne (tgt := 39) X dX10_chargeBy_31 (by decide) (fun c_8 => ?_) (fun c_8 => ?_)
    · have h := h.1 c_8
      refine q_iconst (v := 2) X dX10_chargeBy_39 (by decide) ?_
      refine q_iload (j := 0) X dX10_chargeBy_40 rfl ?_
      refine q_imul X dX10_chargeBy_42 ?_
      exact hE _ _ _ _ dX10_chargeBy_43 ⟨h, rfl⟩
    · have h := h.2 c_8
      refine q_iload (j := 0) X dX10_chargeBy_34 rfl ?_
      refine q_goto (tgt := 43) X dX10_chargeBy_36 (by decide) ?_
      exact hE _ _ _ _ dX10_chargeBy_43 ⟨h, rfl⟩
  · have h := h.2 c_5
    refine q_iconst (v := 0) X dX10_chargeBy_19 (by decide) ?_
    refine q_goto (tgt := 43) X dX10_chargeBy_20 (by decide) ?_
    exact hE _ _ _ _ dX10_chargeBy_43 ⟨h, rfl⟩
theorem dX10_weighOn_0 : decode cX10_weighOn 0 = .ok (.aload_n 0, 1) := by decide +kernel
theorem dX10_weighOn_1 : decode cX10_weighOn 1 = .ok (.iload_n 1, 1) := by decide +kernel
theorem dX10_weighOn_2 : decode cX10_weighOn 2 = .ok (.iload_n 2, 1) := by decide +kernel
theorem dX10_weighOn_3 : decode cX10_weighOn 3 = .ok (.invokevirtual 106, 3) := by decide +kernel
theorem dX10_weighOn_6 : decode cX10_weighOn 6 = .ok (.istore_n 3, 1) := by decide +kernel
theorem dX10_weighOn_7 : decode cX10_weighOn 7 = .ok (.aload_n 0, 1) := by decide +kernel
theorem dX10_weighOn_8 : decode cX10_weighOn 8 = .ok (.iload_n 1, 1) := by decide +kernel
theorem dX10_weighOn_9 : decode cX10_weighOn 9 = .ok (.iload_n 2, 1) := by decide +kernel
theorem dX10_weighOn_10 : decode cX10_weighOn 10 = .ok (.invokevirtual 103, 3) := by decide +kernel
theorem dX10_weighOn_13 : decode cX10_weighOn 13 = .ok (.istore 4, 2) := by decide +kernel
theorem dX10_weighOn_15 : decode cX10_weighOn 15 = .ok (.aload_n 0, 1) := by decide +kernel
theorem dX10_weighOn_16 : decode cX10_weighOn 16 = .ok (.iload_n 1, 1) := by decide +kernel
theorem dX10_weighOn_17 : decode cX10_weighOn 17 = .ok (.iconst 2, 1) := by decide +kernel
theorem dX10_weighOn_18 : decode cX10_weighOn 18 = .ok (.invokevirtual 41, 3) := by decide +kernel
theorem dX10_weighOn_21 : decode cX10_weighOn 21 = .ok (.iload_n 2, 1) := by decide +kernel
theorem dX10_weighOn_22 : decode cX10_weighOn 22 = .ok (.isub, 1) := by decide +kernel
theorem dX10_weighOn_23 : decode cX10_weighOn 23 = .ok (.istore 5, 2) := by decide +kernel
theorem dX10_weighOn_25 : decode cX10_weighOn 25 = .ok (.iload_n 3, 1) := by decide +kernel
theorem dX10_weighOn_26 : decode cX10_weighOn 26 = .ok (.aload_n 0, 1) := by decide +kernel
theorem dX10_weighOn_27 : decode cX10_weighOn 27 = .ok (.getfield 13, 3) := by decide +kernel
theorem dX10_weighOn_30 : decode cX10_weighOn 30 = .ok (.iconst 3, 1) := by decide +kernel
theorem dX10_weighOn_31 : decode cX10_weighOn 31 = .ok (.iaload, 1) := by decide +kernel
theorem dX10_weighOn_32 : decode cX10_weighOn 32 = .ok (.if_icmp .ge 7, 3) := by decide +kernel
theorem dX10_weighOn_35 : decode cX10_weighOn 35 = .ok (.iload_n 3, 1) := by decide +kernel
theorem dX10_weighOn_36 : decode cX10_weighOn 36 = .ok (.goto 9, 3) := by decide +kernel
theorem dX10_weighOn_39 : decode cX10_weighOn 39 = .ok (.aload_n 0, 1) := by decide +kernel
theorem dX10_weighOn_40 : decode cX10_weighOn 40 = .ok (.getfield 13, 3) := by decide +kernel
theorem dX10_weighOn_43 : decode cX10_weighOn 43 = .ok (.iconst 3, 1) := by decide +kernel
theorem dX10_weighOn_44 : decode cX10_weighOn 44 = .ok (.iaload, 1) := by decide +kernel
theorem dX10_weighOn_45 : decode cX10_weighOn 45 = .ok (.istore 6, 2) := by decide +kernel
theorem dX10_weighOn_47 : decode cX10_weighOn 47 = .ok (.aload_n 0, 1) := by decide +kernel
theorem dX10_weighOn_48 : decode cX10_weighOn 48 = .ok (.getfield 13, 3) := by decide +kernel
theorem dX10_weighOn_51 : decode cX10_weighOn 51 = .ok (.iconst 3, 1) := by decide +kernel
theorem dX10_weighOn_52 : decode cX10_weighOn 52 = .ok (.dup2, 1) := by decide +kernel
theorem dX10_weighOn_53 : decode cX10_weighOn 53 = .ok (.iaload, 1) := by decide +kernel
theorem dX10_weighOn_54 : decode cX10_weighOn 54 = .ok (.iload 6, 2) := by decide +kernel
theorem dX10_weighOn_56 : decode cX10_weighOn 56 = .ok (.isub, 1) := by decide +kernel
theorem dX10_weighOn_57 : decode cX10_weighOn 57 = .ok (.iastore, 1) := by decide +kernel
theorem dX10_weighOn_58 : decode cX10_weighOn 58 = .ok (.aload_n 0, 1) := by decide +kernel
theorem dX10_weighOn_59 : decode cX10_weighOn 59 = .ok (.getfield 13, 3) := by decide +kernel
theorem dX10_weighOn_62 : decode cX10_weighOn 62 = .ok (.iconst 4, 1) := by decide +kernel
theorem dX10_weighOn_63 : decode cX10_weighOn 63 = .ok (.dup2, 1) := by decide +kernel
theorem dX10_weighOn_64 : decode cX10_weighOn 64 = .ok (.iaload, 1) := by decide +kernel
theorem dX10_weighOn_65 : decode cX10_weighOn 65 = .ok (.iload_n 3, 1) := by decide +kernel
theorem dX10_weighOn_66 : decode cX10_weighOn 66 = .ok (.iload 6, 2) := by decide +kernel
theorem dX10_weighOn_68 : decode cX10_weighOn 68 = .ok (.isub, 1) := by decide +kernel
theorem dX10_weighOn_69 : decode cX10_weighOn 69 = .ok (.iadd, 1) := by decide +kernel
theorem dX10_weighOn_70 : decode cX10_weighOn 70 = .ok (.iastore, 1) := by decide +kernel
theorem dX10_weighOn_71 : decode cX10_weighOn 71 = .ok (.aload_n 0, 1) := by decide +kernel
theorem dX10_weighOn_72 : decode cX10_weighOn 72 = .ok (.getfield 13, 3) := by decide +kernel
theorem dX10_weighOn_75 : decode cX10_weighOn 75 = .ok (.bipush 8, 2) := by decide +kernel
theorem dX10_weighOn_77 : decode cX10_weighOn 77 = .ok (.dup2, 1) := by decide +kernel
theorem dX10_weighOn_78 : decode cX10_weighOn 78 = .ok (.iaload, 1) := by decide +kernel
theorem dX10_weighOn_79 : decode cX10_weighOn 79 = .ok (.iload_n 3, 1) := by decide +kernel
theorem dX10_weighOn_80 : decode cX10_weighOn 80 = .ok (.iadd, 1) := by decide +kernel
theorem dX10_weighOn_81 : decode cX10_weighOn 81 = .ok (.iastore, 1) := by decide +kernel
theorem dX10_weighOn_82 : decode cX10_weighOn 82 = .ok (.aload_n 0, 1) := by decide +kernel
theorem dX10_weighOn_83 : decode cX10_weighOn 83 = .ok (.aload_n 0, 1) := by decide +kernel
theorem dX10_weighOn_84 : decode cX10_weighOn 84 = .ok (.iload_n 1, 1) := by decide +kernel
theorem dX10_weighOn_85 : decode cX10_weighOn 85 = .ok (.iconst 1, 1) := by decide +kernel
theorem dX10_weighOn_86 : decode cX10_weighOn 86 = .ok (.invokevirtual 41, 3) := by decide +kernel
theorem dX10_weighOn_89 : decode cX10_weighOn 89 = .ok (.iconst 3, 1) := by decide +kernel
theorem dX10_weighOn_90 : decode cX10_weighOn 90 = .ok (.iload 5, 2) := by decide +kernel
theorem dX10_weighOn_92 : decode cX10_weighOn 92 = .ok (.iload 4, 2) := by decide +kernel
theorem dX10_weighOn_94 : decode cX10_weighOn 94 = .ok (.isub, 1) := by decide +kernel
theorem dX10_weighOn_95 : decode cX10_weighOn 95 = .ok (.invokevirtual 74, 3) := by decide +kernel
theorem dX10_weighOn_98 : decode cX10_weighOn 98 = .ok (.aload_n 0, 1) := by decide +kernel
theorem dX10_weighOn_99 : decode cX10_weighOn 99 = .ok (.aload_n 0, 1) := by decide +kernel
theorem dX10_weighOn_100 : decode cX10_weighOn 100 = .ok (.iload_n 1, 1) := by decide +kernel
theorem dX10_weighOn_101 : decode cX10_weighOn 101 = .ok (.iconst 1, 1) := by decide +kernel
theorem dX10_weighOn_102 : decode cX10_weighOn 102 = .ok (.invokevirtual 41, 3) := by decide +kernel
theorem dX10_weighOn_105 : decode cX10_weighOn 105 = .ok (.iconst 4, 1) := by decide +kernel
theorem dX10_weighOn_106 : decode cX10_weighOn 106 = .ok (.iload 4, 2) := by decide +kernel
theorem dX10_weighOn_108 : decode cX10_weighOn 108 = .ok (.invokevirtual 74, 3) := by decide +kernel
theorem dX10_weighOn_111 : decode cX10_weighOn 111 = .ok (.aload_n 0, 1) := by decide +kernel
theorem dX10_weighOn_112 : decode cX10_weighOn 112 = .ok (.iload_n 1, 1) := by decide +kernel
theorem dX10_weighOn_113 : decode cX10_weighOn 113 = .ok (.bipush 7, 2) := by decide +kernel
theorem dX10_weighOn_115 : decode cX10_weighOn 115 = .ok (.iconst 1, 1) := by decide +kernel
theorem dX10_weighOn_116 : decode cX10_weighOn 116 = .ok (.invokevirtual 66, 3) := by decide +kernel
theorem dX10_weighOn_119 : decode cX10_weighOn 119 = .ok (.aload_n 0, 1) := by decide +kernel
theorem dX10_weighOn_120 : decode cX10_weighOn 120 = .ok (.iload_n 1, 1) := by decide +kernel
theorem dX10_weighOn_121 : decode cX10_weighOn 121 = .ok (.bipush 6, 2) := by decide +kernel
theorem dX10_weighOn_123 : decode cX10_weighOn 123 = .ok (.iconst 0, 1) := by decide +kernel
theorem dX10_weighOn_124 : decode cX10_weighOn 124 = .ok (.invokevirtual 66, 3) := by decide +kernel
theorem dX10_weighOn_127 : decode cX10_weighOn 127 = .ok (.aload_n 0, 1) := by decide +kernel
theorem dX10_weighOn_128 : decode cX10_weighOn 128 = .ok (.iload_n 1, 1) := by decide +kernel
theorem dX10_weighOn_129 : decode cX10_weighOn 129 = .ok (.iload 5, 2) := by decide +kernel
theorem dX10_weighOn_131 : decode cX10_weighOn 131 = .ok (.invokevirtual 84, 3) := by decide +kernel
theorem dX10_weighOn_134 : decode cX10_weighOn 134 = .ok (.iload_n 3, 1) := by decide +kernel
theorem dX10_weighOn_135 : decode cX10_weighOn 135 = .ok (.ireturn, 1) := by decide +kernel
def w_X10_weighOn_J45 (p0 : Int32) (mm : Mm) (Q9 : Int32 → Mm → Prop) (r_1 : Int32) (r_3 : Int32) (x_7 : Int32) (y_8 : Int32) : Prop :=
  ∀ m_9 : Mm, m_9 = sI mm 32 1 3 ((mm.1 32 1 3) - y_8) → (∀ m_10 : Mm, m_10 = sI m_9 32 1 4 ((m_9.1 32 1 4) + (r_1 - y_8)) → (∀ m_11 : Mm, m_11 = sI m_10 32 1 8 ((m_10.1 32 1 8) + r_1) → (w_X10_of p0 1 m_11 (fun (r_12 : Int32) => w_X10_total r_12 3 (x_7 - r_3) m_11 (fun (m_15 : Mm) => w_X10_of p0 1 m_15 (fun (r_16 : Int32) => w_X10_total r_16 4 r_3 m_15 (fun (m_19 : Mm) => w_X10_put p0 7 1 m_19 (fun (m_21 : Mm) => w_X10_put p0 6 0 m_21 (fun (m_23 : Mm) => w_X10_goes p0 x_7 m_23 (fun (m_25 : Mm) => Q9 r_1 m_25))))))))))
def w_X10_weighOn (p0 : Int32) (p1 : Int32) (mm : Mm) (Q9 : Int32 → Mm → Prop) : Prop :=
  w_X10_chargeBy p0 p1 mm (fun (r_1 : Int32) => w_X10_lostBy p0 p1 mm (fun (r_3 : Int32) => w_X10_of p0 2 mm (fun (r_5 : Int32) => ∀ x_7 : Int32, x_7 = (r_5 - p1) → ((((mm.1 32 1 3) ≤ r_1 → w_X10_weighOn_J45 p0 mm Q9 r_1 r_3 x_7 (mm.1 32 1 3)) ∧
  (¬ (mm.1 32 1 3) ≤ r_1 → w_X10_weighOn_J45 p0 mm Q9 r_1 r_3 x_7 r_1))))))
def rm_X10_weighOn : Room := { frames := 4, cells := 0, slots := 0, locals := 92 }
theorem hy_X10_weighOn : yX10_weighOn.cls = RX10 ∧ yX10_weighOn.cls ≠ "java/lang/invoke/MethodHandle" ∧ yX10_weighOn.cls ≠ "java/lang/invoke/VarHandle" ∧ (parseMethodDescriptor yX10_weighOn.desc).map (fun d => d.parameters.length) = some 2 := by decide +kernel
set_option maxRecDepth 100000 in
set_option maxHeartbeats 4000000 in
theorem c_X10_weighOn {l : Launch} {D : va_G} {cA : Nat → ClassId} {ad : Nat → Nat → Nat} {A : Nat → Prop} (ax : Ax ad GM A) (p0 : Int32) (p1 : Int32) (mm : Mm) (Q9 : Int32 → Mm → Prop) (h : w_X10_weighOn p0 p1 mm Q9) : Met l yX10_weighOn (.code yX10_weighOn cX10_weighOn 7 (some .int) :: TG) rm_X10_weighOn (PcM TT D cA ad false GM (ZM) [.ref (ad 30 1), .int p0, .int p1] mm) (AnsI TT D cA ad false GM A Q9) 0 0 A := by
  have zo := ZM_ok A
  unfold w_X10_weighOn at h
  refine enterI pl_X10 ⟨rfl, rfl⟩ rfl (Nat.le_of_ble_eq_true rfl) ?_
  intro p e s m args below meth c QQ X hK hZ hnm hE
  refine q_aload_n (j := 0) X dX10_weighOn_0 rfl rfl ?_
  refine q_iload_n (j := 1) X dX10_weighOn_1 rfl rfl ?_
  refine q_iload_n (j := 2) X dX10_weighOn_2 rfl rfl ?_
  refine q_calli (q_runV X hK hZ zo (gm (t := 30) (by decide) (ok1 (t := 30) (Nat.le_of_ble_eq_true rfl))) rfl rfl [.int p0, .int p1] [] rfl rfl (Nat.le_of_ble_eq_true rfl) dX10_weighOn_3 ⟨Nat.le_of_ble_eq_true rfl, Nat.le_of_ble_eq_true rfl⟩ (c_X10_chargeBy ax p0 p1 mm _ h) rfl rfl (gV kw_8_14 kw_8_16 ks_119 kw_1_11 kw_8_17) hy_X10_chargeBy ⟨Nat.le_of_ble_eq_true rfl, Nat.le_of_ble_eq_true rfl⟩) (fun r_1 m_2 h => ?_)
  obtain ⟨h, hm⟩ := h
  subst hm
  refine q_istore_n (lv' := [(3, .int r_1), (0, .ref (ad 30 1)), (1, .int p0), (2, .int p1)]) X dX10_weighOn_6 rfl (by decide) rfl ?_
  refine q_aload_n (j := 1) X dX10_weighOn_7 rfl rfl ?_
  refine q_iload_n (j := 2) X dX10_weighOn_8 rfl rfl ?_
  refine q_iload_n (j := 3) X dX10_weighOn_9 rfl rfl ?_
  refine q_calli (q_runV X hK hZ zo (gm (t := 30) (by decide) (ok1 (t := 30) (Nat.le_of_ble_eq_true rfl))) rfl rfl [.int p0, .int p1] [] rfl rfl (Nat.le_of_ble_eq_true rfl) dX10_weighOn_10 ⟨Nat.le_of_ble_eq_true rfl, Nat.le_of_ble_eq_true rfl⟩ (c_X10_lostBy ax p0 p1 mm _ h) rfl rfl (gV kw_8_18 kw_8_20 ks_120 kw_1_11 kw_8_21) hy_X10_lostBy ⟨Nat.le_of_ble_eq_true rfl, Nat.le_of_ble_eq_true rfl⟩) (fun r_3 m_4 h => ?_)
  obtain ⟨h, hm⟩ := h
  subst hm
  refine q_istore (lv' := [(4, .int r_3), (3, .int r_1), (0, .ref (ad 30 1)), (1, .int p0), (2, .int p1)]) X dX10_weighOn_13 (by decide) rfl ?_
  refine q_aload_n (j := 2) X dX10_weighOn_15 rfl rfl ?_
  refine q_iload_n (j := 3) X dX10_weighOn_16 rfl rfl ?_
  refine q_iconst (v := 2) X dX10_weighOn_17 (by decide) ?_
  refine q_calli (q_runV X hK hZ zo (gm (t := 30) (by decide) (ok1 (t := 30) (Nat.le_of_ble_eq_true rfl))) rfl rfl [.int p0, .int 2] [] rfl rfl (Nat.le_of_ble_eq_true rfl) dX10_weighOn_18 ⟨Nat.le_of_ble_eq_true rfl, Nat.le_of_ble_eq_true rfl⟩ (c_X10_of ax p0 2 mm _ h) rfl rfl (gV kw_7_95 kw_7_97 ks_88 kw_1_11 kw_7_98) hy_X10_of ⟨Nat.le_of_ble_eq_true rfl, Nat.le_of_ble_eq_true rfl⟩) (fun r_5 m_6 h => ?_)
  obtain ⟨h, hm⟩ := h
  subst hm
  refine q_iload_n (j := 4) X dX10_weighOn_21 rfl rfl ?_
  refine q_isub X dX10_weighOn_22 ?_
  refine q_topi (fun x_7 ex_7 => ?_)
  have h := h x_7 ex_7
  refine q_istore (lv' := [(5, .int x_7), (4, .int r_3), (3, .int r_1), (0, .ref (ad 30 1)), (1, .int p0), (2, .int p1)]) X dX10_weighOn_23 (by decide) rfl ?_
  refine q_iload_n (j := 2) X dX10_weighOn_25 rfl rfl ?_
  refine q_aload_n (j := 3) X dX10_weighOn_26 rfl rfl ?_
  refine q_get (k := 3) (v := .ref (ad 32 1)) X hK rfl rfl (Nat.le_of_ble_eq_true rfl) inTX10 (gm (t := 30) (by decide) (ok1 (t := 30) (Nat.le_of_ble_eq_true rfl))) kw_7_10 rfl (rv_nn (a := ad 32) (r := 1) (ok1 (t := 32) (Nat.le_of_ble_eq_true rfl)).1) dX10_weighOn_27 ?_
  refine q_iconst (v := 3) X dX10_weighOn_30 (by decide) ?_
  refine q_iald (t := 32) (i := 1) (jn := 3) (v := .int (mm.1 32 1 3)) X hK rfl rfl (gm (t := 32) (by decide) (ok1 (t := 32) (Nat.le_of_ble_eq_true rfl))) rfl (vpl (by decide +kernel)) (by decide +kernel) rfl dX10_weighOn_31 ?_
  have J45 : ∀ (y_8 : Int32), w_X10_weighOn_J45 p0 mm Q9 r_1 r_3 x_7 y_8 → V p l e rm_X10_weighOn s m args below meth c QQ 7 A 0 0 (Rep TT D cA ad false GM mm) 45 [(0, .ref (ad 30 1)), (1, .int p0), (3, .int r_1), (4, .int r_3), (5, .int x_7)] [.int y_8] := by
    intro y_8 h
    unfold w_X10_weighOn_J45 at h
    refine q_istore (lv' := [(6, .int y_8), (0, .ref (ad 30 1)), (1, .int p0), (3, .int r_1), (4, .int r_3), (5, .int x_7)]) X dX10_weighOn_45 (by decide) rfl ?_
    refine q_aload_n (j := 1) X dX10_weighOn_47 rfl rfl ?_
    refine q_get (k := 3) (v := .ref (ad 32 1)) X hK rfl rfl (Nat.le_of_ble_eq_true rfl) inTX10 (gm (t := 30) (by decide) (ok1 (t := 30) (Nat.le_of_ble_eq_true rfl))) kw_7_10 rfl (rv_nn (a := ad 32) (r := 1) (ok1 (t := 32) (Nat.le_of_ble_eq_true rfl)).1) dX10_weighOn_48 ?_
    refine q_iconst (v := 3) X dX10_weighOn_51 (by decide) ?_
    refine q_dup2 X dX10_weighOn_52 rfl rfl ?_
    refine q_iald (t := 32) (i := 1) (jn := 3) (v := .int (mm.1 32 1 3)) X hK rfl rfl (gm (t := 32) (by decide) (ok1 (t := 32) (Nat.le_of_ble_eq_true rfl))) rfl (vpl (by decide +kernel)) (by decide +kernel) rfl dX10_weighOn_53 ?_
    refine q_iload (j := 0) X dX10_weighOn_54 rfl ?_
    refine q_isub X dX10_weighOn_56 ?_
    refine q_iast (t := 32) (i := 1) (jn := 3) X ax hK rfl rfl (gm (t := 32) (by decide) (ok1 (t := 32) (Nat.le_of_ble_eq_true rfl))) rfl (vpl (by decide +kernel)) (by decide +kernel) rfl dX10_weighOn_57 ?_
    refine q_nmP (fun m_9 em_9 => ?_)
    have h := h m_9 em_9
    refine q_aload_n (j := 1) X dX10_weighOn_58 rfl rfl ?_
    refine q_get (k := 3) (v := .ref (ad 32 1)) X hK rfl rfl (Nat.le_of_ble_eq_true rfl) inTX10 (gm (t := 30) (by decide) (ok1 (t := 30) (Nat.le_of_ble_eq_true rfl))) kw_7_10 rfl (rv_nn (a := ad 32) (r := 1) (ok1 (t := 32) (Nat.le_of_ble_eq_true rfl)).1) dX10_weighOn_59 ?_
    refine q_iconst (v := 4) X dX10_weighOn_62 (by decide) ?_
    refine q_dup2 X dX10_weighOn_63 rfl rfl ?_
    refine q_iald (t := 32) (i := 1) (jn := 4) (v := .int (m_9.1 32 1 4)) X hK rfl rfl (gm (t := 32) (by decide) (ok1 (t := 32) (Nat.le_of_ble_eq_true rfl))) rfl (vpl (by decide +kernel)) (by decide +kernel) rfl dX10_weighOn_64 ?_
    refine q_iload_n (j := 3) X dX10_weighOn_65 rfl rfl ?_
    refine q_iload (j := 0) X dX10_weighOn_66 rfl ?_
    refine q_isub X dX10_weighOn_68 ?_
    refine q_iadd X dX10_weighOn_69 ?_
    refine q_iast (t := 32) (i := 1) (jn := 4) X ax hK rfl rfl (gm (t := 32) (by decide) (ok1 (t := 32) (Nat.le_of_ble_eq_true rfl))) rfl (vpl (by decide +kernel)) (by decide +kernel) rfl dX10_weighOn_70 ?_
    refine q_nmP (fun m_10 em_10 => ?_)
    have h := h m_10 em_10
    refine q_aload_n (j := 1) X dX10_weighOn_71 rfl rfl ?_
    refine q_get (k := 3) (v := .ref (ad 32 1)) X hK rfl rfl (Nat.le_of_ble_eq_true rfl) inTX10 (gm (t := 30) (by decide) (ok1 (t := 30) (Nat.le_of_ble_eq_true rfl))) kw_7_10 rfl (rv_nn (a := ad 32) (r := 1) (ok1 (t := 32) (Nat.le_of_ble_eq_true rfl)).1) dX10_weighOn_72 ?_
    refine q_bipush (v := 8) X dX10_weighOn_75 (by decide) ?_
    refine q_dup2 X dX10_weighOn_77 rfl rfl ?_
    refine q_iald (t := 32) (i := 1) (jn := 8) (v := .int (m_10.1 32 1 8)) X hK rfl rfl (gm (t := 32) (by decide) (ok1 (t := 32) (Nat.le_of_ble_eq_true rfl))) rfl (vpl (by decide +kernel)) (by decide +kernel) rfl dX10_weighOn_78 ?_
    refine q_iload_n (j := 3) X dX10_weighOn_79 rfl rfl ?_
    refine q_iadd X dX10_weighOn_80 ?_
    refine q_iast (t := 32) (i := 1) (jn := 8) X ax hK rfl rfl (gm (t := 32) (by decide) (ok1 (t := 32) (Nat.le_of_ble_eq_true rfl))) rfl (vpl (by decide +kernel)) (by decide +kernel) rfl dX10_weighOn_81 ?_
    refine q_nmP (fun m_11 em_11 => ?_)
    have h := h m_11 em_11
    refine q_aload_n (j := 1) X dX10_weighOn_82 rfl rfl ?_
    refine q_aload_n (j := 1) X dX10_weighOn_83 rfl rfl ?_
    refine q_iload_n (j := 2) X dX10_weighOn_84 rfl rfl ?_
    refine q_iconst (v := 1) X dX10_weighOn_85 (by decide) ?_
    refine q_calli (q_runV X hK hZ zo (gm (t := 30) (by decide) (ok1 (t := 30) (Nat.le_of_ble_eq_true rfl))) rfl rfl [.int p0, .int 1] [.ref (ad 30 1)] rfl rfl (Nat.le_of_ble_eq_true rfl) dX10_weighOn_86 ⟨Nat.le_of_ble_eq_true rfl, Nat.le_of_ble_eq_true rfl⟩ (c_X10_of ax p0 1 m_11 _ h) rfl rfl (gV kw_7_95 kw_7_97 ks_88 kw_1_11 kw_7_98) hy_X10_of ⟨Nat.le_of_ble_eq_true rfl, Nat.le_of_ble_eq_true rfl⟩) (fun r_12 m_13 h => ?_)
    obtain ⟨h, hm⟩ := h
    subst hm
    refine q_iconst (v := 3) X dX10_weighOn_89 (by decide) ?_
    refine q_iload (j := 5) X dX10_weighOn_90 rfl ?_
    refine q_iload (j := 4) X dX10_weighOn_92 rfl ?_
    refine q_isub X dX10_weighOn_94 ?_
    refine q_callv (q_runV X hK hZ zo (gm (t := 30) (by decide) (ok1 (t := 30) (Nat.le_of_ble_eq_true rfl))) rfl rfl [.int r_12, .int 3, .int (x_7 - r_3)] [] rfl rfl (Nat.le_of_ble_eq_true rfl) dX10_weighOn_95 ⟨Nat.le_of_ble_eq_true rfl, Nat.le_of_ble_eq_true rfl⟩ (c_X10_total ax r_12 3 (x_7 - r_3) m_11 _ h) rfl rfl (gV kw_7_141 kw_7_143 ks_98 kw_1_11 kw_7_144) hy_X10_total ⟨Nat.le_of_ble_eq_true rfl, Nat.le_of_ble_eq_true rfl⟩) (fun m_15 h => ?_)
    refine q_aload_n (j := 1) X dX10_weighOn_98 rfl rfl ?_
    refine q_aload_n (j := 1) X dX10_weighOn_99 rfl rfl ?_
    refine q_iload_n (j := 2) X dX10_weighOn_100 rfl rfl ?_
    refine q_iconst (v := 1) X dX10_weighOn_101 (by decide) ?_
    refine q_calli (q_runV X hK hZ zo (gm (t := 30) (by decide) (ok1 (t := 30) (Nat.le_of_ble_eq_true rfl))) rfl rfl [.int p0, .int 1] [.ref (ad 30 1)] rfl rfl (Nat.le_of_ble_eq_true rfl) dX10_weighOn_102 ⟨Nat.le_of_ble_eq_true rfl, Nat.le_of_ble_eq_true rfl⟩ (c_X10_of ax p0 1 m_15 _ h) rfl rfl (gV kw_7_95 kw_7_97 ks_88 kw_1_11 kw_7_98) hy_X10_of ⟨Nat.le_of_ble_eq_true rfl, Nat.le_of_ble_eq_true rfl⟩) (fun r_16 m_17 h => ?_)
    obtain ⟨h, hm⟩ := h
    subst hm
    refine q_iconst (v := 4) X dX10_weighOn_105 (by decide) ?_
    refine q_iload (j := 4) X dX10_weighOn_106 rfl ?_
    refine q_callv (q_runV X hK hZ zo (gm (t := 30) (by decide) (ok1 (t := 30) (Nat.le_of_ble_eq_true rfl))) rfl rfl [.int r_16, .int 4, .int r_3] [] rfl rfl (Nat.le_of_ble_eq_true rfl) dX10_weighOn_108 ⟨Nat.le_of_ble_eq_true rfl, Nat.le_of_ble_eq_true rfl⟩ (c_X10_total ax r_16 4 r_3 m_15 _ h) rfl rfl (gV kw_7_141 kw_7_143 ks_98 kw_1_11 kw_7_144) hy_X10_total ⟨Nat.le_of_ble_eq_true rfl, Nat.le_of_ble_eq_true rfl⟩) (fun m_19 h => ?_)
    refine q_aload_n (j := 1) X dX10_weighOn_111 rfl rfl ?_
    refine q_iload_n (j := 2) X dX10_weighOn_112 rfl rfl ?_
    refine q_bipush (v := 7) X dX10_weighOn_113 (by decide) ?_
    refine q_iconst (v := 1) X dX10_weighOn_115 (by decide) ?_
    refine q_callv (q_runV X hK hZ zo (gm (t := 30) (by decide) (ok1 (t := 30) (Nat.le_of_ble_eq_true rfl))) rfl rfl [.int p0, .int 7, .int 1] [] rfl rfl (Nat.le_of_ble_eq_true rfl) dX10_weighOn_116 ⟨Nat.le_of_ble_eq_true rfl, Nat.le_of_ble_eq_true rfl⟩ (c_X10_put ax p0 7 1 m_19 _ h) rfl rfl (gV kw_7_149 kw_7_151 ks_100 kw_1_11 kw_7_152) hy_X10_put ⟨Nat.le_of_ble_eq_true rfl, Nat.le_of_ble_eq_true rfl⟩) (fun m_21 h => ?_)
    refine q_aload_n (j := 1) X dX10_weighOn_119 rfl rfl ?_
    refine q_iload_n (j := 2) X dX10_weighOn_120 rfl rfl ?_
    refine q_bipush (v := 6) X dX10_weighOn_121 (by decide) ?_
    refine q_iconst (v := 0) X dX10_weighOn_123 (by decide) ?_
    refine q_callv (q_runV X hK hZ zo (gm (t := 30) (by decide) (ok1 (t := 30) (Nat.le_of_ble_eq_true rfl))) rfl rfl [.int p0, .int 6, .int 0] [] rfl rfl (Nat.le_of_ble_eq_true rfl) dX10_weighOn_124 ⟨Nat.le_of_ble_eq_true rfl, Nat.le_of_ble_eq_true rfl⟩ (c_X10_put ax p0 6 0 m_21 _ h) rfl rfl (gV kw_7_149 kw_7_151 ks_100 kw_1_11 kw_7_152) hy_X10_put ⟨Nat.le_of_ble_eq_true rfl, Nat.le_of_ble_eq_true rfl⟩) (fun m_23 h => ?_)
    refine q_aload_n (j := 1) X dX10_weighOn_127 rfl rfl ?_
    refine q_iload_n (j := 2) X dX10_weighOn_128 rfl rfl ?_
    refine q_iload (j := 5) X dX10_weighOn_129 rfl ?_
    refine q_callv (q_runV X hK hZ zo (gm (t := 30) (by decide) (ok1 (t := 30) (Nat.le_of_ble_eq_true rfl))) rfl rfl [.int p0, .int x_7] [] rfl rfl (Nat.le_of_ble_eq_true rfl) dX10_weighOn_131 ⟨Nat.le_of_ble_eq_true rfl, Nat.le_of_ble_eq_true rfl⟩ (c_X10_goes ax p0 x_7 m_23 _ h) rfl rfl (gV kw_7_177 kw_7_179 ks_106 kw_1_11 kw_7_180) hy_X10_goes ⟨Nat.le_of_ble_eq_true rfl, Nat.le_of_ble_eq_true rfl⟩) (fun m_25 h => ?_)
    refine q_iload_n (j := 3) X dX10_weighOn_134 rfl rfl ?_
    exact hE _ _ _ _ dX10_weighOn_135 h
  refine q_icmp_ge (tgt := 39) X dX10_weighOn_32 (by decide) (fun c_26 => ?_) (fun c_26 => ?_)
  · have h := h.1 c_26
    refine q_aload_n (j := 3) X dX10_weighOn_39 rfl rfl ?_
    refine q_get (k := 3) (v := .ref (ad 32 1)) X hK rfl rfl (Nat.le_of_ble_eq_true rfl) inTX10 (gm (t := 30) (by decide) (ok1 (t := 30) (Nat.le_of_ble_eq_true rfl))) kw_7_10 rfl (rv_nn (a := ad 32) (r := 1) (ok1 (t := 32) (Nat.le_of_ble_eq_true rfl)).1) dX10_weighOn_40 ?_
    refine q_iconst (v := 3) X dX10_weighOn_43 (by decide) ?_
    refine q_iald (t := 32) (i := 1) (jn := 3) (v := .int (mm.1 32 1 3)) X hK rfl rfl (gm (t := 32) (by decide) (ok1 (t := 32) (Nat.le_of_ble_eq_true rfl))) rfl (vpl (by decide +kernel)) (by decide +kernel) rfl dX10_weighOn_44 ?_
    refine q_sub [3, 4, 2, 1, 0] rfl ?_
    exact J45 (mm.1 32 1 3) h
  · have h := h.2 c_26
    refine q_iload_n (j := 2) X dX10_weighOn_35 rfl rfl ?_
    refine q_goto (tgt := 45) X dX10_weighOn_36 (by decide) ?_
    refine q_sub [3, 4, 2, 1, 0] rfl ?_
    exact J45 r_1 h
theorem dX10_lockOn_0 : decode cX10_lockOn 0 = .ok (.aload_n 0, 1) := by decide +kernel
theorem dX10_lockOn_1 : decode cX10_lockOn 1 = .ok (.getfield 13, 3) := by decide +kernel
theorem dX10_lockOn_4 : decode cX10_lockOn 4 = .ok (.iconst 2, 1) := by decide +kernel
theorem dX10_lockOn_5 : decode cX10_lockOn 5 = .ok (.dup2, 1) := by decide +kernel
theorem dX10_lockOn_6 : decode cX10_lockOn 6 = .ok (.iaload, 1) := by decide +kernel
theorem dX10_lockOn_7 : decode cX10_lockOn 7 = .ok (.iconst 1, 1) := by decide +kernel
theorem dX10_lockOn_8 : decode cX10_lockOn 8 = .ok (.iadd, 1) := by decide +kernel
theorem dX10_lockOn_9 : decode cX10_lockOn 9 = .ok (.iastore, 1) := by decide +kernel
theorem dX10_lockOn_10 : decode cX10_lockOn 10 = .ok (.aload_n 0, 1) := by decide +kernel
theorem dX10_lockOn_11 : decode cX10_lockOn 11 = .ok (.getfield 13, 3) := by decide +kernel
theorem dX10_lockOn_14 : decode cX10_lockOn 14 = .ok (.bipush 10, 2) := by decide +kernel
theorem dX10_lockOn_16 : decode cX10_lockOn 16 = .ok (.iload_n 1, 1) := by decide +kernel
theorem dX10_lockOn_17 : decode cX10_lockOn 17 = .ok (.iadd, 1) := by decide +kernel
theorem dX10_lockOn_18 : decode cX10_lockOn 18 = .ok (.aload_n 0, 1) := by decide +kernel
theorem dX10_lockOn_19 : decode cX10_lockOn 19 = .ok (.getfield 13, 3) := by decide +kernel
theorem dX10_lockOn_22 : decode cX10_lockOn 22 = .ok (.iconst 2, 1) := by decide +kernel
theorem dX10_lockOn_23 : decode cX10_lockOn 23 = .ok (.iaload, 1) := by decide +kernel
theorem dX10_lockOn_24 : decode cX10_lockOn 24 = .ok (.iastore, 1) := by decide +kernel
theorem dX10_lockOn_25 : decode cX10_lockOn 25 = .ok (.aload_n 0, 1) := by decide +kernel
theorem dX10_lockOn_26 : decode cX10_lockOn 26 = .ok (.getfield 13, 3) := by decide +kernel
theorem dX10_lockOn_29 : decode cX10_lockOn 29 = .ok (.bipush 15, 2) := by decide +kernel
theorem dX10_lockOn_31 : decode cX10_lockOn 31 = .ok (.iload_n 1, 1) := by decide +kernel
theorem dX10_lockOn_32 : decode cX10_lockOn 32 = .ok (.iadd, 1) := by decide +kernel
theorem dX10_lockOn_33 : decode cX10_lockOn 33 = .ok (.iconst 0, 1) := by decide +kernel
theorem dX10_lockOn_34 : decode cX10_lockOn 34 = .ok (.iastore, 1) := by decide +kernel
theorem dX10_lockOn_35 : decode cX10_lockOn 35 = .ok (.aload_n 0, 1) := by decide +kernel
theorem dX10_lockOn_36 : decode cX10_lockOn 36 = .ok (.getfield 13, 3) := by decide +kernel
theorem dX10_lockOn_39 : decode cX10_lockOn 39 = .ok (.iconst 2, 1) := by decide +kernel
theorem dX10_lockOn_40 : decode cX10_lockOn 40 = .ok (.iaload, 1) := by decide +kernel
theorem dX10_lockOn_41 : decode cX10_lockOn 41 = .ok (.ireturn, 1) := by decide +kernel
def w_X10_lockOn (p0 : Int32) (mm : Mm) (Q9 : Int32 → Mm → Prop) : Prop :=
  ∀ m_1 : Mm, m_1 = sI mm 32 1 2 ((mm.1 32 1 2) + 1) → (vp_in (10 + p0) 246 ∧ ∀ m_3 : Mm, m_3 = sI m_1 32 1 (10 + p0).toNatClampNeg (m_1.1 32 1 2) → (vp_in (15 + p0) 246 ∧ ∀ m_5 : Mm, m_5 = sI m_3 32 1 (15 + p0).toNatClampNeg 0 → (Q9 (m_5.1 32 1 2) m_5)))
def rm_X10_lockOn : Room := { frames := 0, cells := 0, slots := 0, locals := 0 }
theorem hy_X10_lockOn : yX10_lockOn.cls = RX10 ∧ yX10_lockOn.cls ≠ "java/lang/invoke/MethodHandle" ∧ yX10_lockOn.cls ≠ "java/lang/invoke/VarHandle" ∧ (parseMethodDescriptor yX10_lockOn.desc).map (fun d => d.parameters.length) = some 1 := by decide +kernel
set_option maxRecDepth 100000 in
set_option maxHeartbeats 4000000 in
theorem c_X10_lockOn {l : Launch} {D : va_G} {cA : Nat → ClassId} {ad : Nat → Nat → Nat} {A : Nat → Prop} (ax : Ax ad GM A) (p0 : Int32) (mm : Mm) (Q9 : Int32 → Mm → Prop) (h : w_X10_lockOn p0 mm Q9) : Met l yX10_lockOn (.code yX10_lockOn cX10_lockOn 2 (some .int) :: TG) rm_X10_lockOn (PcM TT D cA ad false GM (ZM) [.ref (ad 30 1), .int p0] mm) (AnsI TT D cA ad false GM A Q9) 0 0 A := by
  have zo := ZM_ok A
  unfold w_X10_lockOn at h
  refine enterI pl_X10 ⟨rfl, rfl⟩ rfl (Nat.le_of_ble_eq_true rfl) ?_
  intro p e s m args below meth c QQ X hK hZ hnm hE
  refine q_aload_n (j := 0) X dX10_lockOn_0 rfl rfl ?_
  refine q_get (k := 3) (v := .ref (ad 32 1)) X hK rfl rfl (Nat.le_of_ble_eq_true rfl) inTX10 (gm (t := 30) (by decide) (ok1 (t := 30) (Nat.le_of_ble_eq_true rfl))) kw_7_10 rfl (rv_nn (a := ad 32) (r := 1) (ok1 (t := 32) (Nat.le_of_ble_eq_true rfl)).1) dX10_lockOn_1 ?_
  refine q_iconst (v := 2) X dX10_lockOn_4 (by decide) ?_
  refine q_dup2 X dX10_lockOn_5 rfl rfl ?_
  refine q_iald (t := 32) (i := 1) (jn := 2) (v := .int (mm.1 32 1 2)) X hK rfl rfl (gm (t := 32) (by decide) (ok1 (t := 32) (Nat.le_of_ble_eq_true rfl))) rfl (vpl (by decide +kernel)) (by decide +kernel) rfl dX10_lockOn_6 ?_
  refine q_iconst (v := 1) X dX10_lockOn_7 (by decide) ?_
  refine q_iadd X dX10_lockOn_8 ?_
  refine q_iast (t := 32) (i := 1) (jn := 2) X ax hK rfl rfl (gm (t := 32) (by decide) (ok1 (t := 32) (Nat.le_of_ble_eq_true rfl))) rfl (vpl (by decide +kernel)) (by decide +kernel) rfl dX10_lockOn_9 ?_
  refine q_nmP (fun m_1 em_1 => ?_)
  have h := h m_1 em_1
  refine q_aload_n (j := 0) X dX10_lockOn_10 rfl rfl ?_
  refine q_get (k := 3) (v := .ref (ad 32 1)) X hK rfl rfl (Nat.le_of_ble_eq_true rfl) inTX10 (gm (t := 30) (by decide) (ok1 (t := 30) (Nat.le_of_ble_eq_true rfl))) kw_7_10 rfl (rv_nn (a := ad 32) (r := 1) (ok1 (t := 32) (Nat.le_of_ble_eq_true rfl)).1) dX10_lockOn_11 ?_
  refine q_bipush (v := 10) X dX10_lockOn_14 (by decide) ?_
  refine q_iload_n (j := 1) X dX10_lockOn_16 rfl rfl ?_
  refine q_iadd X dX10_lockOn_17 ?_
  refine q_aload_n (j := 0) X dX10_lockOn_18 rfl rfl ?_
  refine q_get (k := 3) (v := .ref (ad 32 1)) X hK rfl rfl (Nat.le_of_ble_eq_true rfl) inTX10 (gm (t := 30) (by decide) (ok1 (t := 30) (Nat.le_of_ble_eq_true rfl))) kw_7_10 rfl (rv_nn (a := ad 32) (r := 1) (ok1 (t := 32) (Nat.le_of_ble_eq_true rfl)).1) dX10_lockOn_19 ?_
  refine q_iconst (v := 2) X dX10_lockOn_22 (by decide) ?_
  refine q_iald (t := 32) (i := 1) (jn := 2) (v := .int (m_1.1 32 1 2)) X hK rfl rfl (gm (t := 32) (by decide) (ok1 (t := 32) (Nat.le_of_ble_eq_true rfl))) rfl (vpl (by decide +kernel)) (by decide +kernel) rfl dX10_lockOn_23 ?_
  obtain ⟨b_2, h⟩ := h
  refine q_iast (t := 32) (i := 1) (jn := (10 + p0).toNatClampNeg) X ax hK rfl rfl (gm (t := 32) (by decide) (ok1 (t := 32) (Nat.le_of_ble_eq_true rfl))) rfl b_2 rfl rfl dX10_lockOn_24 ?_
  refine q_nmP (fun m_3 em_3 => ?_)
  have h := h m_3 em_3
  refine q_aload_n (j := 0) X dX10_lockOn_25 rfl rfl ?_
  refine q_get (k := 3) (v := .ref (ad 32 1)) X hK rfl rfl (Nat.le_of_ble_eq_true rfl) inTX10 (gm (t := 30) (by decide) (ok1 (t := 30) (Nat.le_of_ble_eq_true rfl))) kw_7_10 rfl (rv_nn (a := ad 32) (r := 1) (ok1 (t := 32) (Nat.le_of_ble_eq_true rfl)).1) dX10_lockOn_26 ?_
  refine q_bipush (v := 15) X dX10_lockOn_29 (by decide) ?_
  refine q_iload_n (j := 1) X dX10_lockOn_31 rfl rfl ?_
  refine q_iadd X dX10_lockOn_32 ?_
  refine q_iconst (v := 0) X dX10_lockOn_33 (by decide) ?_
  obtain ⟨b_4, h⟩ := h
  refine q_iast (t := 32) (i := 1) (jn := (15 + p0).toNatClampNeg) X ax hK rfl rfl (gm (t := 32) (by decide) (ok1 (t := 32) (Nat.le_of_ble_eq_true rfl))) rfl b_4 rfl rfl dX10_lockOn_34 ?_
  refine q_nmP (fun m_5 em_5 => ?_)
  have h := h m_5 em_5
  refine q_aload_n (j := 0) X dX10_lockOn_35 rfl rfl ?_
  refine q_get (k := 3) (v := .ref (ad 32 1)) X hK rfl rfl (Nat.le_of_ble_eq_true rfl) inTX10 (gm (t := 30) (by decide) (ok1 (t := 30) (Nat.le_of_ble_eq_true rfl))) kw_7_10 rfl (rv_nn (a := ad 32) (r := 1) (ok1 (t := 32) (Nat.le_of_ble_eq_true rfl)).1) dX10_lockOn_36 ?_
  refine q_iconst (v := 2) X dX10_lockOn_39 (by decide) ?_
  refine q_iald (t := 32) (i := 1) (jn := 2) (v := .int (m_5.1 32 1 2)) X hK rfl rfl (gm (t := 32) (by decide) (ok1 (t := 32) (Nat.le_of_ble_eq_true rfl))) rfl (vpl (by decide +kernel)) (by decide +kernel) rfl dX10_lockOn_40 ?_
  exact hE _ _ _ _ dX10_lockOn_41 h
theorem dX10_openOn_0 : decode cX10_openOn 0 = .ok (.aload_n 0, 1) := by decide +kernel
theorem dX10_openOn_1 : decode cX10_openOn 1 = .ok (.getfield 13, 3) := by decide +kernel
theorem dX10_openOn_4 : decode cX10_openOn 4 = .ok (.bipush 15, 2) := by decide +kernel
theorem dX10_openOn_6 : decode cX10_openOn 6 = .ok (.iload_n 1, 1) := by decide +kernel
theorem dX10_openOn_7 : decode cX10_openOn 7 = .ok (.iadd, 1) := by decide +kernel
theorem dX10_openOn_8 : decode cX10_openOn 8 = .ok (.iaload, 1) := by decide +kernel
theorem dX10_openOn_9 : decode cX10_openOn 9 = .ok (.iconst 1, 1) := by decide +kernel
theorem dX10_openOn_10 : decode cX10_openOn 10 = .ok (.if_icmp .ne 7, 3) := by decide +kernel
theorem dX10_openOn_13 : decode cX10_openOn 13 = .ok (.iconst 1, 1) := by decide +kernel
theorem dX10_openOn_14 : decode cX10_openOn 14 = .ok (.goto 4, 3) := by decide +kernel
theorem dX10_openOn_17 : decode cX10_openOn 17 = .ok (.iconst 0, 1) := by decide +kernel
theorem dX10_openOn_18 : decode cX10_openOn 18 = .ok (.istore_n 2, 1) := by decide +kernel
theorem dX10_openOn_19 : decode cX10_openOn 19 = .ok (.aload_n 0, 1) := by decide +kernel
theorem dX10_openOn_20 : decode cX10_openOn 20 = .ok (.getfield 13, 3) := by decide +kernel
theorem dX10_openOn_23 : decode cX10_openOn 23 = .ok (.bipush 10, 2) := by decide +kernel
theorem dX10_openOn_25 : decode cX10_openOn 25 = .ok (.iload_n 1, 1) := by decide +kernel
theorem dX10_openOn_26 : decode cX10_openOn 26 = .ok (.iadd, 1) := by decide +kernel
theorem dX10_openOn_27 : decode cX10_openOn 27 = .ok (.iconst 0, 1) := by decide +kernel
theorem dX10_openOn_28 : decode cX10_openOn 28 = .ok (.iastore, 1) := by decide +kernel
theorem dX10_openOn_29 : decode cX10_openOn 29 = .ok (.aload_n 0, 1) := by decide +kernel
theorem dX10_openOn_30 : decode cX10_openOn 30 = .ok (.getfield 13, 3) := by decide +kernel
theorem dX10_openOn_33 : decode cX10_openOn 33 = .ok (.bipush 15, 2) := by decide +kernel
theorem dX10_openOn_35 : decode cX10_openOn 35 = .ok (.iload_n 1, 1) := by decide +kernel
theorem dX10_openOn_36 : decode cX10_openOn 36 = .ok (.iadd, 1) := by decide +kernel
theorem dX10_openOn_37 : decode cX10_openOn 37 = .ok (.iconst 0, 1) := by decide +kernel
theorem dX10_openOn_38 : decode cX10_openOn 38 = .ok (.iastore, 1) := by decide +kernel
theorem dX10_openOn_39 : decode cX10_openOn 39 = .ok (.iconst 0, 1) := by decide +kernel
theorem dX10_openOn_40 : decode cX10_openOn 40 = .ok (.istore_n 3, 1) := by decide +kernel
theorem dX10_openOn_41 : decode cX10_openOn 41 = .ok (.iconst 0, 1) := by decide +kernel
theorem dX10_openOn_42 : decode cX10_openOn 42 = .ok (.istore 4, 2) := by decide +kernel
theorem dX10_openOn_44 : decode cX10_openOn 44 = .ok (.iload 4, 2) := by decide +kernel
theorem dX10_openOn_46 : decode cX10_openOn 46 = .ok (.aload_n 0, 1) := by decide +kernel
theorem dX10_openOn_47 : decode cX10_openOn 47 = .ok (.getfield 13, 3) := by decide +kernel
theorem dX10_openOn_50 : decode cX10_openOn 50 = .ok (.bipush 117, 2) := by decide +kernel
theorem dX10_openOn_52 : decode cX10_openOn 52 = .ok (.iaload, 1) := by decide +kernel
theorem dX10_openOn_53 : decode cX10_openOn 53 = .ok (.if_icmp .ge 57, 3) := by decide +kernel
theorem dX10_openOn_56 : decode cX10_openOn 56 = .ok (.aload_n 0, 1) := by decide +kernel
theorem dX10_openOn_57 : decode cX10_openOn 57 = .ok (.iload 4, 2) := by decide +kernel
theorem dX10_openOn_59 : decode cX10_openOn 59 = .ok (.iconst 4, 1) := by decide +kernel
theorem dX10_openOn_60 : decode cX10_openOn 60 = .ok (.invokevirtual 41, 3) := by decide +kernel
theorem dX10_openOn_63 : decode cX10_openOn 63 = .ok (.iload_n 1, 1) := by decide +kernel
theorem dX10_openOn_64 : decode cX10_openOn 64 = .ok (.if_icmp .ne 40, 3) := by decide +kernel
theorem dX10_openOn_67 : decode cX10_openOn 67 = .ok (.aload_n 0, 1) := by decide +kernel
theorem dX10_openOn_68 : decode cX10_openOn 68 = .ok (.iload 4, 2) := by decide +kernel
theorem dX10_openOn_70 : decode cX10_openOn 70 = .ok (.bipush 7, 2) := by decide +kernel
theorem dX10_openOn_72 : decode cX10_openOn 72 = .ok (.iload_n 2, 1) := by decide +kernel
theorem dX10_openOn_73 : decode cX10_openOn 73 = .ok (.ifCond .eq 7, 3) := by decide +kernel
theorem dX10_openOn_76 : decode cX10_openOn 76 = .ok (.iconst 0, 1) := by decide +kernel
theorem dX10_openOn_77 : decode cX10_openOn 77 = .ok (.goto 11, 3) := by decide +kernel
theorem dX10_openOn_80 : decode cX10_openOn 80 = .ok (.aload_n 0, 1) := by decide +kernel
theorem dX10_openOn_81 : decode cX10_openOn 81 = .ok (.iload 4, 2) := by decide +kernel
theorem dX10_openOn_83 : decode cX10_openOn 83 = .ok (.bipush 7, 2) := by decide +kernel
theorem dX10_openOn_85 : decode cX10_openOn 85 = .ok (.invokevirtual 41, 3) := by decide +kernel
theorem dX10_openOn_88 : decode cX10_openOn 88 = .ok (.invokevirtual 66, 3) := by decide +kernel
theorem dX10_openOn_91 : decode cX10_openOn 91 = .ok (.iload_n 3, 1) := by decide +kernel
theorem dX10_openOn_92 : decode cX10_openOn 92 = .ok (.iconst 1, 1) := by decide +kernel
theorem dX10_openOn_93 : decode cX10_openOn 93 = .ok (.aload_n 0, 1) := by decide +kernel
theorem dX10_openOn_94 : decode cX10_openOn 94 = .ok (.iload 4, 2) := by decide +kernel
theorem dX10_openOn_96 : decode cX10_openOn 96 = .ok (.bipush 7, 2) := by decide +kernel
theorem dX10_openOn_98 : decode cX10_openOn 98 = .ok (.invokevirtual 41, 3) := by decide +kernel
theorem dX10_openOn_101 : decode cX10_openOn 101 = .ok (.isub, 1) := by decide +kernel
theorem dX10_openOn_102 : decode cX10_openOn 102 = .ok (.iadd, 1) := by decide +kernel
theorem dX10_openOn_103 : decode cX10_openOn 103 = .ok (.istore_n 3, 1) := by decide +kernel
theorem dX10_openOn_104 : decode cX10_openOn 104 = .ok (.iinc 4 1, 3) := by decide +kernel
theorem dX10_openOn_107 : decode cX10_openOn 107 = .ok (.goto (-63), 3) := by decide +kernel
theorem dX10_openOn_110 : decode cX10_openOn 110 = .ok (.iload_n 3, 1) := by decide +kernel
theorem dX10_openOn_111 : decode cX10_openOn 111 = .ok (.ireturn, 1) := by decide +kernel
def w_X10_openOn_J88 (y_6 : Int32) (y_7 : Int32) (m_8 : Mm) (K_9 : Int32 → Int32 → Mm → Prop) (y_16 : Int32) : Prop :=
  w_X10_put y_7 7 y_16 m_8 (fun (m_18 : Mm) => w_X10_of y_7 7 m_18 (fun (r_19 : Int32) => ∀ x_21 : Int32, x_21 = (y_6 + (1 - r_19)) → (∀ x_22 : Int32, x_22 = y_7 + 1 → (K_9 x_21 x_22 m_18))))
def w_X10_openOn_B44 (p0 : Int32) (Q9 : Int32 → Mm → Prop) (y_2 : Int32) (K_9 : Int32 → Int32 → Mm → Prop) (y_6 : Int32) (y_7 : Int32) (m_8 : Mm) : Prop :=
  (((m_8.1 32 1 117) ≤ y_7 → Q9 y_6 m_8) ∧
  (¬ (m_8.1 32 1 117) ≤ y_7 → w_X10_of y_7 4 m_8 (fun (r_12 : Int32) => ((¬ r_12 = p0 → ∀ x_15 : Int32, x_15 = y_7 + 1 → (K_9 y_6 x_15 m_8)) ∧
  (r_12 = p0 → ((y_2 = 0 → w_X10_of y_7 7 m_8 (fun (r_24 : Int32) => w_X10_openOn_J88 y_6 y_7 m_8 K_9 r_24)) ∧
  (¬ y_2 = 0 → w_X10_openOn_J88 y_6 y_7 m_8 K_9 0)))))))
def w_X10_openOn_J18 (p0 : Int32) (mm : Mm) (Q9 : Int32 → Mm → Prop) (y_2 : Int32) : Prop :=
  vp_in (10 + p0) 246 ∧ ∀ m_4 : Mm, m_4 = sI mm 32 1 (10 + p0).toNatClampNeg 0 → (∀ m_5 : Mm, m_5 = sI m_4 32 1 (15 + p0).toNatClampNeg 0 → (∃ n, itr (α := Int32 × Int32 × Mm) (fun K a => w_X10_openOn_B44 p0 Q9 y_2 (fun z0 z1 z2 => K (z0, z1, z2)) a.1 a.2.1 a.2.2) n (0, 0, m_5)))
def w_X10_openOn (p0 : Int32) (mm : Mm) (Q9 : Int32 → Mm → Prop) : Prop :=
  vp_in (15 + p0) 246 ∧ (((¬ (mm.1 32 1 (15 + p0).toNatClampNeg) = 1 → w_X10_openOn_J18 p0 mm Q9 0) ∧
  ((mm.1 32 1 (15 + p0).toNatClampNeg) = 1 → w_X10_openOn_J18 p0 mm Q9 1)))
def rm_X10_openOn : Room := { frames := 1, cells := 0, slots := 0, locals := 23 }
theorem hy_X10_openOn : yX10_openOn.cls = RX10 ∧ yX10_openOn.cls ≠ "java/lang/invoke/MethodHandle" ∧ yX10_openOn.cls ≠ "java/lang/invoke/VarHandle" ∧ (parseMethodDescriptor yX10_openOn.desc).map (fun d => d.parameters.length) = some 1 := by decide +kernel
set_option maxRecDepth 100000 in
set_option maxHeartbeats 4000000 in
theorem c_X10_openOn {l : Launch} {D : va_G} {cA : Nat → ClassId} {ad : Nat → Nat → Nat} {A : Nat → Prop} (ax : Ax ad GM A) (p0 : Int32) (mm : Mm) (Q9 : Int32 → Mm → Prop) (h : w_X10_openOn p0 mm Q9) : Met l yX10_openOn (.code yX10_openOn cX10_openOn 5 (some .int) :: TG) rm_X10_openOn (PcM TT D cA ad false GM (ZM) [.ref (ad 30 1), .int p0] mm) (AnsI TT D cA ad false GM A Q9) 0 0 A := by
  have zo := ZM_ok A
  unfold w_X10_openOn at h
  refine enterI pl_X10 ⟨rfl, rfl⟩ rfl (Nat.le_of_ble_eq_true rfl) ?_
  intro p e s m args below meth c QQ X hK hZ hnm hE
  refine q_aload_n (j := 0) X dX10_openOn_0 rfl rfl ?_
  refine q_get (k := 3) (v := .ref (ad 32 1)) X hK rfl rfl (Nat.le_of_ble_eq_true rfl) inTX10 (gm (t := 30) (by decide) (ok1 (t := 30) (Nat.le_of_ble_eq_true rfl))) kw_7_10 rfl (rv_nn (a := ad 32) (r := 1) (ok1 (t := 32) (Nat.le_of_ble_eq_true rfl)).1) dX10_openOn_1 ?_
  refine q_bipush (v := 15) X dX10_openOn_4 (by decide) ?_
  refine q_iload_n (j := 1) X dX10_openOn_6 rfl rfl ?_
  refine q_iadd X dX10_openOn_7 ?_
  obtain ⟨b_1, h⟩ := h
  refine q_iald (t := 32) (i := 1) (jn := (15 + p0).toNatClampNeg) (v := .int (mm.1 32 1 (15 + p0).toNatClampNeg)) X hK rfl rfl (gm (t := 32) (by decide) (ok1 (t := 32) (Nat.le_of_ble_eq_true rfl))) rfl b_1 rfl rfl dX10_openOn_8 ?_
  refine q_iconst (v := 1) X dX10_openOn_9 (by decide) ?_
  have J18 : ∀ (y_2 : Int32), w_X10_openOn_J18 p0 mm Q9 y_2 → V p l e rm_X10_openOn s m args below meth c QQ 5 A 0 0 (Rep TT D cA ad false GM mm) 18 [(0, .ref (ad 30 1)), (1, .int p0)] [.int y_2] := by
    intro y_2 h
    unfold w_X10_openOn_J18 at h
    refine q_istore_n (lv' := [(2, .int y_2), (0, .ref (ad 30 1)), (1, .int p0)]) X dX10_openOn_18 rfl (by decide) rfl ?_
    refine q_aload_n (j := 1) X dX10_openOn_19 rfl rfl ?_
    refine q_get (k := 3) (v := .ref (ad 32 1)) X hK rfl rfl (Nat.le_of_ble_eq_true rfl) inTX10 (gm (t := 30) (by decide) (ok1 (t := 30) (Nat.le_of_ble_eq_true rfl))) kw_7_10 rfl (rv_nn (a := ad 32) (r := 1) (ok1 (t := 32) (Nat.le_of_ble_eq_true rfl)).1) dX10_openOn_20 ?_
    refine q_bipush (v := 10) X dX10_openOn_23 (by decide) ?_
    refine q_iload_n (j := 2) X dX10_openOn_25 rfl rfl ?_
    refine q_iadd X dX10_openOn_26 ?_
    refine q_iconst (v := 0) X dX10_openOn_27 (by decide) ?_
    obtain ⟨b_3, h⟩ := h
    refine q_iast (t := 32) (i := 1) (jn := (10 + p0).toNatClampNeg) X ax hK rfl rfl (gm (t := 32) (by decide) (ok1 (t := 32) (Nat.le_of_ble_eq_true rfl))) rfl b_3 rfl rfl dX10_openOn_28 ?_
    refine q_nmP (fun m_4 em_4 => ?_)
    have h := h m_4 em_4
    refine q_aload_n (j := 1) X dX10_openOn_29 rfl rfl ?_
    refine q_get (k := 3) (v := .ref (ad 32 1)) X hK rfl rfl (Nat.le_of_ble_eq_true rfl) inTX10 (gm (t := 30) (by decide) (ok1 (t := 30) (Nat.le_of_ble_eq_true rfl))) kw_7_10 rfl (rv_nn (a := ad 32) (r := 1) (ok1 (t := 32) (Nat.le_of_ble_eq_true rfl)).1) dX10_openOn_30 ?_
    refine q_bipush (v := 15) X dX10_openOn_33 (by decide) ?_
    refine q_iload_n (j := 2) X dX10_openOn_35 rfl rfl ?_
    refine q_iadd X dX10_openOn_36 ?_
    refine q_iconst (v := 0) X dX10_openOn_37 (by decide) ?_
    refine q_iast (t := 32) (i := 1) (jn := (15 + p0).toNatClampNeg) X ax hK rfl rfl (gm (t := 32) (by decide) (ok1 (t := 32) (Nat.le_of_ble_eq_true rfl))) rfl b_1 rfl rfl dX10_openOn_38 ?_
    refine q_nmP (fun m_5 em_5 => ?_)
    have h := h m_5 em_5
    refine q_iconst (v := 0) X dX10_openOn_39 (by decide) ?_
    refine q_istore_n (lv' := [(3, .int 0), (2, .int y_2), (0, .ref (ad 30 1)), (1, .int p0)]) X dX10_openOn_40 rfl (by decide) rfl ?_
    refine q_iconst (v := 0) X dX10_openOn_41 (by decide) ?_
    refine q_istore (lv' := [(4, .int 0), (3, .int 0), (2, .int y_2), (0, .ref (ad 30 1)), (1, .int p0)]) X dX10_openOn_42 (by decide) rfl ?_
    refine q_sub [3, 4, 2, 1, 0] rfl ?_
    have L44 : ∀ (n : Nat) (y_6 : Int32) (y_7 : Int32) (m_8 : Mm), itr (α := Int32 × Int32 × Mm) (fun K a => w_X10_openOn_B44 p0 Q9 y_2 (fun z0 z1 z2 => K (z0, z1, z2)) a.1 a.2.1 a.2.2) n (y_6, y_7, m_8) → V p l e rm_X10_openOn s m args below meth c QQ 5 A 0 0 (Rep TT D cA ad false GM m_8) 44 [(0, .ref (ad 30 1)), (1, .int p0), (2, .int y_2), (3, .int y_6), (4, .int y_7)] [] := by
      intro n
      induction n with
      | zero => intro y_6 y_7 m_8 h; exact h.elim
      | succ n ih_10 =>
        intro y_6 y_7 m_8 h
        have h : w_X10_openOn_B44 p0 Q9 y_2 (fun z0 z1 z2 => itr (α := Int32 × Int32 × Mm) (fun K a => w_X10_openOn_B44 p0 Q9 y_2 (fun z0 z1 z2 => K (z0, z1, z2)) a.1 a.2.1 a.2.2) n (z0, z1, z2)) y_6 y_7 m_8 := h
        generalize hKe : (fun z0 z1 z2 => itr (α := Int32 × Int32 × Mm) (fun K a => w_X10_openOn_B44 p0 Q9 y_2 (fun z0 z1 z2 => K (z0, z1, z2)) a.1 a.2.1 a.2.2) n (z0, z1, z2)) = K_9 at h
        have ih_10k : ∀ (y_6 : Int32) (y_7 : Int32) (m_8 : Mm), K_9 y_6 y_7 m_8 → V p l e rm_X10_openOn s m args below meth c QQ 5 A 0 0 (Rep TT D cA ad false GM m_8) 44 [(0, .ref (ad 30 1)), (1, .int p0), (2, .int y_2), (3, .int y_6), (4, .int y_7)] [] := fun y_6 y_7 m_8 h => ih_10 y_6 y_7 m_8 (by rw [← hKe] at h; exact h)
        unfold w_X10_openOn_B44 at h
        refine q_iload (j := 4) X dX10_openOn_44 rfl ?_
        refine q_aload_n (j := 0) X dX10_openOn_46 rfl rfl ?_
        refine q_get (k := 3) (v := .ref (ad 32 1)) X hK rfl rfl (Nat.le_of_ble_eq_true rfl) inTX10 (gm (t := 30) (by decide) (ok1 (t := 30) (Nat.le_of_ble_eq_true rfl))) kw_7_10 rfl (rv_nn (a := ad 32) (r := 1) (ok1 (t := 32) (Nat.le_of_ble_eq_true rfl)).1) dX10_openOn_47 ?_
        refine q_bipush (v := 117) X dX10_openOn_50 (by decide) ?_
        refine q_iald (t := 32) (i := 1) (jn := 117) (v := .int (m_8.1 32 1 117)) X hK rfl rfl (gm (t := 32) (by decide) (ok1 (t := 32) (Nat.le_of_ble_eq_true rfl))) rfl (vpl (by decide +kernel)) (by decide +kernel) rfl dX10_openOn_52 ?_
        refine q_icmp_ge (tgt := 110) X dX10_openOn_53 (by decide) (fun c_11 => ?_) (fun c_11 => ?_)
        · have h := h.1 c_11
          refine q_iload_n (j := 3) X dX10_openOn_110 rfl rfl ?_
          exact hE _ _ _ _ dX10_openOn_111 h
        · have h := h.2 c_11
          refine q_aload_n (j := 0) X dX10_openOn_56 rfl rfl ?_
          refine q_iload (j := 4) X dX10_openOn_57 rfl ?_
          refine q_iconst (v := 4) X dX10_openOn_59 (by decide) ?_
          refine q_calli (q_runV X hK hZ zo (gm (t := 30) (by decide) (ok1 (t := 30) (Nat.le_of_ble_eq_true rfl))) rfl rfl [.int y_7, .int 4] [] rfl rfl (Nat.le_of_ble_eq_true rfl) dX10_openOn_60 ⟨Nat.le_of_ble_eq_true rfl, Nat.le_of_ble_eq_true rfl⟩ (c_X10_of ax y_7 4 m_8 _ h) rfl rfl (gV kw_7_95 kw_7_97 ks_88 kw_1_11 kw_7_98) hy_X10_of ⟨Nat.le_of_ble_eq_true rfl, Nat.le_of_ble_eq_true rfl⟩) (fun r_12 m_13 h => ?_)
          obtain ⟨h, hm⟩ := h
          subst hm
          refine q_iload_n (j := 1) X dX10_openOn_63 rfl rfl ?_
          refine q_icmp_ne (tgt := 104) X dX10_openOn_64 (by decide) (fun c_14 => ?_) (fun c_14 => ?_)
          · have h := h.1 c_14
            obtain ⟨x_15, ex_15⟩ : ∃ z : Int32, z = y_7 + 1 := ⟨_, rfl⟩
            have h := h x_15 ex_15
            refine q_iinc (j := 4) (v := x_15) (lv' := [(4, .int x_15), (0, .ref (ad 30 1)), (1, .int p0), (2, .int y_2), (3, .int y_6)]) X dX10_openOn_104 rfl (by rw [ex_15]; rfl) (by decide) rfl ?_
            refine q_goto (tgt := 44) X dX10_openOn_107 (by decide) ?_
            refine q_sub [1, 2, 3, 4, 0] rfl ?_
            exact ih_10k y_6 x_15 m_8 h
          · have h := h.2 c_14
            refine q_aload_n (j := 0) X dX10_openOn_67 rfl rfl ?_
            refine q_iload (j := 4) X dX10_openOn_68 rfl ?_
            refine q_bipush (v := 7) X dX10_openOn_70 (by decide) ?_
            refine q_iload_n (j := 2) X dX10_openOn_72 rfl rfl ?_
            have J88 : ∀ (y_16 : Int32), w_X10_openOn_J88 y_6 y_7 m_8 K_9 y_16 → V p l e rm_X10_openOn s m args below meth c QQ 5 A 0 0 (Rep TT D cA ad false GM m_8) 88 [(0, .ref (ad 30 1)), (1, .int p0), (2, .int y_2), (3, .int y_6), (4, .int y_7)] [.int y_16, .int 7, .int y_7, .ref (ad 30 1)] := by
              intro y_16 h
              unfold w_X10_openOn_J88 at h
              refine q_callv (q_runV X hK hZ zo (gm (t := 30) (by decide) (ok1 (t := 30) (Nat.le_of_ble_eq_true rfl))) rfl rfl [.int y_7, .int 7, .int y_16] [] rfl rfl (Nat.le_of_ble_eq_true rfl) dX10_openOn_88 ⟨Nat.le_of_ble_eq_true rfl, Nat.le_of_ble_eq_true rfl⟩ (c_X10_put ax y_7 7 y_16 m_8 _ h) rfl rfl (gV kw_7_149 kw_7_151 ks_100 kw_1_11 kw_7_152) hy_X10_put ⟨Nat.le_of_ble_eq_true rfl, Nat.le_of_ble_eq_true rfl⟩) (fun m_18 h => ?_)
              refine q_iload_n (j := 3) X dX10_openOn_91 rfl rfl ?_
              refine q_iconst (v := 1) X dX10_openOn_92 (by decide) ?_
              refine q_aload_n (j := 0) X dX10_openOn_93 rfl rfl ?_
              refine q_iload (j := 4) X dX10_openOn_94 rfl ?_
              refine q_bipush (v := 7) X dX10_openOn_96 (by decide) ?_
              refine q_calli (q_runV X hK hZ zo (gm (t := 30) (by decide) (ok1 (t := 30) (Nat.le_of_ble_eq_true rfl))) rfl rfl [.int y_7, .int 7] [.int 1, .int y_6] rfl rfl (Nat.le_of_ble_eq_true rfl) dX10_openOn_98 ⟨Nat.le_of_ble_eq_true rfl, Nat.le_of_ble_eq_true rfl⟩ (c_X10_of ax y_7 7 m_18 _ h) rfl rfl (gV kw_7_95 kw_7_97 ks_88 kw_1_11 kw_7_98) hy_X10_of ⟨Nat.le_of_ble_eq_true rfl, Nat.le_of_ble_eq_true rfl⟩) (fun r_19 m_20 h => ?_)
              obtain ⟨h, hm⟩ := h
              subst hm
              refine q_isub X dX10_openOn_101 ?_
              refine q_iadd X dX10_openOn_102 ?_
              refine q_topi (fun x_21 ex_21 => ?_)
              have h := h x_21 ex_21
              refine q_istore_n (lv' := [(3, .int x_21), (0, .ref (ad 30 1)), (1, .int p0), (2, .int y_2), (4, .int y_7)]) X dX10_openOn_103 rfl (by decide) rfl ?_
              obtain ⟨x_22, ex_22⟩ : ∃ z : Int32, z = y_7 + 1 := ⟨_, rfl⟩
              have h := h x_22 ex_22
              refine q_iinc (j := 4) (v := x_22) (lv' := [(4, .int x_22), (3, .int x_21), (0, .ref (ad 30 1)), (1, .int p0), (2, .int y_2)]) X dX10_openOn_104 rfl (by rw [ex_22]; rfl) (by decide) rfl ?_
              refine q_goto (tgt := 44) X dX10_openOn_107 (by decide) ?_
              refine q_sub [2, 3, 4, 1, 0] rfl ?_
              exact ih_10k x_21 x_22 m_18 h
            refine q_if_eq (tgt := 80) X dX10_openOn_73 (by decide) (fun c_23 => ?_) (fun c_23 => ?_)
            · have h := h.1 c_23
              refine q_aload_n (j := 0) X dX10_openOn_80 rfl rfl ?_
              refine q_iload (j := 4) X dX10_openOn_81 rfl ?_
              refine q_bipush (v := 7) X dX10_openOn_83 (by decide) ?_
              refine q_calli (q_runV X hK hZ zo (gm (t := 30) (by decide) (ok1 (t := 30) (Nat.le_of_ble_eq_true rfl))) rfl rfl [.int y_7, .int 7] [.int 7, .int y_7, .ref (ad 30 1)] rfl rfl (Nat.le_of_ble_eq_true rfl) dX10_openOn_85 ⟨Nat.le_of_ble_eq_true rfl, Nat.le_of_ble_eq_true rfl⟩ (c_X10_of ax y_7 7 m_8 _ h) rfl rfl (gV kw_7_95 kw_7_97 ks_88 kw_1_11 kw_7_98) hy_X10_of ⟨Nat.le_of_ble_eq_true rfl, Nat.le_of_ble_eq_true rfl⟩) (fun r_24 m_25 h => ?_)
              obtain ⟨h, hm⟩ := h
              subst hm
              refine q_sub [0, 1, 2, 3, 4] rfl ?_
              exact J88 r_24 h
            · have h := h.2 c_23
              refine q_iconst (v := 0) X dX10_openOn_76 (by decide) ?_
              refine q_goto (tgt := 88) X dX10_openOn_77 (by decide) ?_
              refine q_sub [0, 1, 2, 3, 4] rfl ?_
              exact J88 0 h
    obtain ⟨n_26, h⟩ := h
    exact L44 n_26 0 0 m_5 h
  refine q_icmp_ne (tgt := 17) X dX10_openOn_10 (by decide) (fun c_27 => ?_) (fun c_27 => ?_)
  · have h := h.1 c_27
    refine q_iconst (v := 0) X dX10_openOn_17 (by decide) ?_
    refine q_sub [0, 1] rfl ?_
    exact J18 0 h
  · have h := h.2 c_27
    refine q_iconst (v := 1) X dX10_openOn_13 (by decide) ?_
    refine q_goto (tgt := 18) X dX10_openOn_14 (by decide) ?_
    refine q_sub [0, 1] rfl ?_
    exact J18 1 h
theorem dX10_breakOn_0 : decode cX10_breakOn 0 = .ok (.aload_n 0, 1) := by decide +kernel
theorem dX10_breakOn_1 : decode cX10_breakOn 1 = .ok (.getfield 13, 3) := by decide +kernel
theorem dX10_breakOn_4 : decode cX10_breakOn 4 = .ok (.bipush 15, 2) := by decide +kernel
theorem dX10_breakOn_6 : decode cX10_breakOn 6 = .ok (.iload_n 1, 1) := by decide +kernel
theorem dX10_breakOn_7 : decode cX10_breakOn 7 = .ok (.iadd, 1) := by decide +kernel
theorem dX10_breakOn_8 : decode cX10_breakOn 8 = .ok (.iconst 1, 1) := by decide +kernel
theorem dX10_breakOn_9 : decode cX10_breakOn 9 = .ok (.iastore, 1) := by decide +kernel
theorem dX10_breakOn_10 : decode cX10_breakOn 10 = .ok (.aload_n 0, 1) := by decide +kernel
theorem dX10_breakOn_11 : decode cX10_breakOn 11 = .ok (.getfield 13, 3) := by decide +kernel
theorem dX10_breakOn_14 : decode cX10_breakOn 14 = .ok (.bipush 10, 2) := by decide +kernel
theorem dX10_breakOn_16 : decode cX10_breakOn 16 = .ok (.iload_n 1, 1) := by decide +kernel
theorem dX10_breakOn_17 : decode cX10_breakOn 17 = .ok (.iadd, 1) := by decide +kernel
theorem dX10_breakOn_18 : decode cX10_breakOn 18 = .ok (.iaload, 1) := by decide +kernel
theorem dX10_breakOn_19 : decode cX10_breakOn 19 = .ok (.ireturn, 1) := by decide +kernel
def w_X10_breakOn (p0 : Int32) (mm : Mm) (Q9 : Int32 → Mm → Prop) : Prop :=
  vp_in (15 + p0) 246 ∧ ∀ m_2 : Mm, m_2 = sI mm 32 1 (15 + p0).toNatClampNeg 1 → (vp_in (10 + p0) 246 ∧ (Q9 (m_2.1 32 1 (10 + p0).toNatClampNeg) m_2))
def rm_X10_breakOn : Room := { frames := 0, cells := 0, slots := 0, locals := 0 }
theorem hy_X10_breakOn : yX10_breakOn.cls = RX10 ∧ yX10_breakOn.cls ≠ "java/lang/invoke/MethodHandle" ∧ yX10_breakOn.cls ≠ "java/lang/invoke/VarHandle" ∧ (parseMethodDescriptor yX10_breakOn.desc).map (fun d => d.parameters.length) = some 1 := by decide +kernel
set_option maxRecDepth 100000 in
set_option maxHeartbeats 4000000 in
theorem c_X10_breakOn {l : Launch} {D : va_G} {cA : Nat → ClassId} {ad : Nat → Nat → Nat} {A : Nat → Prop} (ax : Ax ad GM A) (p0 : Int32) (mm : Mm) (Q9 : Int32 → Mm → Prop) (h : w_X10_breakOn p0 mm Q9) : Met l yX10_breakOn (.code yX10_breakOn cX10_breakOn 2 (some .int) :: TG) rm_X10_breakOn (PcM TT D cA ad false GM (ZM) [.ref (ad 30 1), .int p0] mm) (AnsI TT D cA ad false GM A Q9) 0 0 A := by
  have zo := ZM_ok A
  unfold w_X10_breakOn at h
  refine enterI pl_X10 ⟨rfl, rfl⟩ rfl (Nat.le_of_ble_eq_true rfl) ?_
  intro p e s m args below meth c QQ X hK hZ hnm hE
  refine q_aload_n (j := 0) X dX10_breakOn_0 rfl rfl ?_
  refine q_get (k := 3) (v := .ref (ad 32 1)) X hK rfl rfl (Nat.le_of_ble_eq_true rfl) inTX10 (gm (t := 30) (by decide) (ok1 (t := 30) (Nat.le_of_ble_eq_true rfl))) kw_7_10 rfl (rv_nn (a := ad 32) (r := 1) (ok1 (t := 32) (Nat.le_of_ble_eq_true rfl)).1) dX10_breakOn_1 ?_
  refine q_bipush (v := 15) X dX10_breakOn_4 (by decide) ?_
  refine q_iload_n (j := 1) X dX10_breakOn_6 rfl rfl ?_
  refine q_iadd X dX10_breakOn_7 ?_
  refine q_iconst (v := 1) X dX10_breakOn_8 (by decide) ?_
  obtain ⟨b_1, h⟩ := h
  refine q_iast (t := 32) (i := 1) (jn := (15 + p0).toNatClampNeg) X ax hK rfl rfl (gm (t := 32) (by decide) (ok1 (t := 32) (Nat.le_of_ble_eq_true rfl))) rfl b_1 rfl rfl dX10_breakOn_9 ?_
  refine q_nmP (fun m_2 em_2 => ?_)
  have h := h m_2 em_2
  refine q_aload_n (j := 0) X dX10_breakOn_10 rfl rfl ?_
  refine q_get (k := 3) (v := .ref (ad 32 1)) X hK rfl rfl (Nat.le_of_ble_eq_true rfl) inTX10 (gm (t := 30) (by decide) (ok1 (t := 30) (Nat.le_of_ble_eq_true rfl))) kw_7_10 rfl (rv_nn (a := ad 32) (r := 1) (ok1 (t := 32) (Nat.le_of_ble_eq_true rfl)).1) dX10_breakOn_11 ?_
  refine q_bipush (v := 10) X dX10_breakOn_14 (by decide) ?_
  refine q_iload_n (j := 1) X dX10_breakOn_16 rfl rfl ?_
  refine q_iadd X dX10_breakOn_17 ?_
  obtain ⟨b_3, h⟩ := h
  refine q_iald (t := 32) (i := 1) (jn := (10 + p0).toNatClampNeg) (v := .int (m_2.1 32 1 (10 + p0).toNatClampNeg)) X hK rfl rfl (gm (t := 32) (by decide) (ok1 (t := 32) (Nat.le_of_ble_eq_true rfl))) rfl b_3 rfl rfl dX10_breakOn_18 ?_
  exact hE _ _ _ _ dX10_breakOn_19 h
theorem dX10_canPay_0 : decode cX10_canPay 0 = .ok (.iload_n 1, 1) := by decide +kernel
theorem dX10_canPay_1 : decode cX10_canPay 1 = .ok (.aload_n 0, 1) := by decide +kernel
theorem dX10_canPay_2 : decode cX10_canPay 2 = .ok (.getfield 13, 3) := by decide +kernel
theorem dX10_canPay_5 : decode cX10_canPay 5 = .ok (.iconst 4, 1) := by decide +kernel
theorem dX10_canPay_6 : decode cX10_canPay 6 = .ok (.iaload, 1) := by decide +kernel
theorem dX10_canPay_7 : decode cX10_canPay 7 = .ok (.if_icmp .le 14, 3) := by decide +kernel
theorem dX10_canPay_10 : decode cX10_canPay 10 = .ok (.iload_n 1, 1) := by decide +kernel
theorem dX10_canPay_11 : decode cX10_canPay 11 = .ok (.aload_n 0, 1) := by decide +kernel
theorem dX10_canPay_12 : decode cX10_canPay 12 = .ok (.getfield 13, 3) := by decide +kernel
theorem dX10_canPay_15 : decode cX10_canPay 15 = .ok (.iconst 4, 1) := by decide +kernel
theorem dX10_canPay_16 : decode cX10_canPay 16 = .ok (.iaload, 1) := by decide +kernel
theorem dX10_canPay_17 : decode cX10_canPay 17 = .ok (.isub, 1) := by decide +kernel
theorem dX10_canPay_18 : decode cX10_canPay 18 = .ok (.goto 4, 3) := by decide +kernel
theorem dX10_canPay_21 : decode cX10_canPay 21 = .ok (.iconst 0, 1) := by decide +kernel
theorem dX10_canPay_22 : decode cX10_canPay 22 = .ok (.istore_n 2, 1) := by decide +kernel
theorem dX10_canPay_23 : decode cX10_canPay 23 = .ok (.aload_n 0, 1) := by decide +kernel
theorem dX10_canPay_24 : decode cX10_canPay 24 = .ok (.getfield 13, 3) := by decide +kernel
theorem dX10_canPay_27 : decode cX10_canPay 27 = .ok (.iconst 3, 1) := by decide +kernel
theorem dX10_canPay_28 : decode cX10_canPay 28 = .ok (.iaload, 1) := by decide +kernel
theorem dX10_canPay_29 : decode cX10_canPay 29 = .ok (.iload_n 2, 1) := by decide +kernel
theorem dX10_canPay_30 : decode cX10_canPay 30 = .ok (.iadd, 1) := by decide +kernel
theorem dX10_canPay_31 : decode cX10_canPay 31 = .ok (.ldc 109, 2) := by decide +kernel
theorem dX10_canPay_33 : decode cX10_canPay 33 = .ok (.if_icmp .gt 7, 3) := by decide +kernel
theorem dX10_canPay_36 : decode cX10_canPay 36 = .ok (.iconst 1, 1) := by decide +kernel
theorem dX10_canPay_37 : decode cX10_canPay 37 = .ok (.goto 4, 3) := by decide +kernel
theorem dX10_canPay_40 : decode cX10_canPay 40 = .ok (.iconst 0, 1) := by decide +kernel
theorem dX10_canPay_41 : decode cX10_canPay 41 = .ok (.ireturn, 1) := by decide +kernel
def w_X10_canPay_J22 (mm : Mm) (Q9 : Int32 → Prop) (y_1 : Int32) : Prop :=
  ((99999 < ((mm.1 32 1 3) + y_1) → Q9 0) ∧
  (¬ 99999 < ((mm.1 32 1 3) + y_1) → Q9 1))
def w_X10_canPay (p0 : Int32) (mm : Mm) (Q9 : Int32 → Prop) : Prop :=
  ((p0 ≤ (mm.1 32 1 4) → w_X10_canPay_J22 mm Q9 0) ∧
  (¬ p0 ≤ (mm.1 32 1 4) → w_X10_canPay_J22 mm Q9 (p0 - (mm.1 32 1 4))))
def rm_X10_canPay : Room := { frames := 0, cells := 0, slots := 0, locals := 0 }
theorem hy_X10_canPay : yX10_canPay.cls = RX10 ∧ yX10_canPay.cls ≠ "java/lang/invoke/MethodHandle" ∧ yX10_canPay.cls ≠ "java/lang/invoke/VarHandle" ∧ (parseMethodDescriptor yX10_canPay.desc).map (fun d => d.parameters.length) = some 1 := by decide +kernel
set_option maxRecDepth 100000 in
set_option maxHeartbeats 4000000 in
theorem c_X10_canPay {l : Launch} {D : va_G} {cA : Nat → ClassId} {ad : Nat → Nat → Nat} {A : Nat → Prop} (ax : Ax ad GM A) (p0 : Int32) (mm : Mm) (Q9 : Int32 → Prop) (h : w_X10_canPay p0 mm Q9) : Met l yX10_canPay (.code yX10_canPay cX10_canPay 3 (some .boolean) :: TG) rm_X10_canPay (PcM TT D cA ad false GM (ZM) [.ref (ad 30 1), .int p0] mm) (AnsI TT D cA ad false GM A (fun r mm' => Q9 r ∧ mm = mm')) 0 0 A := by
  have zo := ZM_ok A
  unfold w_X10_canPay at h
  refine enterZ pl_X10 ⟨rfl, rfl⟩ rfl (Nat.le_of_ble_eq_true rfl) ?_
  intro p e s m args below meth c QQ X hK hZ hnm hE
  refine q_iload_n (j := 1) X dX10_canPay_0 rfl rfl ?_
  refine q_aload_n (j := 0) X dX10_canPay_1 rfl rfl ?_
  refine q_get (k := 3) (v := .ref (ad 32 1)) X hK rfl rfl (Nat.le_of_ble_eq_true rfl) inTX10 (gm (t := 30) (by decide) (ok1 (t := 30) (Nat.le_of_ble_eq_true rfl))) kw_7_10 rfl (rv_nn (a := ad 32) (r := 1) (ok1 (t := 32) (Nat.le_of_ble_eq_true rfl)).1) dX10_canPay_2 ?_
  refine q_iconst (v := 4) X dX10_canPay_5 (by decide) ?_
  refine q_iald (t := 32) (i := 1) (jn := 4) (v := .int (mm.1 32 1 4)) X hK rfl rfl (gm (t := 32) (by decide) (ok1 (t := 32) (Nat.le_of_ble_eq_true rfl))) rfl (vpl (by decide +kernel)) (by decide +kernel) rfl dX10_canPay_6 ?_
  have J22 : ∀ (y_1 : Int32), w_X10_canPay_J22 mm Q9 y_1 → V p l e rm_X10_canPay s m args below meth c QQ 3 A 0 0 (Rep TT D cA ad false GM mm) 22 [(0, .ref (ad 30 1))] [.int y_1] := by
    intro y_1 h
    unfold w_X10_canPay_J22 at h
    refine q_istore_n (lv' := [(2, .int y_1), (0, .ref (ad 30 1))]) X dX10_canPay_22 rfl (by decide) rfl ?_
    refine q_aload_n (j := 1) X dX10_canPay_23 rfl rfl ?_
    refine q_get (k := 3) (v := .ref (ad 32 1)) X hK rfl rfl (Nat.le_of_ble_eq_true rfl) inTX10 (gm (t := 30) (by decide) (ok1 (t := 30) (Nat.le_of_ble_eq_true rfl))) kw_7_10 rfl (rv_nn (a := ad 32) (r := 1) (ok1 (t := 32) (Nat.le_of_ble_eq_true rfl)).1) dX10_canPay_24 ?_
    refine q_iconst (v := 3) X dX10_canPay_27 (by decide) ?_
    refine q_iald (t := 32) (i := 1) (jn := 3) (v := .int (mm.1 32 1 3)) X hK rfl rfl (gm (t := 32) (by decide) (ok1 (t := 32) (Nat.le_of_ble_eq_true rfl))) rfl (vpl (by decide +kernel)) (by decide +kernel) rfl dX10_canPay_28 ?_
    refine q_iload_n (j := 0) X dX10_canPay_29 rfl rfl ?_
    refine q_iadd X dX10_canPay_30 ?_
    refine q_ldc (v := 99999) X kw_8_65 dX10_canPay_31 ?_
    refine q_icmp_gt (tgt := 40) X dX10_canPay_33 (by decide) (fun c_2 => ?_) (fun c_2 => ?_)
    · have h := h.1 c_2
      refine q_iconst (v := 0) X dX10_canPay_40 (by decide) ?_
      exact hE _ _ _ _ dX10_canPay_41 (Or.inl rfl) ⟨h, rfl⟩
    · have h := h.2 c_2
      refine q_iconst (v := 1) X dX10_canPay_36 (by decide) ?_
      refine q_goto (tgt := 41) X dX10_canPay_37 (by decide) ?_
      exact hE _ _ _ _ dX10_canPay_41 (Or.inr rfl) ⟨h, rfl⟩
  refine q_icmp_le (tgt := 21) X dX10_canPay_7 (by decide) (fun c_3 => ?_) (fun c_3 => ?_)
  · have h := h.1 c_3
    refine q_iconst (v := 0) X dX10_canPay_21 (by decide) ?_
    refine q_sub [0] rfl ?_
    exact J22 0 h
  · have h := h.2 c_3
    refine q_iload_n (j := 1) X dX10_canPay_10 rfl rfl ?_
    refine q_aload_n (j := 0) X dX10_canPay_11 rfl rfl ?_
    refine q_get (k := 3) (v := .ref (ad 32 1)) X hK rfl rfl (Nat.le_of_ble_eq_true rfl) inTX10 (gm (t := 30) (by decide) (ok1 (t := 30) (Nat.le_of_ble_eq_true rfl))) kw_7_10 rfl (rv_nn (a := ad 32) (r := 1) (ok1 (t := 32) (Nat.le_of_ble_eq_true rfl)).1) dX10_canPay_12 ?_
    refine q_iconst (v := 4) X dX10_canPay_15 (by decide) ?_
    refine q_iald (t := 32) (i := 1) (jn := 4) (v := .int (mm.1 32 1 4)) X hK rfl rfl (gm (t := 32) (by decide) (ok1 (t := 32) (Nat.le_of_ble_eq_true rfl))) rfl (vpl (by decide +kernel)) (by decide +kernel) rfl dX10_canPay_16 ?_
    refine q_isub X dX10_canPay_17 ?_
    refine q_goto (tgt := 22) X dX10_canPay_18 (by decide) ?_
    refine q_sub [0] rfl ?_
    exact J22 (p0 - (mm.1 32 1 4)) h
theorem dX10_payOn_0 : decode cX10_payOn 0 = .ok (.iload_n 1, 1) := by decide +kernel
theorem dX10_payOn_1 : decode cX10_payOn 1 = .ok (.aload_n 0, 1) := by decide +kernel
theorem dX10_payOn_2 : decode cX10_payOn 2 = .ok (.getfield 13, 3) := by decide +kernel
theorem dX10_payOn_5 : decode cX10_payOn 5 = .ok (.iconst 4, 1) := by decide +kernel
theorem dX10_payOn_6 : decode cX10_payOn 6 = .ok (.iaload, 1) := by decide +kernel
theorem dX10_payOn_7 : decode cX10_payOn 7 = .ok (.if_icmp .ge 7, 3) := by decide +kernel
theorem dX10_payOn_10 : decode cX10_payOn 10 = .ok (.iload_n 1, 1) := by decide +kernel
theorem dX10_payOn_11 : decode cX10_payOn 11 = .ok (.goto 9, 3) := by decide +kernel
theorem dX10_payOn_14 : decode cX10_payOn 14 = .ok (.aload_n 0, 1) := by decide +kernel
theorem dX10_payOn_15 : decode cX10_payOn 15 = .ok (.getfield 13, 3) := by decide +kernel
theorem dX10_payOn_18 : decode cX10_payOn 18 = .ok (.iconst 4, 1) := by decide +kernel
theorem dX10_payOn_19 : decode cX10_payOn 19 = .ok (.iaload, 1) := by decide +kernel
theorem dX10_payOn_20 : decode cX10_payOn 20 = .ok (.istore_n 2, 1) := by decide +kernel
theorem dX10_payOn_21 : decode cX10_payOn 21 = .ok (.aload_n 0, 1) := by decide +kernel
theorem dX10_payOn_22 : decode cX10_payOn 22 = .ok (.getfield 13, 3) := by decide +kernel
theorem dX10_payOn_25 : decode cX10_payOn 25 = .ok (.iconst 4, 1) := by decide +kernel
theorem dX10_payOn_26 : decode cX10_payOn 26 = .ok (.dup2, 1) := by decide +kernel
theorem dX10_payOn_27 : decode cX10_payOn 27 = .ok (.iaload, 1) := by decide +kernel
theorem dX10_payOn_28 : decode cX10_payOn 28 = .ok (.iload_n 2, 1) := by decide +kernel
theorem dX10_payOn_29 : decode cX10_payOn 29 = .ok (.isub, 1) := by decide +kernel
theorem dX10_payOn_30 : decode cX10_payOn 30 = .ok (.iastore, 1) := by decide +kernel
theorem dX10_payOn_31 : decode cX10_payOn 31 = .ok (.aload_n 0, 1) := by decide +kernel
theorem dX10_payOn_32 : decode cX10_payOn 32 = .ok (.getfield 13, 3) := by decide +kernel
theorem dX10_payOn_35 : decode cX10_payOn 35 = .ok (.iconst 3, 1) := by decide +kernel
theorem dX10_payOn_36 : decode cX10_payOn 36 = .ok (.dup2, 1) := by decide +kernel
theorem dX10_payOn_37 : decode cX10_payOn 37 = .ok (.iaload, 1) := by decide +kernel
theorem dX10_payOn_38 : decode cX10_payOn 38 = .ok (.iload_n 1, 1) := by decide +kernel
theorem dX10_payOn_39 : decode cX10_payOn 39 = .ok (.iload_n 2, 1) := by decide +kernel
theorem dX10_payOn_40 : decode cX10_payOn 40 = .ok (.isub, 1) := by decide +kernel
theorem dX10_payOn_41 : decode cX10_payOn 41 = .ok (.iadd, 1) := by decide +kernel
theorem dX10_payOn_42 : decode cX10_payOn 42 = .ok (.iastore, 1) := by decide +kernel
theorem dX10_payOn_43 : decode cX10_payOn 43 = .ok (.aload_n 0, 1) := by decide +kernel
theorem dX10_payOn_44 : decode cX10_payOn 44 = .ok (.getfield 13, 3) := by decide +kernel
theorem dX10_payOn_47 : decode cX10_payOn 47 = .ok (.bipush 6, 2) := by decide +kernel
theorem dX10_payOn_49 : decode cX10_payOn 49 = .ok (.dup2, 1) := by decide +kernel
theorem dX10_payOn_50 : decode cX10_payOn 50 = .ok (.iaload, 1) := by decide +kernel
theorem dX10_payOn_51 : decode cX10_payOn 51 = .ok (.iload_n 1, 1) := by decide +kernel
theorem dX10_payOn_52 : decode cX10_payOn 52 = .ok (.iadd, 1) := by decide +kernel
theorem dX10_payOn_53 : decode cX10_payOn 53 = .ok (.iastore, 1) := by decide +kernel
theorem dX10_payOn_54 : decode cX10_payOn 54 = .ok (.aload_n 0, 1) := by decide +kernel
theorem dX10_payOn_55 : decode cX10_payOn 55 = .ok (.getfield 13, 3) := by decide +kernel
theorem dX10_payOn_58 : decode cX10_payOn 58 = .ok (.iconst 3, 1) := by decide +kernel
theorem dX10_payOn_59 : decode cX10_payOn 59 = .ok (.iaload, 1) := by decide +kernel
theorem dX10_payOn_60 : decode cX10_payOn 60 = .ok (.ireturn, 1) := by decide +kernel
def w_X10_payOn_J20 (p0 : Int32) (mm : Mm) (Q9 : Int32 → Mm → Prop) (y_1 : Int32) : Prop :=
  ∀ m_2 : Mm, m_2 = sI mm 32 1 4 ((mm.1 32 1 4) - y_1) → (∀ m_3 : Mm, m_3 = sI m_2 32 1 3 ((m_2.1 32 1 3) + (p0 - y_1)) → (∀ m_4 : Mm, m_4 = sI m_3 32 1 6 ((m_3.1 32 1 6) + p0) → (Q9 (m_4.1 32 1 3) m_4)))
def w_X10_payOn (p0 : Int32) (mm : Mm) (Q9 : Int32 → Mm → Prop) : Prop :=
  (((mm.1 32 1 4) ≤ p0 → w_X10_payOn_J20 p0 mm Q9 (mm.1 32 1 4)) ∧
  (¬ (mm.1 32 1 4) ≤ p0 → w_X10_payOn_J20 p0 mm Q9 p0))
def rm_X10_payOn : Room := { frames := 0, cells := 0, slots := 0, locals := 0 }
theorem hy_X10_payOn : yX10_payOn.cls = RX10 ∧ yX10_payOn.cls ≠ "java/lang/invoke/MethodHandle" ∧ yX10_payOn.cls ≠ "java/lang/invoke/VarHandle" ∧ (parseMethodDescriptor yX10_payOn.desc).map (fun d => d.parameters.length) = some 1 := by decide +kernel
set_option maxRecDepth 100000 in
set_option maxHeartbeats 4000000 in
theorem c_X10_payOn {l : Launch} {D : va_G} {cA : Nat → ClassId} {ad : Nat → Nat → Nat} {A : Nat → Prop} (ax : Ax ad GM A) (p0 : Int32) (mm : Mm) (Q9 : Int32 → Mm → Prop) (h : w_X10_payOn p0 mm Q9) : Met l yX10_payOn (.code yX10_payOn cX10_payOn 3 (some .int) :: TG) rm_X10_payOn (PcM TT D cA ad false GM (ZM) [.ref (ad 30 1), .int p0] mm) (AnsI TT D cA ad false GM A Q9) 0 0 A := by
  have zo := ZM_ok A
  unfold w_X10_payOn at h
  refine enterI pl_X10 ⟨rfl, rfl⟩ rfl (Nat.le_of_ble_eq_true rfl) ?_
  intro p e s m args below meth c QQ X hK hZ hnm hE
  refine q_iload_n (j := 1) X dX10_payOn_0 rfl rfl ?_
  refine q_aload_n (j := 0) X dX10_payOn_1 rfl rfl ?_
  refine q_get (k := 3) (v := .ref (ad 32 1)) X hK rfl rfl (Nat.le_of_ble_eq_true rfl) inTX10 (gm (t := 30) (by decide) (ok1 (t := 30) (Nat.le_of_ble_eq_true rfl))) kw_7_10 rfl (rv_nn (a := ad 32) (r := 1) (ok1 (t := 32) (Nat.le_of_ble_eq_true rfl)).1) dX10_payOn_2 ?_
  refine q_iconst (v := 4) X dX10_payOn_5 (by decide) ?_
  refine q_iald (t := 32) (i := 1) (jn := 4) (v := .int (mm.1 32 1 4)) X hK rfl rfl (gm (t := 32) (by decide) (ok1 (t := 32) (Nat.le_of_ble_eq_true rfl))) rfl (vpl (by decide +kernel)) (by decide +kernel) rfl dX10_payOn_6 ?_
  have J20 : ∀ (y_1 : Int32), w_X10_payOn_J20 p0 mm Q9 y_1 → V p l e rm_X10_payOn s m args below meth c QQ 3 A 0 0 (Rep TT D cA ad false GM mm) 20 [(0, .ref (ad 30 1)), (1, .int p0)] [.int y_1] := by
    intro y_1 h
    unfold w_X10_payOn_J20 at h
    refine q_istore_n (lv' := [(2, .int y_1), (0, .ref (ad 30 1)), (1, .int p0)]) X dX10_payOn_20 rfl (by decide) rfl ?_
    refine q_aload_n (j := 1) X dX10_payOn_21 rfl rfl ?_
    refine q_get (k := 3) (v := .ref (ad 32 1)) X hK rfl rfl (Nat.le_of_ble_eq_true rfl) inTX10 (gm (t := 30) (by decide) (ok1 (t := 30) (Nat.le_of_ble_eq_true rfl))) kw_7_10 rfl (rv_nn (a := ad 32) (r := 1) (ok1 (t := 32) (Nat.le_of_ble_eq_true rfl)).1) dX10_payOn_22 ?_
    refine q_iconst (v := 4) X dX10_payOn_25 (by decide) ?_
    refine q_dup2 X dX10_payOn_26 rfl rfl ?_
    refine q_iald (t := 32) (i := 1) (jn := 4) (v := .int (mm.1 32 1 4)) X hK rfl rfl (gm (t := 32) (by decide) (ok1 (t := 32) (Nat.le_of_ble_eq_true rfl))) rfl (vpl (by decide +kernel)) (by decide +kernel) rfl dX10_payOn_27 ?_
    refine q_iload_n (j := 0) X dX10_payOn_28 rfl rfl ?_
    refine q_isub X dX10_payOn_29 ?_
    refine q_iast (t := 32) (i := 1) (jn := 4) X ax hK rfl rfl (gm (t := 32) (by decide) (ok1 (t := 32) (Nat.le_of_ble_eq_true rfl))) rfl (vpl (by decide +kernel)) (by decide +kernel) rfl dX10_payOn_30 ?_
    refine q_nmP (fun m_2 em_2 => ?_)
    have h := h m_2 em_2
    refine q_aload_n (j := 1) X dX10_payOn_31 rfl rfl ?_
    refine q_get (k := 3) (v := .ref (ad 32 1)) X hK rfl rfl (Nat.le_of_ble_eq_true rfl) inTX10 (gm (t := 30) (by decide) (ok1 (t := 30) (Nat.le_of_ble_eq_true rfl))) kw_7_10 rfl (rv_nn (a := ad 32) (r := 1) (ok1 (t := 32) (Nat.le_of_ble_eq_true rfl)).1) dX10_payOn_32 ?_
    refine q_iconst (v := 3) X dX10_payOn_35 (by decide) ?_
    refine q_dup2 X dX10_payOn_36 rfl rfl ?_
    refine q_iald (t := 32) (i := 1) (jn := 3) (v := .int (m_2.1 32 1 3)) X hK rfl rfl (gm (t := 32) (by decide) (ok1 (t := 32) (Nat.le_of_ble_eq_true rfl))) rfl (vpl (by decide +kernel)) (by decide +kernel) rfl dX10_payOn_37 ?_
    refine q_iload_n (j := 2) X dX10_payOn_38 rfl rfl ?_
    refine q_iload_n (j := 0) X dX10_payOn_39 rfl rfl ?_
    refine q_isub X dX10_payOn_40 ?_
    refine q_iadd X dX10_payOn_41 ?_
    refine q_iast (t := 32) (i := 1) (jn := 3) X ax hK rfl rfl (gm (t := 32) (by decide) (ok1 (t := 32) (Nat.le_of_ble_eq_true rfl))) rfl (vpl (by decide +kernel)) (by decide +kernel) rfl dX10_payOn_42 ?_
    refine q_nmP (fun m_3 em_3 => ?_)
    have h := h m_3 em_3
    refine q_aload_n (j := 1) X dX10_payOn_43 rfl rfl ?_
    refine q_get (k := 3) (v := .ref (ad 32 1)) X hK rfl rfl (Nat.le_of_ble_eq_true rfl) inTX10 (gm (t := 30) (by decide) (ok1 (t := 30) (Nat.le_of_ble_eq_true rfl))) kw_7_10 rfl (rv_nn (a := ad 32) (r := 1) (ok1 (t := 32) (Nat.le_of_ble_eq_true rfl)).1) dX10_payOn_44 ?_
    refine q_bipush (v := 6) X dX10_payOn_47 (by decide) ?_
    refine q_dup2 X dX10_payOn_49 rfl rfl ?_
    refine q_iald (t := 32) (i := 1) (jn := 6) (v := .int (m_3.1 32 1 6)) X hK rfl rfl (gm (t := 32) (by decide) (ok1 (t := 32) (Nat.le_of_ble_eq_true rfl))) rfl (vpl (by decide +kernel)) (by decide +kernel) rfl dX10_payOn_50 ?_
    refine q_iload_n (j := 2) X dX10_payOn_51 rfl rfl ?_
    refine q_iadd X dX10_payOn_52 ?_
    refine q_iast (t := 32) (i := 1) (jn := 6) X ax hK rfl rfl (gm (t := 32) (by decide) (ok1 (t := 32) (Nat.le_of_ble_eq_true rfl))) rfl (vpl (by decide +kernel)) (by decide +kernel) rfl dX10_payOn_53 ?_
    refine q_nmP (fun m_4 em_4 => ?_)
    have h := h m_4 em_4
    refine q_aload_n (j := 1) X dX10_payOn_54 rfl rfl ?_
    refine q_get (k := 3) (v := .ref (ad 32 1)) X hK rfl rfl (Nat.le_of_ble_eq_true rfl) inTX10 (gm (t := 30) (by decide) (ok1 (t := 30) (Nat.le_of_ble_eq_true rfl))) kw_7_10 rfl (rv_nn (a := ad 32) (r := 1) (ok1 (t := 32) (Nat.le_of_ble_eq_true rfl)).1) dX10_payOn_55 ?_
    refine q_iconst (v := 3) X dX10_payOn_58 (by decide) ?_
    refine q_iald (t := 32) (i := 1) (jn := 3) (v := .int (m_4.1 32 1 3)) X hK rfl rfl (gm (t := 32) (by decide) (ok1 (t := 32) (Nat.le_of_ble_eq_true rfl))) rfl (vpl (by decide +kernel)) (by decide +kernel) rfl dX10_payOn_59 ?_
    exact hE _ _ _ _ dX10_payOn_60 h
  refine q_icmp_ge (tgt := 14) X dX10_payOn_7 (by decide) (fun c_5 => ?_) (fun c_5 => ?_)
  · have h := h.1 c_5
    refine q_aload_n (j := 0) X dX10_payOn_14 rfl rfl ?_
    refine q_get (k := 3) (v := .ref (ad 32 1)) X hK rfl rfl (Nat.le_of_ble_eq_true rfl) inTX10 (gm (t := 30) (by decide) (ok1 (t := 30) (Nat.le_of_ble_eq_true rfl))) kw_7_10 rfl (rv_nn (a := ad 32) (r := 1) (ok1 (t := 32) (Nat.le_of_ble_eq_true rfl)).1) dX10_payOn_15 ?_
    refine q_iconst (v := 4) X dX10_payOn_18 (by decide) ?_
    refine q_iald (t := 32) (i := 1) (jn := 4) (v := .int (mm.1 32 1 4)) X hK rfl rfl (gm (t := 32) (by decide) (ok1 (t := 32) (Nat.le_of_ble_eq_true rfl))) rfl (vpl (by decide +kernel)) (by decide +kernel) rfl dX10_payOn_19 ?_
    refine q_sub [0, 1] rfl ?_
    exact J20 (mm.1 32 1 4) h
  · have h := h.2 c_5
    refine q_iload_n (j := 1) X dX10_payOn_10 rfl rfl ?_
    refine q_goto (tgt := 20) X dX10_payOn_11 (by decide) ?_
    refine q_sub [0, 1] rfl ?_
    exact J20 p0 h
theorem dX10_passOn_0 : decode cX10_passOn 0 = .ok (.iconst 0, 1) := by decide +kernel
theorem dX10_passOn_1 : decode cX10_passOn 1 = .ok (.istore_n 2, 1) := by decide +kernel
theorem dX10_passOn_2 : decode cX10_passOn 2 = .ok (.iconst 0, 1) := by decide +kernel
theorem dX10_passOn_3 : decode cX10_passOn 3 = .ok (.istore_n 3, 1) := by decide +kernel
theorem dX10_passOn_4 : decode cX10_passOn 4 = .ok (.iload_n 3, 1) := by decide +kernel
theorem dX10_passOn_5 : decode cX10_passOn 5 = .ok (.aload_n 0, 1) := by decide +kernel
theorem dX10_passOn_6 : decode cX10_passOn 6 = .ok (.getfield 13, 3) := by decide +kernel
theorem dX10_passOn_9 : decode cX10_passOn 9 = .ok (.bipush 117, 2) := by decide +kernel
theorem dX10_passOn_11 : decode cX10_passOn 11 = .ok (.iaload, 1) := by decide +kernel
theorem dX10_passOn_12 : decode cX10_passOn 12 = .ok (.if_icmp .ge 73, 3) := by decide +kernel
theorem dX10_passOn_15 : decode cX10_passOn 15 = .ok (.iload_n 2, 1) := by decide +kernel
theorem dX10_passOn_16 : decode cX10_passOn 16 = .ok (.aload_n 0, 1) := by decide +kernel
theorem dX10_passOn_17 : decode cX10_passOn 17 = .ok (.iload_n 3, 1) := by decide +kernel
theorem dX10_passOn_18 : decode cX10_passOn 18 = .ok (.invokevirtual 51, 3) := by decide +kernel
theorem dX10_passOn_21 : decode cX10_passOn 21 = .ok (.ifCond .eq 7, 3) := by decide +kernel
theorem dX10_passOn_24 : decode cX10_passOn 24 = .ok (.iconst 0, 1) := by decide +kernel
theorem dX10_passOn_25 : decode cX10_passOn 25 = .ok (.goto 22, 3) := by decide +kernel
theorem dX10_passOn_28 : decode cX10_passOn 28 = .ok (.aload_n 0, 1) := by decide +kernel
theorem dX10_passOn_29 : decode cX10_passOn 29 = .ok (.iload_n 3, 1) := by decide +kernel
theorem dX10_passOn_30 : decode cX10_passOn 30 = .ok (.iconst 5, 1) := by decide +kernel
theorem dX10_passOn_31 : decode cX10_passOn 31 = .ok (.invokevirtual 41, 3) := by decide +kernel
theorem dX10_passOn_34 : decode cX10_passOn 34 = .ok (.iload_n 1, 1) := by decide +kernel
theorem dX10_passOn_35 : decode cX10_passOn 35 = .ok (.iadd, 1) := by decide +kernel
theorem dX10_passOn_36 : decode cX10_passOn 36 = .ok (.sipush 200, 3) := by decide +kernel
theorem dX10_passOn_39 : decode cX10_passOn 39 = .ok (.if_icmp .le 7, 3) := by decide +kernel
theorem dX10_passOn_42 : decode cX10_passOn 42 = .ok (.iconst 1, 1) := by decide +kernel
theorem dX10_passOn_43 : decode cX10_passOn 43 = .ok (.goto 4, 3) := by decide +kernel
theorem dX10_passOn_46 : decode cX10_passOn 46 = .ok (.iconst 0, 1) := by decide +kernel
theorem dX10_passOn_47 : decode cX10_passOn 47 = .ok (.iadd, 1) := by decide +kernel
theorem dX10_passOn_48 : decode cX10_passOn 48 = .ok (.istore_n 2, 1) := by decide +kernel
theorem dX10_passOn_49 : decode cX10_passOn 49 = .ok (.aload_n 0, 1) := by decide +kernel
theorem dX10_passOn_50 : decode cX10_passOn 50 = .ok (.iload_n 3, 1) := by decide +kernel
theorem dX10_passOn_51 : decode cX10_passOn 51 = .ok (.iconst 5, 1) := by decide +kernel
theorem dX10_passOn_52 : decode cX10_passOn 52 = .ok (.aload_n 0, 1) := by decide +kernel
theorem dX10_passOn_53 : decode cX10_passOn 53 = .ok (.iload_n 3, 1) := by decide +kernel
theorem dX10_passOn_54 : decode cX10_passOn 54 = .ok (.iconst 5, 1) := by decide +kernel
theorem dX10_passOn_55 : decode cX10_passOn 55 = .ok (.invokevirtual 41, 3) := by decide +kernel
theorem dX10_passOn_58 : decode cX10_passOn 58 = .ok (.iload_n 1, 1) := by decide +kernel
theorem dX10_passOn_59 : decode cX10_passOn 59 = .ok (.iadd, 1) := by decide +kernel
theorem dX10_passOn_60 : decode cX10_passOn 60 = .ok (.invokevirtual 66, 3) := by decide +kernel
theorem dX10_passOn_63 : decode cX10_passOn 63 = .ok (.aload_n 0, 1) := by decide +kernel
theorem dX10_passOn_64 : decode cX10_passOn 64 = .ok (.iload_n 3, 1) := by decide +kernel
theorem dX10_passOn_65 : decode cX10_passOn 65 = .ok (.bipush 6, 2) := by decide +kernel
theorem dX10_passOn_67 : decode cX10_passOn 67 = .ok (.aload_n 0, 1) := by decide +kernel
theorem dX10_passOn_68 : decode cX10_passOn 68 = .ok (.iload_n 3, 1) := by decide +kernel
theorem dX10_passOn_69 : decode cX10_passOn 69 = .ok (.bipush 6, 2) := by decide +kernel
theorem dX10_passOn_71 : decode cX10_passOn 71 = .ok (.invokevirtual 41, 3) := by decide +kernel
theorem dX10_passOn_74 : decode cX10_passOn 74 = .ok (.iload_n 1, 1) := by decide +kernel
theorem dX10_passOn_75 : decode cX10_passOn 75 = .ok (.iadd, 1) := by decide +kernel
theorem dX10_passOn_76 : decode cX10_passOn 76 = .ok (.invokevirtual 66, 3) := by decide +kernel
theorem dX10_passOn_79 : decode cX10_passOn 79 = .ok (.iinc 3 1, 3) := by decide +kernel
theorem dX10_passOn_82 : decode cX10_passOn 82 = .ok (.goto (-78), 3) := by decide +kernel
theorem dX10_passOn_85 : decode cX10_passOn 85 = .ok (.aload_n 0, 1) := by decide +kernel
theorem dX10_passOn_86 : decode cX10_passOn 86 = .ok (.getfield 13, 3) := by decide +kernel
theorem dX10_passOn_89 : decode cX10_passOn 89 = .ok (.iconst 0, 1) := by decide +kernel
theorem dX10_passOn_90 : decode cX10_passOn 90 = .ok (.dup2, 1) := by decide +kernel
theorem dX10_passOn_91 : decode cX10_passOn 91 = .ok (.iaload, 1) := by decide +kernel
theorem dX10_passOn_92 : decode cX10_passOn 92 = .ok (.iload_n 1, 1) := by decide +kernel
theorem dX10_passOn_93 : decode cX10_passOn 93 = .ok (.iadd, 1) := by decide +kernel
theorem dX10_passOn_94 : decode cX10_passOn 94 = .ok (.iastore, 1) := by decide +kernel
theorem dX10_passOn_95 : decode cX10_passOn 95 = .ok (.iload_n 2, 1) := by decide +kernel
theorem dX10_passOn_96 : decode cX10_passOn 96 = .ok (.ireturn, 1) := by decide +kernel
def w_X10_passOn_J47 (p0 : Int32) (y_1 : Int32) (y_2 : Int32) (m_3 : Mm) (K_4 : Int32 → Int32 → Mm → Prop) (y_10 : Int32) : Prop :=
  ∀ x_11 : Int32, x_11 = (y_1 + y_10) → (w_X10_of y_2 5 m_3 (fun (r_12 : Int32) => w_X10_put y_2 5 (r_12 + p0) m_3 (fun (m_15 : Mm) => w_X10_of y_2 6 m_15 (fun (r_16 : Int32) => w_X10_put y_2 6 (r_16 + p0) m_15 (fun (m_19 : Mm) => ∀ x_20 : Int32, x_20 = y_2 + 1 → (K_4 x_11 x_20 m_19))))))
def w_X10_passOn_B4 (p0 : Int32) (Q9 : Int32 → Mm → Prop) (K_4 : Int32 → Int32 → Mm → Prop) (y_1 : Int32) (y_2 : Int32) (m_3 : Mm) : Prop :=
  (((m_3.1 32 1 117) ≤ y_2 → ∀ m_7 : Mm, m_7 = sI m_3 32 1 0 ((m_3.1 32 1 0) + p0) → (Q9 y_1 m_7)) ∧
  (¬ (m_3.1 32 1 117) ≤ y_2 → w_X10_isLate y_2 m_3 (fun (r_8 : Int32) => ((r_8 = 0 → w_X10_of y_2 5 m_3 (fun (r_22 : Int32) => (((r_22 + p0) ≤ 200 → w_X10_passOn_J47 p0 y_1 y_2 m_3 K_4 0) ∧
  (¬ (r_22 + p0) ≤ 200 → w_X10_passOn_J47 p0 y_1 y_2 m_3 K_4 1)))) ∧
  (¬ r_8 = 0 → w_X10_passOn_J47 p0 y_1 y_2 m_3 K_4 0)))))
def w_X10_passOn (p0 : Int32) (mm : Mm) (Q9 : Int32 → Mm → Prop) : Prop :=
  ∃ n, itr (α := Int32 × Int32 × Mm) (fun K a => w_X10_passOn_B4 p0 Q9 (fun z0 z1 z2 => K (z0, z1, z2)) a.1 a.2.1 a.2.2) n (0, 0, mm)
def rm_X10_passOn : Room := { frames := 2, cells := 0, slots := 0, locals := 43 }
theorem hy_X10_passOn : yX10_passOn.cls = RX10 ∧ yX10_passOn.cls ≠ "java/lang/invoke/MethodHandle" ∧ yX10_passOn.cls ≠ "java/lang/invoke/VarHandle" ∧ (parseMethodDescriptor yX10_passOn.desc).map (fun d => d.parameters.length) = some 1 := by decide +kernel
set_option maxRecDepth 100000 in
set_option maxHeartbeats 4000000 in
theorem c_X10_passOn {l : Launch} {D : va_G} {cA : Nat → ClassId} {ad : Nat → Nat → Nat} {A : Nat → Prop} (ax : Ax ad GM A) (p0 : Int32) (mm : Mm) (Q9 : Int32 → Mm → Prop) (h : w_X10_passOn p0 mm Q9) : Met l yX10_passOn (.code yX10_passOn cX10_passOn 4 (some .int) :: TG) rm_X10_passOn (PcM TT D cA ad false GM (ZM) [.ref (ad 30 1), .int p0] mm) (AnsI TT D cA ad false GM A Q9) 0 0 A := by
  have zo := ZM_ok A
  unfold w_X10_passOn at h
  refine enterI pl_X10 ⟨rfl, rfl⟩ rfl (Nat.le_of_ble_eq_true rfl) ?_
  intro p e s m args below meth c QQ X hK hZ hnm hE
  refine q_iconst (v := 0) X dX10_passOn_0 (by decide) ?_
  refine q_istore_n (lv' := [(2, .int 0), (0, .ref (ad 30 1)), (1, .int p0)]) X dX10_passOn_1 rfl (by decide) rfl ?_
  refine q_iconst (v := 0) X dX10_passOn_2 (by decide) ?_
  refine q_istore_n (lv' := [(3, .int 0), (2, .int 0), (0, .ref (ad 30 1)), (1, .int p0)]) X dX10_passOn_3 rfl (by decide) rfl ?_
  refine q_sub [2, 3, 1, 0] rfl ?_
  have L4 : ∀ (n : Nat) (y_1 : Int32) (y_2 : Int32) (m_3 : Mm), itr (α := Int32 × Int32 × Mm) (fun K a => w_X10_passOn_B4 p0 Q9 (fun z0 z1 z2 => K (z0, z1, z2)) a.1 a.2.1 a.2.2) n (y_1, y_2, m_3) → V p l e rm_X10_passOn s m args below meth c QQ 4 A 0 0 (Rep TT D cA ad false GM m_3) 4 [(0, .ref (ad 30 1)), (1, .int p0), (2, .int y_1), (3, .int y_2)] [] := by
    intro n
    induction n with
    | zero => intro y_1 y_2 m_3 h; exact h.elim
    | succ n ih_5 =>
      intro y_1 y_2 m_3 h
      have h : w_X10_passOn_B4 p0 Q9 (fun z0 z1 z2 => itr (α := Int32 × Int32 × Mm) (fun K a => w_X10_passOn_B4 p0 Q9 (fun z0 z1 z2 => K (z0, z1, z2)) a.1 a.2.1 a.2.2) n (z0, z1, z2)) y_1 y_2 m_3 := h
      generalize hKe : (fun z0 z1 z2 => itr (α := Int32 × Int32 × Mm) (fun K a => w_X10_passOn_B4 p0 Q9 (fun z0 z1 z2 => K (z0, z1, z2)) a.1 a.2.1 a.2.2) n (z0, z1, z2)) = K_4 at h
      have ih_5k : ∀ (y_1 : Int32) (y_2 : Int32) (m_3 : Mm), K_4 y_1 y_2 m_3 → V p l e rm_X10_passOn s m args below meth c QQ 4 A 0 0 (Rep TT D cA ad false GM m_3) 4 [(0, .ref (ad 30 1)), (1, .int p0), (2, .int y_1), (3, .int y_2)] [] := fun y_1 y_2 m_3 h => ih_5 y_1 y_2 m_3 (by rw [← hKe] at h; exact h)
      unfold w_X10_passOn_B4 at h
      refine q_iload_n (j := 3) X dX10_passOn_4 rfl rfl ?_
      refine q_aload_n (j := 0) X dX10_passOn_5 rfl rfl ?_
      refine q_get (k := 3) (v := .ref (ad 32 1)) X hK rfl rfl (Nat.le_of_ble_eq_true rfl) inTX10 (gm (t := 30) (by decide) (ok1 (t := 30) (Nat.le_of_ble_eq_true rfl))) kw_7_10 rfl (rv_nn (a := ad 32) (r := 1) (ok1 (t := 32) (Nat.le_of_ble_eq_true rfl)).1) dX10_passOn_6 ?_
      refine q_bipush (v := 117) X dX10_passOn_9 (by decide) ?_
      refine q_iald (t := 32) (i := 1) (jn := 117) (v := .int (m_3.1 32 1 117)) X hK rfl rfl (gm (t := 32) (by decide) (ok1 (t := 32) (Nat.le_of_ble_eq_true rfl))) rfl (vpl (by decide +kernel)) (by decide +kernel) rfl dX10_passOn_11 ?_
      refine q_icmp_ge (tgt := 85) X dX10_passOn_12 (by decide) (fun c_6 => ?_) (fun c_6 => ?_)
      · have h := h.1 c_6
        refine q_aload_n (j := 0) X dX10_passOn_85 rfl rfl ?_
        refine q_get (k := 3) (v := .ref (ad 32 1)) X hK rfl rfl (Nat.le_of_ble_eq_true rfl) inTX10 (gm (t := 30) (by decide) (ok1 (t := 30) (Nat.le_of_ble_eq_true rfl))) kw_7_10 rfl (rv_nn (a := ad 32) (r := 1) (ok1 (t := 32) (Nat.le_of_ble_eq_true rfl)).1) dX10_passOn_86 ?_
        refine q_iconst (v := 0) X dX10_passOn_89 (by decide) ?_
        refine q_dup2 X dX10_passOn_90 rfl rfl ?_
        refine q_iald (t := 32) (i := 1) (jn := 0) (v := .int (m_3.1 32 1 0)) X hK rfl rfl (gm (t := 32) (by decide) (ok1 (t := 32) (Nat.le_of_ble_eq_true rfl))) rfl (vpl (by decide +kernel)) (by decide +kernel) rfl dX10_passOn_91 ?_
        refine q_iload_n (j := 1) X dX10_passOn_92 rfl rfl ?_
        refine q_iadd X dX10_passOn_93 ?_
        refine q_iast (t := 32) (i := 1) (jn := 0) X ax hK rfl rfl (gm (t := 32) (by decide) (ok1 (t := 32) (Nat.le_of_ble_eq_true rfl))) rfl (vpl (by decide +kernel)) (by decide +kernel) rfl dX10_passOn_94 ?_
        refine q_nmP (fun m_7 em_7 => ?_)
        have h := h m_7 em_7
        refine q_iload_n (j := 2) X dX10_passOn_95 rfl rfl ?_
        exact hE _ _ _ _ dX10_passOn_96 h
      · have h := h.2 c_6
        refine q_iload_n (j := 2) X dX10_passOn_15 rfl rfl ?_
        refine q_aload_n (j := 0) X dX10_passOn_16 rfl rfl ?_
        refine q_iload_n (j := 3) X dX10_passOn_17 rfl rfl ?_
        refine q_calli (q_runV X hK hZ zo (gm (t := 30) (by decide) (ok1 (t := 30) (Nat.le_of_ble_eq_true rfl))) rfl rfl [.int y_2] [.int y_1] rfl rfl (Nat.le_of_ble_eq_true rfl) dX10_passOn_18 ⟨Nat.le_of_ble_eq_true rfl, Nat.le_of_ble_eq_true rfl⟩ (c_X10_isLate ax y_2 m_3 _ h) rfl rfl (gV kw_7_115 kw_7_117 ks_93 kw_1_11 kw_7_118) hy_X10_isLate ⟨Nat.le_of_ble_eq_true rfl, Nat.le_of_ble_eq_true rfl⟩) (fun r_8 m_9 h => ?_)
        obtain ⟨h, hm⟩ := h
        subst hm
        have J47 : ∀ (y_10 : Int32), w_X10_passOn_J47 p0 y_1 y_2 m_3 K_4 y_10 → V p l e rm_X10_passOn s m args below meth c QQ 4 A 0 0 (Rep TT D cA ad false GM m_3) 47 [(0, .ref (ad 30 1)), (1, .int p0), (3, .int y_2)] [.int y_10, .int y_1] := by
          intro y_10 h
          unfold w_X10_passOn_J47 at h
          refine q_iadd X dX10_passOn_47 ?_
          refine q_topi (fun x_11 ex_11 => ?_)
          have h := h x_11 ex_11
          refine q_istore_n (lv' := [(2, .int x_11), (0, .ref (ad 30 1)), (1, .int p0), (3, .int y_2)]) X dX10_passOn_48 rfl (by decide) rfl ?_
          refine q_aload_n (j := 1) X dX10_passOn_49 rfl rfl ?_
          refine q_iload_n (j := 3) X dX10_passOn_50 rfl rfl ?_
          refine q_iconst (v := 5) X dX10_passOn_51 (by decide) ?_
          refine q_aload_n (j := 1) X dX10_passOn_52 rfl rfl ?_
          refine q_iload_n (j := 3) X dX10_passOn_53 rfl rfl ?_
          refine q_iconst (v := 5) X dX10_passOn_54 (by decide) ?_
          refine q_calli (q_runV X hK hZ zo (gm (t := 30) (by decide) (ok1 (t := 30) (Nat.le_of_ble_eq_true rfl))) rfl rfl [.int y_2, .int 5] [.int 5, .int y_2, .ref (ad 30 1)] rfl rfl (Nat.le_of_ble_eq_true rfl) dX10_passOn_55 ⟨Nat.le_of_ble_eq_true rfl, Nat.le_of_ble_eq_true rfl⟩ (c_X10_of ax y_2 5 m_3 _ h) rfl rfl (gV kw_7_95 kw_7_97 ks_88 kw_1_11 kw_7_98) hy_X10_of ⟨Nat.le_of_ble_eq_true rfl, Nat.le_of_ble_eq_true rfl⟩) (fun r_12 m_13 h => ?_)
          obtain ⟨h, hm⟩ := h
          subst hm
          refine q_iload_n (j := 2) X dX10_passOn_58 rfl rfl ?_
          refine q_iadd X dX10_passOn_59 ?_
          refine q_callv (q_runV X hK hZ zo (gm (t := 30) (by decide) (ok1 (t := 30) (Nat.le_of_ble_eq_true rfl))) rfl rfl [.int y_2, .int 5, .int (r_12 + p0)] [] rfl rfl (Nat.le_of_ble_eq_true rfl) dX10_passOn_60 ⟨Nat.le_of_ble_eq_true rfl, Nat.le_of_ble_eq_true rfl⟩ (c_X10_put ax y_2 5 (r_12 + p0) m_3 _ h) rfl rfl (gV kw_7_149 kw_7_151 ks_100 kw_1_11 kw_7_152) hy_X10_put ⟨Nat.le_of_ble_eq_true rfl, Nat.le_of_ble_eq_true rfl⟩) (fun m_15 h => ?_)
          refine q_aload_n (j := 1) X dX10_passOn_63 rfl rfl ?_
          refine q_iload_n (j := 3) X dX10_passOn_64 rfl rfl ?_
          refine q_bipush (v := 6) X dX10_passOn_65 (by decide) ?_
          refine q_aload_n (j := 1) X dX10_passOn_67 rfl rfl ?_
          refine q_iload_n (j := 3) X dX10_passOn_68 rfl rfl ?_
          refine q_bipush (v := 6) X dX10_passOn_69 (by decide) ?_
          refine q_calli (q_runV X hK hZ zo (gm (t := 30) (by decide) (ok1 (t := 30) (Nat.le_of_ble_eq_true rfl))) rfl rfl [.int y_2, .int 6] [.int 6, .int y_2, .ref (ad 30 1)] rfl rfl (Nat.le_of_ble_eq_true rfl) dX10_passOn_71 ⟨Nat.le_of_ble_eq_true rfl, Nat.le_of_ble_eq_true rfl⟩ (c_X10_of ax y_2 6 m_15 _ h) rfl rfl (gV kw_7_95 kw_7_97 ks_88 kw_1_11 kw_7_98) hy_X10_of ⟨Nat.le_of_ble_eq_true rfl, Nat.le_of_ble_eq_true rfl⟩) (fun r_16 m_17 h => ?_)
          obtain ⟨h, hm⟩ := h
          subst hm
          refine q_iload_n (j := 2) X dX10_passOn_74 rfl rfl ?_
          refine q_iadd X dX10_passOn_75 ?_
          refine q_callv (q_runV X hK hZ zo (gm (t := 30) (by decide) (ok1 (t := 30) (Nat.le_of_ble_eq_true rfl))) rfl rfl [.int y_2, .int 6, .int (r_16 + p0)] [] rfl rfl (Nat.le_of_ble_eq_true rfl) dX10_passOn_76 ⟨Nat.le_of_ble_eq_true rfl, Nat.le_of_ble_eq_true rfl⟩ (c_X10_put ax y_2 6 (r_16 + p0) m_15 _ h) rfl rfl (gV kw_7_149 kw_7_151 ks_100 kw_1_11 kw_7_152) hy_X10_put ⟨Nat.le_of_ble_eq_true rfl, Nat.le_of_ble_eq_true rfl⟩) (fun m_19 h => ?_)
          obtain ⟨x_20, ex_20⟩ : ∃ z : Int32, z = y_2 + 1 := ⟨_, rfl⟩
          have h := h x_20 ex_20
          refine q_iinc (j := 3) (v := x_20) (lv' := [(3, .int x_20), (2, .int x_11), (0, .ref (ad 30 1)), (1, .int p0)]) X dX10_passOn_79 rfl (by rw [ex_20]; rfl) (by decide) rfl ?_
          refine q_goto (tgt := 4) X dX10_passOn_82 (by decide) ?_
          refine q_sub [2, 3, 1, 0] rfl ?_
          exact ih_5k x_11 x_20 m_19 h
        refine q_if_eq (tgt := 28) X dX10_passOn_21 (by decide) (fun c_21 => ?_) (fun c_21 => ?_)
        · have h := h.1 c_21
          refine q_aload_n (j := 0) X dX10_passOn_28 rfl rfl ?_
          refine q_iload_n (j := 3) X dX10_passOn_29 rfl rfl ?_
          refine q_iconst (v := 5) X dX10_passOn_30 (by decide) ?_
          refine q_calli (q_runV X hK hZ zo (gm (t := 30) (by decide) (ok1 (t := 30) (Nat.le_of_ble_eq_true rfl))) rfl rfl [.int y_2, .int 5] [.int y_1] rfl rfl (Nat.le_of_ble_eq_true rfl) dX10_passOn_31 ⟨Nat.le_of_ble_eq_true rfl, Nat.le_of_ble_eq_true rfl⟩ (c_X10_of ax y_2 5 m_3 _ h) rfl rfl (gV kw_7_95 kw_7_97 ks_88 kw_1_11 kw_7_98) hy_X10_of ⟨Nat.le_of_ble_eq_true rfl, Nat.le_of_ble_eq_true rfl⟩) (fun r_22 m_23 h => ?_)
          obtain ⟨h, hm⟩ := h
          subst hm
          refine q_iload_n (j := 1) X dX10_passOn_34 rfl rfl ?_
          refine q_iadd X dX10_passOn_35 ?_
          refine q_sipush (v := 200) X dX10_passOn_36 (by decide) ?_
          refine q_icmp_le (tgt := 46) X dX10_passOn_39 (by decide) (fun c_24 => ?_) (fun c_24 => ?_)
          · have h := h.1 c_24
            refine q_iconst (v := 0) X dX10_passOn_46 (by decide) ?_
            refine q_sub [0, 1, 3] rfl ?_
            exact J47 0 h
          · have h := h.2 c_24
            refine q_iconst (v := 1) X dX10_passOn_42 (by decide) ?_
            refine q_goto (tgt := 47) X dX10_passOn_43 (by decide) ?_
            refine q_sub [0, 1, 3] rfl ?_
            exact J47 1 h
        · have h := h.2 c_21
          refine q_iconst (v := 0) X dX10_passOn_24 (by decide) ?_
          refine q_goto (tgt := 47) X dX10_passOn_25 (by decide) ?_
          refine q_sub [0, 1, 3] rfl ?_
          exact J47 0 h
  obtain ⟨n_25, h⟩ := h
  exact L4 n_25 0 0 mm h
theorem dX10_saves_0 : decode cX10_saves 0 = .ok (.aload_n 0, 1) := by decide +kernel
theorem dX10_saves_1 : decode cX10_saves 1 = .ok (.getfield 110, 3) := by decide +kernel
theorem dX10_saves_4 : decode cX10_saves 4 = .ok (.bipush 6, 2) := by decide +kernel
theorem dX10_saves_6 : decode cX10_saves 6 = .ok (.if_icmp .ne 44, 3) := by decide +kernel
theorem dX10_saves_9 : decode cX10_saves 9 = .ok (.iconst 0, 1) := by decide +kernel
theorem dX10_saves_10 : decode cX10_saves 10 = .ok (.istore_n 1, 1) := by decide +kernel
theorem dX10_saves_11 : decode cX10_saves 11 = .ok (.iload_n 1, 1) := by decide +kernel
theorem dX10_saves_12 : decode cX10_saves 12 = .ok (.sipush 1230, 3) := by decide +kernel
theorem dX10_saves_15 : decode cX10_saves 15 = .ok (.if_icmp .ge 25, 3) := by decide +kernel
theorem dX10_saves_18 : decode cX10_saves 18 = .ok (.aload_n 0, 1) := by decide +kernel
theorem dX10_saves_19 : decode cX10_saves 19 = .ok (.getfield 16, 3) := by decide +kernel
theorem dX10_saves_22 : decode cX10_saves 22 = .ok (.iload_n 1, 1) := by decide +kernel
theorem dX10_saves_23 : decode cX10_saves 23 = .ok (.aload_n 0, 1) := by decide +kernel
theorem dX10_saves_24 : decode cX10_saves 24 = .ok (.getfield 16, 3) := by decide +kernel
theorem dX10_saves_27 : decode cX10_saves 27 = .ok (.iload_n 1, 1) := by decide +kernel
theorem dX10_saves_28 : decode cX10_saves 28 = .ok (.sipush 246, 3) := by decide +kernel
theorem dX10_saves_31 : decode cX10_saves 31 = .ok (.iadd, 1) := by decide +kernel
theorem dX10_saves_32 : decode cX10_saves 32 = .ok (.iaload, 1) := by decide +kernel
theorem dX10_saves_33 : decode cX10_saves 33 = .ok (.iastore, 1) := by decide +kernel
theorem dX10_saves_34 : decode cX10_saves 34 = .ok (.iinc 1 1, 3) := by decide +kernel
theorem dX10_saves_37 : decode cX10_saves 37 = .ok (.goto (-26), 3) := by decide +kernel
theorem dX10_saves_40 : decode cX10_saves 40 = .ok (.aload_n 0, 1) := by decide +kernel
theorem dX10_saves_41 : decode cX10_saves 41 = .ok (.dup, 1) := by decide +kernel
theorem dX10_saves_42 : decode cX10_saves 42 = .ok (.getfield 110, 3) := by decide +kernel
theorem dX10_saves_45 : decode cX10_saves 45 = .ok (.iconst 1, 1) := by decide +kernel
theorem dX10_saves_46 : decode cX10_saves 46 = .ok (.isub, 1) := by decide +kernel
theorem dX10_saves_47 : decode cX10_saves 47 = .ok (.putfield 110, 3) := by decide +kernel
theorem dX10_saves_50 : decode cX10_saves 50 = .ok (.aload_n 0, 1) := by decide +kernel
theorem dX10_saves_51 : decode cX10_saves 51 = .ok (.getfield 13, 3) := by decide +kernel
theorem dX10_saves_54 : decode cX10_saves 54 = .ok (.iconst 0, 1) := by decide +kernel
theorem dX10_saves_55 : decode cX10_saves 55 = .ok (.aload_n 0, 1) := by decide +kernel
theorem dX10_saves_56 : decode cX10_saves 56 = .ok (.getfield 16, 3) := by decide +kernel
theorem dX10_saves_59 : decode cX10_saves 59 = .ok (.sipush 246, 3) := by decide +kernel
theorem dX10_saves_62 : decode cX10_saves 62 = .ok (.aload_n 0, 1) := by decide +kernel
theorem dX10_saves_63 : decode cX10_saves 63 = .ok (.getfield 110, 3) := by decide +kernel
theorem dX10_saves_66 : decode cX10_saves 66 = .ok (.imul, 1) := by decide +kernel
theorem dX10_saves_67 : decode cX10_saves 67 = .ok (.invokestatic 113, 3) := by decide +kernel
theorem dX10_saves_70 : decode cX10_saves 70 = .ok (.aload_n 0, 1) := by decide +kernel
theorem dX10_saves_71 : decode cX10_saves 71 = .ok (.dup, 1) := by decide +kernel
theorem dX10_saves_72 : decode cX10_saves 72 = .ok (.getfield 110, 3) := by decide +kernel
theorem dX10_saves_75 : decode cX10_saves 75 = .ok (.iconst 1, 1) := by decide +kernel
theorem dX10_saves_76 : decode cX10_saves 76 = .ok (.iadd, 1) := by decide +kernel
theorem dX10_saves_77 : decode cX10_saves 77 = .ok (.putfield 110, 3) := by decide +kernel
theorem dX10_saves_80 : decode cX10_saves 80 = .ok (.return_, 1) := by decide +kernel
def w_X10_saves_J50 (Q9 : Mm → Prop) (m_1 : Mm) : Prop :=
  w_X10_copyState_32_33 0 (246 * (m_1.1 30 1 5)) m_1 (fun (m_3 : Mm) => ∀ m_4 : Mm, m_4 = sI m_3 30 1 5 ((m_3.1 30 1 5) + 1) → (Q9 m_4))
def w_X10_saves_B11 (Q9 : Mm → Prop) (K_8 : Int32 → Mm → Prop) (y_6 : Int32) (m_7 : Mm) : Prop :=
  ((1230 ≤ y_6 → ∀ m_11 : Mm, m_11 = sI m_7 30 1 5 ((m_7.1 30 1 5) - 1) → (w_X10_saves_J50 Q9 m_11)) ∧
  (¬ 1230 ≤ y_6 → vp_in (y_6 + 246) 1476 ∧ (vp_in y_6 1476 ∧ ∀ m_14 : Mm, m_14 = sI m_7 33 1 y_6.toNatClampNeg (m_7.1 33 1 (y_6 + 246).toNatClampNeg) → (∀ x_15 : Int32, x_15 = y_6 + 1 → (K_8 x_15 m_14)))))
def w_X10_saves  (mm : Mm) (Q9 : Mm → Prop) : Prop :=
  ((¬ (mm.1 30 1 5) = 6 → w_X10_saves_J50 Q9 mm) ∧
  ((mm.1 30 1 5) = 6 → ∃ n, itr (α := Int32 × Mm) (fun K a => w_X10_saves_B11 Q9 (fun z0 z1 => K (z0, z1)) a.1 a.2) n (0, mm)))
def rm_X10_saves : Room := { frames := 1, cells := 0, slots := 0, locals := 24 }
theorem hy_X10_saves : yX10_saves.cls = RX10 ∧ yX10_saves.cls ≠ "java/lang/invoke/MethodHandle" ∧ yX10_saves.cls ≠ "java/lang/invoke/VarHandle" ∧ (parseMethodDescriptor yX10_saves.desc).map (fun d => d.parameters.length) = some 0 := by decide +kernel
set_option maxRecDepth 100000 in
set_option maxHeartbeats 4000000 in
theorem c_X10_saves {l : Launch} {D : va_G} {cA : Nat → ClassId} {ad : Nat → Nat → Nat} {A : Nat → Prop} (ax : Ax ad GM A)  (mm : Mm) (Q9 : Mm → Prop) (h : w_X10_saves mm Q9) : Met l yX10_saves (.code yX10_saves cX10_saves 2 none :: TG) rm_X10_saves (PcM TT D cA ad false GM (ZM) [.ref (ad 30 1)] mm) (AnsV TT D cA ad false GM A Q9) 0 0 A := by
  have zo := ZM_ok A
  unfold w_X10_saves at h
  refine enterV pl_X10 ⟨rfl, rfl⟩ rfl (Nat.le_of_ble_eq_true rfl) ?_
  intro p e s m args below meth c QQ X hK hZ hnm hE
  refine q_aload_n (j := 0) X dX10_saves_0 rfl rfl ?_
  refine q_get (k := 5) (v := .int (mm.1 30 1 5)) X hK rfl rfl (Nat.le_of_ble_eq_true rfl) inTX10 (gm (t := 30) (by decide) (ok1 (t := 30) (Nat.le_of_ble_eq_true rfl))) kw_7_12 rfl rfl dX10_saves_1 ?_
  refine q_bipush (v := 6) X dX10_saves_4 (by decide) ?_
  have J50 : ∀ (m_1 : Mm), w_X10_saves_J50 Q9 m_1 → V p l e rm_X10_saves s m args below meth c QQ 2 A 0 0 (Rep TT D cA ad false GM m_1) 50 [(0, .ref (ad 30 1))] [] := by
    intro m_1 h
    unfold w_X10_saves_J50 at h
    refine q_aload_n (j := 0) X dX10_saves_50 rfl rfl ?_
    refine q_get (k := 3) (v := .ref (ad 32 1)) X hK rfl rfl (Nat.le_of_ble_eq_true rfl) inTX10 (gm (t := 30) (by decide) (ok1 (t := 30) (Nat.le_of_ble_eq_true rfl))) kw_7_10 rfl (rv_nn (a := ad 32) (r := 1) (ok1 (t := 32) (Nat.le_of_ble_eq_true rfl)).1) dX10_saves_51 ?_
    refine q_iconst (v := 0) X dX10_saves_54 (by decide) ?_
    refine q_aload_n (j := 0) X dX10_saves_55 rfl rfl ?_
    refine q_get (k := 4) (v := .ref (ad 33 1)) X hK rfl rfl (Nat.le_of_ble_eq_true rfl) inTX10 (gm (t := 30) (by decide) (ok1 (t := 30) (Nat.le_of_ble_eq_true rfl))) kw_7_11 rfl (rv_nn (a := ad 33) (r := 1) (ok1 (t := 33) (Nat.le_of_ble_eq_true rfl)).1) dX10_saves_56 ?_
    refine q_sipush (v := 246) X dX10_saves_59 (by decide) ?_
    refine q_aload_n (j := 0) X dX10_saves_62 rfl rfl ?_
    refine q_get (k := 5) (v := .int (m_1.1 30 1 5)) X hK rfl rfl (Nat.le_of_ble_eq_true rfl) inTX10 (gm (t := 30) (by decide) (ok1 (t := 30) (Nat.le_of_ble_eq_true rfl))) kw_7_12 rfl rfl dX10_saves_63 ?_
    refine q_imul X dX10_saves_66 ?_
    refine q_callv (q_runS X hK hZ zo [.ref (ad 32 1), .int 0, .ref (ad 33 1), .int (246 * (m_1.1 30 1 5))] [] rfl rfl (Nat.le_of_ble_eq_true rfl) dX10_saves_67 ⟨Nat.le_of_ble_eq_true rfl, Nat.le_of_ble_eq_true rfl⟩ (c_X10_copyState_32_33 ax 0 (246 * (m_1.1 30 1 5)) m_1 _ h) rfl rfl (gS kw_7_134 kw_7_135 kw_1_11 kw_7_136) hy_X10_copyState.2 ⟨Nat.le_of_ble_eq_true rfl, Nat.le_of_ble_eq_true rfl⟩) (fun m_3 h => ?_)
    refine q_aload_n (j := 0) X dX10_saves_70 rfl rfl ?_
    refine q_dup X dX10_saves_71 rfl ?_
    refine q_get (k := 5) (v := .int (m_3.1 30 1 5)) X hK rfl rfl (Nat.le_of_ble_eq_true rfl) inTX10 (gm (t := 30) (by decide) (ok1 (t := 30) (Nat.le_of_ble_eq_true rfl))) kw_7_12 rfl rfl dX10_saves_72 ?_
    refine q_iconst (v := 1) X dX10_saves_75 (by decide) ?_
    refine q_iadd X dX10_saves_76 ?_
    refine q_putI (k := 5) X ax hK rfl rfl (Nat.le_of_ble_eq_true rfl) inTX10 (gm (t := 30) (by decide) (ok1 (t := 30) (Nat.le_of_ble_eq_true rfl))) tyX10 tyX10_ok nmX10 kw_7_12 rfl rfl (tyX10_ok 5 (Nat.le_of_ble_eq_true rfl)) rfl dX10_saves_77 ?_
    refine q_nmP (fun m_4 em_4 => ?_)
    have h := h m_4 em_4
    exact hE _ _ _ dX10_saves_80 h
  refine q_icmp_ne (tgt := 50) X dX10_saves_6 (by decide) (fun c_5 => ?_) (fun c_5 => ?_)
  · have h := h.1 c_5
    refine q_sub [0] rfl ?_
    exact J50 mm h
  · have h := h.2 c_5
    refine q_iconst (v := 0) X dX10_saves_9 (by decide) ?_
    refine q_istore_n (lv' := [(1, .int 0), (0, .ref (ad 30 1))]) X dX10_saves_10 rfl (by decide) rfl ?_
    refine q_sub [1, 0] rfl ?_
    have L11 : ∀ (n : Nat) (y_6 : Int32) (m_7 : Mm), itr (α := Int32 × Mm) (fun K a => w_X10_saves_B11 Q9 (fun z0 z1 => K (z0, z1)) a.1 a.2) n (y_6, m_7) → V p l e rm_X10_saves s m args below meth c QQ 2 A 0 0 (Rep TT D cA ad false GM m_7) 11 [(0, .ref (ad 30 1)), (1, .int y_6)] [] := by
      intro n
      induction n with
      | zero => intro y_6 m_7 h; exact h.elim
      | succ n ih_9 =>
        intro y_6 m_7 h
        have h : w_X10_saves_B11 Q9 (fun z0 z1 => itr (α := Int32 × Mm) (fun K a => w_X10_saves_B11 Q9 (fun z0 z1 => K (z0, z1)) a.1 a.2) n (z0, z1)) y_6 m_7 := h
        unfold w_X10_saves_B11 at h
        refine q_iload_n (j := 1) X dX10_saves_11 rfl rfl ?_
        refine q_sipush (v := 1230) X dX10_saves_12 (by decide) ?_
        refine q_icmp_ge (tgt := 40) X dX10_saves_15 (by decide) (fun c_10 => ?_) (fun c_10 => ?_)
        · have h := h.1 c_10
          refine q_aload_n (j := 0) X dX10_saves_40 rfl rfl ?_
          refine q_dup X dX10_saves_41 rfl ?_
          refine q_get (k := 5) (v := .int (m_7.1 30 1 5)) X hK rfl rfl (Nat.le_of_ble_eq_true rfl) inTX10 (gm (t := 30) (by decide) (ok1 (t := 30) (Nat.le_of_ble_eq_true rfl))) kw_7_12 rfl rfl dX10_saves_42 ?_
          refine q_iconst (v := 1) X dX10_saves_45 (by decide) ?_
          refine q_isub X dX10_saves_46 ?_
          refine q_putI (k := 5) X ax hK rfl rfl (Nat.le_of_ble_eq_true rfl) inTX10 (gm (t := 30) (by decide) (ok1 (t := 30) (Nat.le_of_ble_eq_true rfl))) tyX10 tyX10_ok nmX10 kw_7_12 rfl rfl (tyX10_ok 5 (Nat.le_of_ble_eq_true rfl)) rfl dX10_saves_47 ?_
          refine q_nmP (fun m_11 em_11 => ?_)
          have h := h m_11 em_11
          refine q_sub [0] rfl ?_
          exact J50 m_11 h
        · have h := h.2 c_10
          refine q_aload_n (j := 0) X dX10_saves_18 rfl rfl ?_
          refine q_get (k := 4) (v := .ref (ad 33 1)) X hK rfl rfl (Nat.le_of_ble_eq_true rfl) inTX10 (gm (t := 30) (by decide) (ok1 (t := 30) (Nat.le_of_ble_eq_true rfl))) kw_7_11 rfl (rv_nn (a := ad 33) (r := 1) (ok1 (t := 33) (Nat.le_of_ble_eq_true rfl)).1) dX10_saves_19 ?_
          refine q_iload_n (j := 1) X dX10_saves_22 rfl rfl ?_
          refine q_aload_n (j := 0) X dX10_saves_23 rfl rfl ?_
          refine q_get (k := 4) (v := .ref (ad 33 1)) X hK rfl rfl (Nat.le_of_ble_eq_true rfl) inTX10 (gm (t := 30) (by decide) (ok1 (t := 30) (Nat.le_of_ble_eq_true rfl))) kw_7_11 rfl (rv_nn (a := ad 33) (r := 1) (ok1 (t := 33) (Nat.le_of_ble_eq_true rfl)).1) dX10_saves_24 ?_
          refine q_iload_n (j := 1) X dX10_saves_27 rfl rfl ?_
          refine q_sipush (v := 246) X dX10_saves_28 (by decide) ?_
          refine q_iadd X dX10_saves_31 ?_
          obtain ⟨b_12, h⟩ := h
          refine q_iald (t := 33) (i := 1) (jn := (y_6 + 246).toNatClampNeg) (v := .int (m_7.1 33 1 (y_6 + 246).toNatClampNeg)) X hK rfl rfl (gm (t := 33) (by decide) (ok1 (t := 33) (Nat.le_of_ble_eq_true rfl))) rfl b_12 rfl rfl dX10_saves_32 ?_
          obtain ⟨b_13, h⟩ := h
          refine q_iast (t := 33) (i := 1) (jn := y_6.toNatClampNeg) X ax hK rfl rfl (gm (t := 33) (by decide) (ok1 (t := 33) (Nat.le_of_ble_eq_true rfl))) rfl b_13 rfl rfl dX10_saves_33 ?_
          refine q_nmP (fun m_14 em_14 => ?_)
          have h := h m_14 em_14
          obtain ⟨x_15, ex_15⟩ : ∃ z : Int32, z = y_6 + 1 := ⟨_, rfl⟩
          have h := h x_15 ex_15
          refine q_iinc (j := 1) (v := x_15) (lv' := [(1, .int x_15), (0, .ref (ad 30 1))]) X dX10_saves_34 rfl (by rw [ex_15]; rfl) (by decide) rfl ?_
          refine q_goto (tgt := 11) X dX10_saves_37 (by decide) ?_
          refine q_sub [1, 0] rfl ?_
          exact ih_9 x_15 m_14 h
    obtain ⟨n_16, h⟩ := h
    exact L11 n_16 0 mm h
theorem dX10_noEntry_0 : decode cX10_noEntry 0 = .ok (.aload_n 0, 1) := by decide +kernel
theorem dX10_noEntry_1 : decode cX10_noEntry 1 = .ok (.getfield 13, 3) := by decide +kernel
theorem dX10_noEntry_4 : decode cX10_noEntry 4 = .ok (.iconst 4, 1) := by decide +kernel
theorem dX10_noEntry_5 : decode cX10_noEntry 5 = .ok (.iaload, 1) := by decide +kernel
theorem dX10_noEntry_6 : decode cX10_noEntry 6 = .ok (.ifCond .le 7, 3) := by decide +kernel
theorem dX10_noEntry_9 : decode cX10_noEntry 9 = .ok (.iconst 1, 1) := by decide +kernel
theorem dX10_noEntry_10 : decode cX10_noEntry 10 = .ok (.goto 84, 3) := by decide +kernel
theorem dX10_noEntry_13 : decode cX10_noEntry 13 = .ok (.aload_n 0, 1) := by decide +kernel
theorem dX10_noEntry_14 : decode cX10_noEntry 14 = .ok (.iload 4, 2) := by decide +kernel
theorem dX10_noEntry_16 : decode cX10_noEntry 16 = .ok (.invokevirtual 117, 3) := by decide +kernel
theorem dX10_noEntry_19 : decode cX10_noEntry 19 = .ok (.ifCond .eq 7, 3) := by decide +kernel
theorem dX10_noEntry_22 : decode cX10_noEntry 22 = .ok (.iconst 2, 1) := by decide +kernel
theorem dX10_noEntry_23 : decode cX10_noEntry 23 = .ok (.goto 71, 3) := by decide +kernel
theorem dX10_noEntry_26 : decode cX10_noEntry 26 = .ok (.aload_n 0, 1) := by decide +kernel
theorem dX10_noEntry_27 : decode cX10_noEntry 27 = .ok (.iload 4, 2) := by decide +kernel
theorem dX10_noEntry_29 : decode cX10_noEntry 29 = .ok (.invokevirtual 94, 3) := by decide +kernel
theorem dX10_noEntry_32 : decode cX10_noEntry 32 = .ok (.iload_n 2, 1) := by decide +kernel
theorem dX10_noEntry_33 : decode cX10_noEntry 33 = .ok (.if_icmp .ge 7, 3) := by decide +kernel
theorem dX10_noEntry_36 : decode cX10_noEntry 36 = .ok (.iconst 3, 1) := by decide +kernel
theorem dX10_noEntry_37 : decode cX10_noEntry 37 = .ok (.goto 57, 3) := by decide +kernel
theorem dX10_noEntry_40 : decode cX10_noEntry 40 = .ok (.aload_n 0, 1) := by decide +kernel
theorem dX10_noEntry_41 : decode cX10_noEntry 41 = .ok (.getfield 13, 3) := by decide +kernel
theorem dX10_noEntry_44 : decode cX10_noEntry 44 = .ok (.bipush 117, 2) := by decide +kernel
theorem dX10_noEntry_46 : decode cX10_noEntry 46 = .ok (.iaload, 1) := by decide +kernel
theorem dX10_noEntry_47 : decode cX10_noEntry 47 = .ok (.bipush 16, 2) := by decide +kernel
theorem dX10_noEntry_49 : decode cX10_noEntry 49 = .ok (.if_icmp .eq 14, 3) := by decide +kernel
theorem dX10_noEntry_52 : decode cX10_noEntry 52 = .ok (.aload_n 0, 1) := by decide +kernel
theorem dX10_noEntry_53 : decode cX10_noEntry 53 = .ok (.getfield 13, 3) := by decide +kernel
theorem dX10_noEntry_56 : decode cX10_noEntry 56 = .ok (.iconst 1, 1) := by decide +kernel
theorem dX10_noEntry_57 : decode cX10_noEntry 57 = .ok (.iaload, 1) := by decide +kernel
theorem dX10_noEntry_58 : decode cX10_noEntry 58 = .ok (.bipush 60, 2) := by decide +kernel
theorem dX10_noEntry_60 : decode cX10_noEntry 60 = .ok (.if_icmp .ne 7, 3) := by decide +kernel
theorem dX10_noEntry_63 : decode cX10_noEntry 63 = .ok (.iconst 4, 1) := by decide +kernel
theorem dX10_noEntry_64 : decode cX10_noEntry 64 = .ok (.goto 30, 3) := by decide +kernel
theorem dX10_noEntry_67 : decode cX10_noEntry 67 = .ok (.aload_n 0, 1) := by decide +kernel
theorem dX10_noEntry_68 : decode cX10_noEntry 68 = .ok (.invokevirtual 120, 3) := by decide +kernel
theorem dX10_noEntry_71 : decode cX10_noEntry 71 = .ok (.aload_n 0, 1) := by decide +kernel
theorem dX10_noEntry_72 : decode cX10_noEntry 72 = .ok (.iload_n 1, 1) := by decide +kernel
theorem dX10_noEntry_73 : decode cX10_noEntry 73 = .ok (.iload_n 3, 1) := by decide +kernel
theorem dX10_noEntry_74 : decode cX10_noEntry 74 = .ok (.iload_n 2, 1) := by decide +kernel
theorem dX10_noEntry_75 : decode cX10_noEntry 75 = .ok (.iconst 0, 1) := by decide +kernel
theorem dX10_noEntry_76 : decode cX10_noEntry 76 = .ok (.invokevirtual 55, 3) := by decide +kernel
theorem dX10_noEntry_79 : decode cX10_noEntry 79 = .ok (.iadd, 1) := by decide +kernel
theorem dX10_noEntry_80 : decode cX10_noEntry 80 = .ok (.aload_n 0, 1) := by decide +kernel
theorem dX10_noEntry_81 : decode cX10_noEntry 81 = .ok (.getfield 13, 3) := by decide +kernel
theorem dX10_noEntry_84 : decode cX10_noEntry 84 = .ok (.iconst 5, 1) := by decide +kernel
theorem dX10_noEntry_85 : decode cX10_noEntry 85 = .ok (.iaload, 1) := by decide +kernel
theorem dX10_noEntry_86 : decode cX10_noEntry 86 = .ok (.if_icmp .le 7, 3) := by decide +kernel
theorem dX10_noEntry_89 : decode cX10_noEntry 89 = .ok (.iconst 5, 1) := by decide +kernel
theorem dX10_noEntry_90 : decode cX10_noEntry 90 = .ok (.goto 4, 3) := by decide +kernel
theorem dX10_noEntry_93 : decode cX10_noEntry 93 = .ok (.iconst 0, 1) := by decide +kernel
theorem dX10_noEntry_94 : decode cX10_noEntry 94 = .ok (.ireturn, 1) := by decide +kernel
def w_X10_noEntry (p0 : Int32) (p1 : Int32) (p2 : Int32) (p3 : Int32) (mm : Mm) (Q9 : Int32 → Prop) : Prop :=
  (((mm.1 32 1 4) ≤ 0 → w_X10_isShut p3 mm (fun (r_2 : Int32) => ((r_2 = 0 → w_X10_room p3 mm (fun (r_5 : Int32) => ((p1 ≤ r_5 → (((mm.1 32 1 117) = 16 → Q9 4) ∧
  (¬ (mm.1 32 1 117) = 16 → ((¬ (mm.1 32 1 1) = 60 → w_X10_stake mm (fun (r_10 : Int32) => w_X10_duty p0 p2 p1 0 mm (fun (r_12 : Int32) => (((r_10 + r_12) ≤ (mm.1 32 1 5) → Q9 0) ∧
  (¬ (r_10 + r_12) ≤ (mm.1 32 1 5) → Q9 5))))) ∧
  ((mm.1 32 1 1) = 60 → Q9 4))))) ∧
  (¬ p1 ≤ r_5 → Q9 3)))) ∧
  (¬ r_2 = 0 → Q9 2)))) ∧
  (¬ (mm.1 32 1 4) ≤ 0 → Q9 1))
def rm_X10_noEntry : Room := { frames := 5, cells := 0, slots := 0, locals := 111 }
theorem hy_X10_noEntry : yX10_noEntry.cls = RX10 ∧ yX10_noEntry.cls ≠ "java/lang/invoke/MethodHandle" ∧ yX10_noEntry.cls ≠ "java/lang/invoke/VarHandle" ∧ (parseMethodDescriptor yX10_noEntry.desc).map (fun d => d.parameters.length) = some 4 := by decide +kernel
set_option maxRecDepth 100000 in
set_option maxHeartbeats 4000000 in
theorem c_X10_noEntry {l : Launch} {D : va_G} {cA : Nat → ClassId} {ad : Nat → Nat → Nat} {A : Nat → Prop} (ax : Ax ad GM A) (p0 : Int32) (p1 : Int32) (p2 : Int32) (p3 : Int32) (mm : Mm) (Q9 : Int32 → Prop) (h : w_X10_noEntry p0 p1 p2 p3 mm Q9) : Met l yX10_noEntry (.code yX10_noEntry cX10_noEntry 5 (some .int) :: TG) rm_X10_noEntry (PcM TT D cA ad false GM (ZM) [.ref (ad 30 1), .int p0, .int p1, .int p2, .int p3] mm) (AnsI TT D cA ad false GM A (fun r mm' => Q9 r ∧ mm = mm')) 0 0 A := by
  have zo := ZM_ok A
  unfold w_X10_noEntry at h
  refine enterI pl_X10 ⟨rfl, rfl⟩ rfl (Nat.le_of_ble_eq_true rfl) ?_
  intro p e s m args below meth c QQ X hK hZ hnm hE
  refine q_aload_n (j := 0) X dX10_noEntry_0 rfl rfl ?_
  refine q_get (k := 3) (v := .ref (ad 32 1)) X hK rfl rfl (Nat.le_of_ble_eq_true rfl) inTX10 (gm (t := 30) (by decide) (ok1 (t := 30) (Nat.le_of_ble_eq_true rfl))) kw_7_10 rfl (rv_nn (a := ad 32) (r := 1) (ok1 (t := 32) (Nat.le_of_ble_eq_true rfl)).1) dX10_noEntry_1 ?_
  refine q_iconst (v := 4) X dX10_noEntry_4 (by decide) ?_
  refine q_iald (t := 32) (i := 1) (jn := 4) (v := .int (mm.1 32 1 4)) X hK rfl rfl (gm (t := 32) (by decide) (ok1 (t := 32) (Nat.le_of_ble_eq_true rfl))) rfl (vpl (by decide +kernel)) (by decide +kernel) rfl dX10_noEntry_5 ?_
  refine q_if_le (tgt := 13) X dX10_noEntry_6 (by decide) (fun c_1 => ?_) (fun c_1 => ?_)
  · have h := h.1 c_1
    refine q_aload_n (j := 0) X dX10_noEntry_13 rfl rfl ?_
    refine q_iload (j := 4) X dX10_noEntry_14 rfl ?_
    refine q_calli (q_runV X hK hZ zo (gm (t := 30) (by decide) (ok1 (t := 30) (Nat.le_of_ble_eq_true rfl))) rfl rfl [.int p3] [] rfl rfl (Nat.le_of_ble_eq_true rfl) dX10_noEntry_16 ⟨Nat.le_of_ble_eq_true rfl, Nat.le_of_ble_eq_true rfl⟩ (c_X10_isShut ax p3 mm _ h) rfl rfl (gV kw_7_87 kw_7_89 ks_86 kw_1_11 kw_7_90) hy_X10_isShut ⟨Nat.le_of_ble_eq_true rfl, Nat.le_of_ble_eq_true rfl⟩) (fun r_2 m_3 h => ?_)
    obtain ⟨h, hm⟩ := h
    subst hm
    refine q_if_eq (tgt := 26) X dX10_noEntry_19 (by decide) (fun c_4 => ?_) (fun c_4 => ?_)
    · have h := h.1 c_4
      refine q_aload_n (j := 0) X dX10_noEntry_26 rfl rfl ?_
      refine q_iload (j := 4) X dX10_noEntry_27 rfl ?_
      refine q_calli (q_runV X hK hZ zo (gm (t := 30) (by decide) (ok1 (t := 30) (Nat.le_of_ble_eq_true rfl))) rfl rfl [.int p3] [] rfl rfl (Nat.le_of_ble_eq_true rfl) dX10_noEntry_29 ⟨Nat.le_of_ble_eq_true rfl, Nat.le_of_ble_eq_true rfl⟩ (c_X10_room ax p3 mm _ h) rfl rfl (gV kw_7_91 kw_7_93 ks_87 kw_1_11 kw_7_94) hy_X10_room ⟨Nat.le_of_ble_eq_true rfl, Nat.le_of_ble_eq_true rfl⟩) (fun r_5 m_6 h => ?_)
      obtain ⟨h, hm⟩ := h
      subst hm
      refine q_iload_n (j := 2) X dX10_noEntry_32 rfl rfl ?_
      refine q_icmp_ge (tgt := 40) X dX10_noEntry_33 (by decide) (fun c_7 => ?_) (fun c_7 => ?_)
      · have h := h.1 c_7
        refine q_aload_n (j := 0) X dX10_noEntry_40 rfl rfl ?_
        refine q_get (k := 3) (v := .ref (ad 32 1)) X hK rfl rfl (Nat.le_of_ble_eq_true rfl) inTX10 (gm (t := 30) (by decide) (ok1 (t := 30) (Nat.le_of_ble_eq_true rfl))) kw_7_10 rfl (rv_nn (a := ad 32) (r := 1) (ok1 (t := 32) (Nat.le_of_ble_eq_true rfl)).1) dX10_noEntry_41 ?_
        refine q_bipush (v := 117) X dX10_noEntry_44 (by decide) ?_
        refine q_iald (t := 32) (i := 1) (jn := 117) (v := .int (mm.1 32 1 117)) X hK rfl rfl (gm (t := 32) (by decide) (ok1 (t := 32) (Nat.le_of_ble_eq_true rfl))) rfl (vpl (by decide +kernel)) (by decide +kernel) rfl dX10_noEntry_46 ?_
        refine q_bipush (v := 16) X dX10_noEntry_47 (by decide) ?_
        refine q_icmp_eq (tgt := 63) X dX10_noEntry_49 (by decide) (fun c_8 => ?_) (fun c_8 => ?_)
        · have h := h.1 c_8
          refine q_iconst (v := 4) X dX10_noEntry_63 (by decide) ?_
          refine q_goto (tgt := 94) X dX10_noEntry_64 (by decide) ?_
          exact hE _ _ _ _ dX10_noEntry_94 ⟨h, rfl⟩
        · have h := h.2 c_8
          refine q_aload_n (j := 0) X dX10_noEntry_52 rfl rfl ?_
          refine q_get (k := 3) (v := .ref (ad 32 1)) X hK rfl rfl (Nat.le_of_ble_eq_true rfl) inTX10 (gm (t := 30) (by decide) (ok1 (t := 30) (Nat.le_of_ble_eq_true rfl))) kw_7_10 rfl (rv_nn (a := ad 32) (r := 1) (ok1 (t := 32) (Nat.le_of_ble_eq_true rfl)).1) dX10_noEntry_53 ?_
          refine q_iconst (v := 1) X dX10_noEntry_56 (by decide) ?_
          refine q_iald (t := 32) (i := 1) (jn := 1) (v := .int (mm.1 32 1 1)) X hK rfl rfl (gm (t := 32) (by decide) (ok1 (t := 32) (Nat.le_of_ble_eq_true rfl))) rfl (vpl (by decide +kernel)) (by decide +kernel) rfl dX10_noEntry_57 ?_
          refine q_bipush (v := 60) X dX10_noEntry_58 (by decide) ?_
          refine q_icmp_ne (tgt := 67) X dX10_noEntry_60 (by decide) (fun c_9 => ?_) (fun c_9 => ?_)
          · have h := h.1 c_9
            refine q_aload_n (j := 0) X dX10_noEntry_67 rfl rfl ?_
            refine q_calli (q_runV X hK hZ zo (gm (t := 30) (by decide) (ok1 (t := 30) (Nat.le_of_ble_eq_true rfl))) rfl rfl [] [] rfl rfl (Nat.le_of_ble_eq_true rfl) dX10_noEntry_68 ⟨Nat.le_of_ble_eq_true rfl, Nat.le_of_ble_eq_true rfl⟩ (c_X10_stake ax mm _ h) rfl rfl (gV kw_7_99 kw_7_101 ks_89 kw_1_11 kw_7_102) hy_X10_stake ⟨Nat.le_of_ble_eq_true rfl, Nat.le_of_ble_eq_true rfl⟩) (fun r_10 m_11 h => ?_)
            obtain ⟨h, hm⟩ := h
            subst hm
            refine q_aload_n (j := 0) X dX10_noEntry_71 rfl rfl ?_
            refine q_iload_n (j := 1) X dX10_noEntry_72 rfl rfl ?_
            refine q_iload_n (j := 3) X dX10_noEntry_73 rfl rfl ?_
            refine q_iload_n (j := 2) X dX10_noEntry_74 rfl rfl ?_
            refine q_iconst (v := 0) X dX10_noEntry_75 (by decide) ?_
            refine q_calli (q_runV X hK hZ zo (gm (t := 30) (by decide) (ok1 (t := 30) (Nat.le_of_ble_eq_true rfl))) rfl rfl [.int p0, .int p2, .int p1, .int 0] [.int r_10] rfl rfl (Nat.le_of_ble_eq_true rfl) dX10_noEntry_76 ⟨Nat.le_of_ble_eq_true rfl, Nat.le_of_ble_eq_true rfl⟩ (c_X10_duty ax p0 p2 p1 0 mm _ h) rfl rfl (gV kw_7_119 kw_7_121 ks_94 kw_1_11 kw_7_122) hy_X10_duty ⟨Nat.le_of_ble_eq_true rfl, Nat.le_of_ble_eq_true rfl⟩) (fun r_12 m_13 h => ?_)
            obtain ⟨h, hm⟩ := h
            subst hm
            refine q_iadd X dX10_noEntry_79 ?_
            refine q_aload_n (j := 0) X dX10_noEntry_80 rfl rfl ?_
            refine q_get (k := 3) (v := .ref (ad 32 1)) X hK rfl rfl (Nat.le_of_ble_eq_true rfl) inTX10 (gm (t := 30) (by decide) (ok1 (t := 30) (Nat.le_of_ble_eq_true rfl))) kw_7_10 rfl (rv_nn (a := ad 32) (r := 1) (ok1 (t := 32) (Nat.le_of_ble_eq_true rfl)).1) dX10_noEntry_81 ?_
            refine q_iconst (v := 5) X dX10_noEntry_84 (by decide) ?_
            refine q_iald (t := 32) (i := 1) (jn := 5) (v := .int (mm.1 32 1 5)) X hK rfl rfl (gm (t := 32) (by decide) (ok1 (t := 32) (Nat.le_of_ble_eq_true rfl))) rfl (vpl (by decide +kernel)) (by decide +kernel) rfl dX10_noEntry_85 ?_
            refine q_icmp_le (tgt := 93) X dX10_noEntry_86 (by decide) (fun c_14 => ?_) (fun c_14 => ?_)
            · have h := h.1 c_14
              refine q_iconst (v := 0) X dX10_noEntry_93 (by decide) ?_
              exact hE _ _ _ _ dX10_noEntry_94 ⟨h, rfl⟩
            · have h := h.2 c_14
              refine q_iconst (v := 5) X dX10_noEntry_89 (by decide) ?_
              refine q_goto (tgt := 94) X dX10_noEntry_90 (by decide) ?_
              exact hE _ _ _ _ dX10_noEntry_94 ⟨h, rfl⟩
          · have h := h.2 c_9
            refine q_iconst (v := 4) X dX10_noEntry_63 (by decide) ?_
            refine q_goto (tgt := 94) X dX10_noEntry_64 (by decide) ?_
            exact hE _ _ _ _ dX10_noEntry_94 ⟨h, rfl⟩
      · have h := h.2 c_7
        refine q_iconst (v := 3) X dX10_noEntry_36 (by decide) ?_
        refine q_goto (tgt := 94) X dX10_noEntry_37 (by decide) ?_
        exact hE _ _ _ _ dX10_noEntry_94 ⟨h, rfl⟩
    · have h := h.2 c_4
      refine q_iconst (v := 2) X dX10_noEntry_22 (by decide) ?_
      refine q_goto (tgt := 94) X dX10_noEntry_23 (by decide) ?_
      exact hE _ _ _ _ dX10_noEntry_94 ⟨h, rfl⟩
  · have h := h.2 c_1
    refine q_iconst (v := 1) X dX10_noEntry_9 (by decide) ?_
    refine q_goto (tgt := 94) X dX10_noEntry_10 (by decide) ?_
    exact hE _ _ _ _ dX10_noEntry_94 ⟨h, rfl⟩
theorem dX10_noLeaving_0 : decode cX10_noLeaving 0 = .ok (.aload_n 0, 1) := by decide +kernel
theorem dX10_noLeaving_1 : decode cX10_noLeaving 1 = .ok (.getfield 13, 3) := by decide +kernel
theorem dX10_noLeaving_4 : decode cX10_noLeaving 4 = .ok (.iconst 4, 1) := by decide +kernel
theorem dX10_noLeaving_5 : decode cX10_noLeaving 5 = .ok (.iaload, 1) := by decide +kernel
theorem dX10_noLeaving_6 : decode cX10_noLeaving 6 = .ok (.ifCond .le 7, 3) := by decide +kernel
theorem dX10_noLeaving_9 : decode cX10_noLeaving 9 = .ok (.iconst 1, 1) := by decide +kernel
theorem dX10_noLeaving_10 : decode cX10_noLeaving 10 = .ok (.goto 49, 3) := by decide +kernel
theorem dX10_noLeaving_13 : decode cX10_noLeaving 13 = .ok (.aload_n 0, 1) := by decide +kernel
theorem dX10_noLeaving_14 : decode cX10_noLeaving 14 = .ok (.aload_n 0, 1) := by decide +kernel
theorem dX10_noLeaving_15 : decode cX10_noLeaving 15 = .ok (.iload_n 1, 1) := by decide +kernel
theorem dX10_noLeaving_16 : decode cX10_noLeaving 16 = .ok (.iconst 4, 1) := by decide +kernel
theorem dX10_noLeaving_17 : decode cX10_noLeaving 17 = .ok (.invokevirtual 41, 3) := by decide +kernel
theorem dX10_noLeaving_20 : decode cX10_noLeaving 20 = .ok (.invokevirtual 117, 3) := by decide +kernel
theorem dX10_noLeaving_23 : decode cX10_noLeaving 23 = .ok (.ifCond .eq 7, 3) := by decide +kernel
theorem dX10_noLeaving_26 : decode cX10_noLeaving 26 = .ok (.iconst 2, 1) := by decide +kernel
theorem dX10_noLeaving_27 : decode cX10_noLeaving 27 = .ok (.goto 32, 3) := by decide +kernel
theorem dX10_noLeaving_30 : decode cX10_noLeaving 30 = .ok (.aload_n 0, 1) := by decide +kernel
theorem dX10_noLeaving_31 : decode cX10_noLeaving 31 = .ok (.iload_n 1, 1) := by decide +kernel
theorem dX10_noLeaving_32 : decode cX10_noLeaving 32 = .ok (.bipush 7, 2) := by decide +kernel
theorem dX10_noLeaving_34 : decode cX10_noLeaving 34 = .ok (.invokevirtual 41, 3) := by decide +kernel
theorem dX10_noLeaving_37 : decode cX10_noLeaving 37 = .ok (.ifCond .ne 7, 3) := by decide +kernel
theorem dX10_noLeaving_40 : decode cX10_noLeaving 40 = .ok (.iconst 3, 1) := by decide +kernel
theorem dX10_noLeaving_41 : decode cX10_noLeaving 41 = .ok (.goto 18, 3) := by decide +kernel
theorem dX10_noLeaving_44 : decode cX10_noLeaving 44 = .ok (.aload_n 0, 1) := by decide +kernel
theorem dX10_noLeaving_45 : decode cX10_noLeaving 45 = .ok (.iload_n 1, 1) := by decide +kernel
theorem dX10_noLeaving_46 : decode cX10_noLeaving 46 = .ok (.iconst 2, 1) := by decide +kernel
theorem dX10_noLeaving_47 : decode cX10_noLeaving 47 = .ok (.invokevirtual 41, 3) := by decide +kernel
theorem dX10_noLeaving_50 : decode cX10_noLeaving 50 = .ok (.iload_n 2, 1) := by decide +kernel
theorem dX10_noLeaving_51 : decode cX10_noLeaving 51 = .ok (.if_icmp .ge 7, 3) := by decide +kernel
theorem dX10_noLeaving_54 : decode cX10_noLeaving 54 = .ok (.iconst 4, 1) := by decide +kernel
theorem dX10_noLeaving_55 : decode cX10_noLeaving 55 = .ok (.goto 4, 3) := by decide +kernel
theorem dX10_noLeaving_58 : decode cX10_noLeaving 58 = .ok (.iconst 0, 1) := by decide +kernel
theorem dX10_noLeaving_59 : decode cX10_noLeaving 59 = .ok (.ireturn, 1) := by decide +kernel
def w_X10_noLeaving (p0 : Int32) (p1 : Int32) (mm : Mm) (Q9 : Int32 → Prop) : Prop :=
  (((mm.1 32 1 4) ≤ 0 → w_X10_of p0 4 mm (fun (r_2 : Int32) => w_X10_isShut r_2 mm (fun (r_4 : Int32) => ((r_4 = 0 → w_X10_of p0 7 mm (fun (r_7 : Int32) => ((¬ r_7 = 0 → w_X10_of p0 2 mm (fun (r_10 : Int32) => ((p1 ≤ r_10 → Q9 0) ∧
  (¬ p1 ≤ r_10 → Q9 4)))) ∧
  (r_7 = 0 → Q9 3)))) ∧
  (¬ r_4 = 0 → Q9 2))))) ∧
  (¬ (mm.1 32 1 4) ≤ 0 → Q9 1))
def rm_X10_noLeaving : Room := { frames := 1, cells := 0, slots := 0, locals := 22 }
theorem hy_X10_noLeaving : yX10_noLeaving.cls = RX10 ∧ yX10_noLeaving.cls ≠ "java/lang/invoke/MethodHandle" ∧ yX10_noLeaving.cls ≠ "java/lang/invoke/VarHandle" ∧ (parseMethodDescriptor yX10_noLeaving.desc).map (fun d => d.parameters.length) = some 2 := by decide +kernel
set_option maxRecDepth 100000 in
set_option maxHeartbeats 4000000 in
theorem c_X10_noLeaving {l : Launch} {D : va_G} {cA : Nat → ClassId} {ad : Nat → Nat → Nat} {A : Nat → Prop} (ax : Ax ad GM A) (p0 : Int32) (p1 : Int32) (mm : Mm) (Q9 : Int32 → Prop) (h : w_X10_noLeaving p0 p1 mm Q9) : Met l yX10_noLeaving (.code yX10_noLeaving cX10_noLeaving 3 (some .int) :: TG) rm_X10_noLeaving (PcM TT D cA ad false GM (ZM) [.ref (ad 30 1), .int p0, .int p1] mm) (AnsI TT D cA ad false GM A (fun r mm' => Q9 r ∧ mm = mm')) 0 0 A := by
  have zo := ZM_ok A
  unfold w_X10_noLeaving at h
  refine enterI pl_X10 ⟨rfl, rfl⟩ rfl (Nat.le_of_ble_eq_true rfl) ?_
  intro p e s m args below meth c QQ X hK hZ hnm hE
  refine q_aload_n (j := 0) X dX10_noLeaving_0 rfl rfl ?_
  refine q_get (k := 3) (v := .ref (ad 32 1)) X hK rfl rfl (Nat.le_of_ble_eq_true rfl) inTX10 (gm (t := 30) (by decide) (ok1 (t := 30) (Nat.le_of_ble_eq_true rfl))) kw_7_10 rfl (rv_nn (a := ad 32) (r := 1) (ok1 (t := 32) (Nat.le_of_ble_eq_true rfl)).1) dX10_noLeaving_1 ?_
  refine q_iconst (v := 4) X dX10_noLeaving_4 (by decide) ?_
  refine q_iald (t := 32) (i := 1) (jn := 4) (v := .int (mm.1 32 1 4)) X hK rfl rfl (gm (t := 32) (by decide) (ok1 (t := 32) (Nat.le_of_ble_eq_true rfl))) rfl (vpl (by decide +kernel)) (by decide +kernel) rfl dX10_noLeaving_5 ?_
  refine q_if_le (tgt := 13) X dX10_noLeaving_6 (by decide) (fun c_1 => ?_) (fun c_1 => ?_)
  · have h := h.1 c_1
    refine q_aload_n (j := 0) X dX10_noLeaving_13 rfl rfl ?_
    refine q_aload_n (j := 0) X dX10_noLeaving_14 rfl rfl ?_
    refine q_iload_n (j := 1) X dX10_noLeaving_15 rfl rfl ?_
    refine q_iconst (v := 4) X dX10_noLeaving_16 (by decide) ?_
    refine q_calli (q_runV X hK hZ zo (gm (t := 30) (by decide) (ok1 (t := 30) (Nat.le_of_ble_eq_true rfl))) rfl rfl [.int p0, .int 4] [.ref (ad 30 1)] rfl rfl (Nat.le_of_ble_eq_true rfl) dX10_noLeaving_17 ⟨Nat.le_of_ble_eq_true rfl, Nat.le_of_ble_eq_true rfl⟩ (c_X10_of ax p0 4 mm _ h) rfl rfl (gV kw_7_95 kw_7_97 ks_88 kw_1_11 kw_7_98) hy_X10_of ⟨Nat.le_of_ble_eq_true rfl, Nat.le_of_ble_eq_true rfl⟩) (fun r_2 m_3 h => ?_)
    obtain ⟨h, hm⟩ := h
    subst hm
    refine q_calli (q_runV X hK hZ zo (gm (t := 30) (by decide) (ok1 (t := 30) (Nat.le_of_ble_eq_true rfl))) rfl rfl [.int r_2] [] rfl rfl (Nat.le_of_ble_eq_true rfl) dX10_noLeaving_20 ⟨Nat.le_of_ble_eq_true rfl, Nat.le_of_ble_eq_true rfl⟩ (c_X10_isShut ax r_2 mm _ h) rfl rfl (gV kw_7_87 kw_7_89 ks_86 kw_1_11 kw_7_90) hy_X10_isShut ⟨Nat.le_of_ble_eq_true rfl, Nat.le_of_ble_eq_true rfl⟩) (fun r_4 m_5 h => ?_)
    obtain ⟨h, hm⟩ := h
    subst hm
    refine q_if_eq (tgt := 30) X dX10_noLeaving_23 (by decide) (fun c_6 => ?_) (fun c_6 => ?_)
    · have h := h.1 c_6
      refine q_aload_n (j := 0) X dX10_noLeaving_30 rfl rfl ?_
      refine q_iload_n (j := 1) X dX10_noLeaving_31 rfl rfl ?_
      refine q_bipush (v := 7) X dX10_noLeaving_32 (by decide) ?_
      refine q_calli (q_runV X hK hZ zo (gm (t := 30) (by decide) (ok1 (t := 30) (Nat.le_of_ble_eq_true rfl))) rfl rfl [.int p0, .int 7] [] rfl rfl (Nat.le_of_ble_eq_true rfl) dX10_noLeaving_34 ⟨Nat.le_of_ble_eq_true rfl, Nat.le_of_ble_eq_true rfl⟩ (c_X10_of ax p0 7 mm _ h) rfl rfl (gV kw_7_95 kw_7_97 ks_88 kw_1_11 kw_7_98) hy_X10_of ⟨Nat.le_of_ble_eq_true rfl, Nat.le_of_ble_eq_true rfl⟩) (fun r_7 m_8 h => ?_)
      obtain ⟨h, hm⟩ := h
      subst hm
      refine q_if_ne (tgt := 44) X dX10_noLeaving_37 (by decide) (fun c_9 => ?_) (fun c_9 => ?_)
      · have h := h.1 c_9
        refine q_aload_n (j := 0) X dX10_noLeaving_44 rfl rfl ?_
        refine q_iload_n (j := 1) X dX10_noLeaving_45 rfl rfl ?_
        refine q_iconst (v := 2) X dX10_noLeaving_46 (by decide) ?_
        refine q_calli (q_runV X hK hZ zo (gm (t := 30) (by decide) (ok1 (t := 30) (Nat.le_of_ble_eq_true rfl))) rfl rfl [.int p0, .int 2] [] rfl rfl (Nat.le_of_ble_eq_true rfl) dX10_noLeaving_47 ⟨Nat.le_of_ble_eq_true rfl, Nat.le_of_ble_eq_true rfl⟩ (c_X10_of ax p0 2 mm _ h) rfl rfl (gV kw_7_95 kw_7_97 ks_88 kw_1_11 kw_7_98) hy_X10_of ⟨Nat.le_of_ble_eq_true rfl, Nat.le_of_ble_eq_true rfl⟩) (fun r_10 m_11 h => ?_)
        obtain ⟨h, hm⟩ := h
        subst hm
        refine q_iload_n (j := 2) X dX10_noLeaving_50 rfl rfl ?_
        refine q_icmp_ge (tgt := 58) X dX10_noLeaving_51 (by decide) (fun c_12 => ?_) (fun c_12 => ?_)
        · have h := h.1 c_12
          refine q_iconst (v := 0) X dX10_noLeaving_58 (by decide) ?_
          exact hE _ _ _ _ dX10_noLeaving_59 ⟨h, rfl⟩
        · have h := h.2 c_12
          refine q_iconst (v := 4) X dX10_noLeaving_54 (by decide) ?_
          refine q_goto (tgt := 59) X dX10_noLeaving_55 (by decide) ?_
          exact hE _ _ _ _ dX10_noLeaving_59 ⟨h, rfl⟩
      · have h := h.2 c_9
        refine q_iconst (v := 3) X dX10_noLeaving_40 (by decide) ?_
        refine q_goto (tgt := 59) X dX10_noLeaving_41 (by decide) ?_
        exact hE _ _ _ _ dX10_noLeaving_59 ⟨h, rfl⟩
    · have h := h.2 c_6
      refine q_iconst (v := 2) X dX10_noLeaving_26 (by decide) ?_
      refine q_goto (tgt := 59) X dX10_noLeaving_27 (by decide) ?_
      exact hE _ _ _ _ dX10_noLeaving_59 ⟨h, rfl⟩
  · have h := h.2 c_1
    refine q_iconst (v := 1) X dX10_noLeaving_9 (by decide) ?_
    refine q_goto (tgt := 59) X dX10_noLeaving_10 (by decide) ?_
    exact hE _ _ _ _ dX10_noLeaving_59 ⟨h, rfl⟩
theorem dX10_noWithdrawal_0 : decode cX10_noWithdrawal 0 = .ok (.aload_n 0, 1) := by decide +kernel
theorem dX10_noWithdrawal_1 : decode cX10_noWithdrawal 1 = .ok (.iload_n 1, 1) := by decide +kernel
theorem dX10_noWithdrawal_2 : decode cX10_noWithdrawal 2 = .ok (.iload_n 2, 1) := by decide +kernel
theorem dX10_noWithdrawal_3 : decode cX10_noWithdrawal 3 = .ok (.invokevirtual 124, 3) := by decide +kernel
theorem dX10_noWithdrawal_6 : decode cX10_noWithdrawal 6 = .ok (.istore_n 3, 1) := by decide +kernel
theorem dX10_noWithdrawal_7 : decode cX10_noWithdrawal 7 = .ok (.iload_n 3, 1) := by decide +kernel
theorem dX10_noWithdrawal_8 : decode cX10_noWithdrawal 8 = .ok (.ifCond .le 7, 3) := by decide +kernel
theorem dX10_noWithdrawal_11 : decode cX10_noWithdrawal 11 = .ok (.iload_n 3, 1) := by decide +kernel
theorem dX10_noWithdrawal_12 : decode cX10_noWithdrawal 12 = .ok (.goto 23, 3) := by decide +kernel
theorem dX10_noWithdrawal_15 : decode cX10_noWithdrawal 15 = .ok (.aload_n 0, 1) := by decide +kernel
theorem dX10_noWithdrawal_16 : decode cX10_noWithdrawal 16 = .ok (.getfield 13, 3) := by decide +kernel
theorem dX10_noWithdrawal_19 : decode cX10_noWithdrawal 19 = .ok (.iconst 3, 1) := by decide +kernel
theorem dX10_noWithdrawal_20 : decode cX10_noWithdrawal 20 = .ok (.iaload, 1) := by decide +kernel
theorem dX10_noWithdrawal_21 : decode cX10_noWithdrawal 21 = .ok (.aload_n 0, 1) := by decide +kernel
theorem dX10_noWithdrawal_22 : decode cX10_noWithdrawal 22 = .ok (.iload_n 1, 1) := by decide +kernel
theorem dX10_noWithdrawal_23 : decode cX10_noWithdrawal 23 = .ok (.iload_n 2, 1) := by decide +kernel
theorem dX10_noWithdrawal_24 : decode cX10_noWithdrawal 24 = .ok (.invokevirtual 59, 3) := by decide +kernel
theorem dX10_noWithdrawal_27 : decode cX10_noWithdrawal 27 = .ok (.if_icmp .ge 7, 3) := by decide +kernel
theorem dX10_noWithdrawal_30 : decode cX10_noWithdrawal 30 = .ok (.iconst 5, 1) := by decide +kernel
theorem dX10_noWithdrawal_31 : decode cX10_noWithdrawal 31 = .ok (.goto 4, 3) := by decide +kernel
theorem dX10_noWithdrawal_34 : decode cX10_noWithdrawal 34 = .ok (.iconst 0, 1) := by decide +kernel
theorem dX10_noWithdrawal_35 : decode cX10_noWithdrawal 35 = .ok (.ireturn, 1) := by decide +kernel
def w_X10_noWithdrawal (p0 : Int32) (p1 : Int32) (mm : Mm) (Q9 : Int32 → Prop) : Prop :=
  w_X10_noLeaving p0 p1 mm (fun (r_1 : Int32) => ((r_1 ≤ 0 → w_X10_dutyPart p0 p1 mm (fun (r_4 : Int32) => ((r_4 ≤ (mm.1 32 1 3) → Q9 0) ∧
  (¬ r_4 ≤ (mm.1 32 1 3) → Q9 5)))) ∧
  (¬ r_1 ≤ 0 → Q9 r_1)))
def rm_X10_noWithdrawal : Room := { frames := 3, cells := 0, slots := 0, locals := 68 }
theorem hy_X10_noWithdrawal : yX10_noWithdrawal.cls = RX10 ∧ yX10_noWithdrawal.cls ≠ "java/lang/invoke/MethodHandle" ∧ yX10_noWithdrawal.cls ≠ "java/lang/invoke/VarHandle" ∧ (parseMethodDescriptor yX10_noWithdrawal.desc).map (fun d => d.parameters.length) = some 2 := by decide +kernel
set_option maxRecDepth 100000 in
set_option maxHeartbeats 4000000 in
theorem c_X10_noWithdrawal {l : Launch} {D : va_G} {cA : Nat → ClassId} {ad : Nat → Nat → Nat} {A : Nat → Prop} (ax : Ax ad GM A) (p0 : Int32) (p1 : Int32) (mm : Mm) (Q9 : Int32 → Prop) (h : w_X10_noWithdrawal p0 p1 mm Q9) : Met l yX10_noWithdrawal (.code yX10_noWithdrawal cX10_noWithdrawal 4 (some .int) :: TG) rm_X10_noWithdrawal (PcM TT D cA ad false GM (ZM) [.ref (ad 30 1), .int p0, .int p1] mm) (AnsI TT D cA ad false GM A (fun r mm' => Q9 r ∧ mm = mm')) 0 0 A := by
  have zo := ZM_ok A
  unfold w_X10_noWithdrawal at h
  refine enterI pl_X10 ⟨rfl, rfl⟩ rfl (Nat.le_of_ble_eq_true rfl) ?_
  intro p e s m args below meth c QQ X hK hZ hnm hE
  refine q_aload_n (j := 0) X dX10_noWithdrawal_0 rfl rfl ?_
  refine q_iload_n (j := 1) X dX10_noWithdrawal_1 rfl rfl ?_
  refine q_iload_n (j := 2) X dX10_noWithdrawal_2 rfl rfl ?_
  refine q_calli (q_runV X hK hZ zo (gm (t := 30) (by decide) (ok1 (t := 30) (Nat.le_of_ble_eq_true rfl))) rfl rfl [.int p0, .int p1] [] rfl rfl (Nat.le_of_ble_eq_true rfl) dX10_noWithdrawal_3 ⟨Nat.le_of_ble_eq_true rfl, Nat.le_of_ble_eq_true rfl⟩ (c_X10_noLeaving ax p0 p1 mm _ h) rfl rfl (gV kw_7_165 kw_7_167 ks_103 kw_1_11 kw_7_168) hy_X10_noLeaving ⟨Nat.le_of_ble_eq_true rfl, Nat.le_of_ble_eq_true rfl⟩) (fun r_1 m_2 h => ?_)
  obtain ⟨h, hm⟩ := h
  subst hm
  refine q_istore_n (lv' := [(3, .int r_1), (0, .ref (ad 30 1)), (1, .int p0), (2, .int p1)]) X dX10_noWithdrawal_6 rfl (by decide) rfl ?_
  refine q_iload_n (j := 0) X dX10_noWithdrawal_7 rfl rfl ?_
  refine q_if_le (tgt := 15) X dX10_noWithdrawal_8 (by decide) (fun c_3 => ?_) (fun c_3 => ?_)
  · have h := h.1 c_3
    refine q_aload_n (j := 1) X dX10_noWithdrawal_15 rfl rfl ?_
    refine q_get (k := 3) (v := .ref (ad 32 1)) X hK rfl rfl (Nat.le_of_ble_eq_true rfl) inTX10 (gm (t := 30) (by decide) (ok1 (t := 30) (Nat.le_of_ble_eq_true rfl))) kw_7_10 rfl (rv_nn (a := ad 32) (r := 1) (ok1 (t := 32) (Nat.le_of_ble_eq_true rfl)).1) dX10_noWithdrawal_16 ?_
    refine q_iconst (v := 3) X dX10_noWithdrawal_19 (by decide) ?_
    refine q_iald (t := 32) (i := 1) (jn := 3) (v := .int (mm.1 32 1 3)) X hK rfl rfl (gm (t := 32) (by decide) (ok1 (t := 32) (Nat.le_of_ble_eq_true rfl))) rfl (vpl (by decide +kernel)) (by decide +kernel) rfl dX10_noWithdrawal_20 ?_
    refine q_aload_n (j := 1) X dX10_noWithdrawal_21 rfl rfl ?_
    refine q_iload_n (j := 2) X dX10_noWithdrawal_22 rfl rfl ?_
    refine q_iload_n (j := 3) X dX10_noWithdrawal_23 rfl rfl ?_
    refine q_calli (q_runV X hK hZ zo (gm (t := 30) (by decide) (ok1 (t := 30) (Nat.le_of_ble_eq_true rfl))) rfl rfl [.int p0, .int p1] [.int (mm.1 32 1 3)] rfl rfl (Nat.le_of_ble_eq_true rfl) dX10_noWithdrawal_24 ⟨Nat.le_of_ble_eq_true rfl, Nat.le_of_ble_eq_true rfl⟩ (c_X10_dutyPart ax p0 p1 mm _ h) rfl rfl (gV kw_7_107 kw_7_109 ks_91 kw_1_11 kw_7_110) hy_X10_dutyPart ⟨Nat.le_of_ble_eq_true rfl, Nat.le_of_ble_eq_true rfl⟩) (fun r_4 m_5 h => ?_)
    obtain ⟨h, hm⟩ := h
    subst hm
    refine q_icmp_ge (tgt := 34) X dX10_noWithdrawal_27 (by decide) (fun c_6 => ?_) (fun c_6 => ?_)
    · have h := h.1 c_6
      refine q_iconst (v := 0) X dX10_noWithdrawal_34 (by decide) ?_
      exact hE _ _ _ _ dX10_noWithdrawal_35 ⟨h, rfl⟩
    · have h := h.2 c_6
      refine q_iconst (v := 5) X dX10_noWithdrawal_30 (by decide) ?_
      refine q_goto (tgt := 35) X dX10_noWithdrawal_31 (by decide) ?_
      exact hE _ _ _ _ dX10_noWithdrawal_35 ⟨h, rfl⟩
  · have h := h.2 c_3
    refine q_iload_n (j := 0) X dX10_noWithdrawal_11 rfl rfl ?_
    refine q_goto (tgt := 35) X dX10_noWithdrawal_12 (by decide) ?_
    exact hE _ _ _ _ dX10_noWithdrawal_35 ⟨h, rfl⟩
theorem dX10_noExport_0 : decode cX10_noExport 0 = .ok (.aload_n 0, 1) := by decide +kernel
theorem dX10_noExport_1 : decode cX10_noExport 1 = .ok (.iload_n 1, 1) := by decide +kernel
theorem dX10_noExport_2 : decode cX10_noExport 2 = .ok (.iload_n 2, 1) := by decide +kernel
theorem dX10_noExport_3 : decode cX10_noExport 3 = .ok (.invokevirtual 124, 3) := by decide +kernel
theorem dX10_noExport_6 : decode cX10_noExport 6 = .ok (.istore_n 3, 1) := by decide +kernel
theorem dX10_noExport_7 : decode cX10_noExport 7 = .ok (.iload_n 3, 1) := by decide +kernel
theorem dX10_noExport_8 : decode cX10_noExport 8 = .ok (.ifCond .le 7, 3) := by decide +kernel
theorem dX10_noExport_11 : decode cX10_noExport 11 = .ok (.iload_n 3, 1) := by decide +kernel
theorem dX10_noExport_12 : decode cX10_noExport 12 = .ok (.goto 16, 3) := by decide +kernel
theorem dX10_noExport_15 : decode cX10_noExport 15 = .ok (.aload_n 0, 1) := by decide +kernel
theorem dX10_noExport_16 : decode cX10_noExport 16 = .ok (.iload_n 1, 1) := by decide +kernel
theorem dX10_noExport_17 : decode cX10_noExport 17 = .ok (.invokevirtual 51, 3) := by decide +kernel
theorem dX10_noExport_20 : decode cX10_noExport 20 = .ok (.ifCond .eq 7, 3) := by decide +kernel
theorem dX10_noExport_23 : decode cX10_noExport 23 = .ok (.iconst 5, 1) := by decide +kernel
theorem dX10_noExport_24 : decode cX10_noExport 24 = .ok (.goto 4, 3) := by decide +kernel
theorem dX10_noExport_27 : decode cX10_noExport 27 = .ok (.iconst 0, 1) := by decide +kernel
theorem dX10_noExport_28 : decode cX10_noExport 28 = .ok (.ireturn, 1) := by decide +kernel
def w_X10_noExport (p0 : Int32) (p1 : Int32) (mm : Mm) (Q9 : Int32 → Prop) : Prop :=
  w_X10_noLeaving p0 p1 mm (fun (r_1 : Int32) => ((r_1 ≤ 0 → w_X10_isLate p0 mm (fun (r_4 : Int32) => ((r_4 = 0 → Q9 0) ∧
  (¬ r_4 = 0 → Q9 5)))) ∧
  (¬ r_1 ≤ 0 → Q9 r_1)))
def rm_X10_noExport : Room := { frames := 2, cells := 0, slots := 0, locals := 44 }
theorem hy_X10_noExport : yX10_noExport.cls = RX10 ∧ yX10_noExport.cls ≠ "java/lang/invoke/MethodHandle" ∧ yX10_noExport.cls ≠ "java/lang/invoke/VarHandle" ∧ (parseMethodDescriptor yX10_noExport.desc).map (fun d => d.parameters.length) = some 2 := by decide +kernel
set_option maxRecDepth 100000 in
set_option maxHeartbeats 4000000 in
theorem c_X10_noExport {l : Launch} {D : va_G} {cA : Nat → ClassId} {ad : Nat → Nat → Nat} {A : Nat → Prop} (ax : Ax ad GM A) (p0 : Int32) (p1 : Int32) (mm : Mm) (Q9 : Int32 → Prop) (h : w_X10_noExport p0 p1 mm Q9) : Met l yX10_noExport (.code yX10_noExport cX10_noExport 4 (some .int) :: TG) rm_X10_noExport (PcM TT D cA ad false GM (ZM) [.ref (ad 30 1), .int p0, .int p1] mm) (AnsI TT D cA ad false GM A (fun r mm' => Q9 r ∧ mm = mm')) 0 0 A := by
  have zo := ZM_ok A
  unfold w_X10_noExport at h
  refine enterI pl_X10 ⟨rfl, rfl⟩ rfl (Nat.le_of_ble_eq_true rfl) ?_
  intro p e s m args below meth c QQ X hK hZ hnm hE
  refine q_aload_n (j := 0) X dX10_noExport_0 rfl rfl ?_
  refine q_iload_n (j := 1) X dX10_noExport_1 rfl rfl ?_
  refine q_iload_n (j := 2) X dX10_noExport_2 rfl rfl ?_
  refine q_calli (q_runV X hK hZ zo (gm (t := 30) (by decide) (ok1 (t := 30) (Nat.le_of_ble_eq_true rfl))) rfl rfl [.int p0, .int p1] [] rfl rfl (Nat.le_of_ble_eq_true rfl) dX10_noExport_3 ⟨Nat.le_of_ble_eq_true rfl, Nat.le_of_ble_eq_true rfl⟩ (c_X10_noLeaving ax p0 p1 mm _ h) rfl rfl (gV kw_7_165 kw_7_167 ks_103 kw_1_11 kw_7_168) hy_X10_noLeaving ⟨Nat.le_of_ble_eq_true rfl, Nat.le_of_ble_eq_true rfl⟩) (fun r_1 m_2 h => ?_)
  obtain ⟨h, hm⟩ := h
  subst hm
  refine q_istore_n (lv' := [(3, .int r_1), (0, .ref (ad 30 1)), (1, .int p0), (2, .int p1)]) X dX10_noExport_6 rfl (by decide) rfl ?_
  refine q_iload_n (j := 0) X dX10_noExport_7 rfl rfl ?_
  refine q_if_le (tgt := 15) X dX10_noExport_8 (by decide) (fun c_3 => ?_) (fun c_3 => ?_)
  · have h := h.1 c_3
    refine q_aload_n (j := 1) X dX10_noExport_15 rfl rfl ?_
    refine q_iload_n (j := 2) X dX10_noExport_16 rfl rfl ?_
    refine q_calli (q_runV X hK hZ zo (gm (t := 30) (by decide) (ok1 (t := 30) (Nat.le_of_ble_eq_true rfl))) rfl rfl [.int p0] [] rfl rfl (Nat.le_of_ble_eq_true rfl) dX10_noExport_17 ⟨Nat.le_of_ble_eq_true rfl, Nat.le_of_ble_eq_true rfl⟩ (c_X10_isLate ax p0 mm _ h) rfl rfl (gV kw_7_115 kw_7_117 ks_93 kw_1_11 kw_7_118) hy_X10_isLate ⟨Nat.le_of_ble_eq_true rfl, Nat.le_of_ble_eq_true rfl⟩) (fun r_4 m_5 h => ?_)
    obtain ⟨h, hm⟩ := h
    subst hm
    refine q_if_eq (tgt := 27) X dX10_noExport_20 (by decide) (fun c_6 => ?_) (fun c_6 => ?_)
    · have h := h.1 c_6
      refine q_iconst (v := 0) X dX10_noExport_27 (by decide) ?_
      exact hE _ _ _ _ dX10_noExport_28 ⟨h, rfl⟩
    · have h := h.2 c_6
      refine q_iconst (v := 5) X dX10_noExport_23 (by decide) ?_
      refine q_goto (tgt := 28) X dX10_noExport_24 (by decide) ?_
      exact hE _ _ _ _ dX10_noExport_28 ⟨h, rfl⟩
  · have h := h.2 c_3
    refine q_iload_n (j := 0) X dX10_noExport_11 rfl rfl ?_
    refine q_goto (tgt := 28) X dX10_noExport_12 (by decide) ?_
    exact hE _ _ _ _ dX10_noExport_28 ⟨h, rfl⟩
theorem dX10_noMove_0 : decode cX10_noMove 0 = .ok (.aload_n 0, 1) := by decide +kernel
theorem dX10_noMove_1 : decode cX10_noMove 1 = .ok (.iload_n 1, 1) := by decide +kernel
theorem dX10_noMove_2 : decode cX10_noMove 2 = .ok (.iconst 4, 1) := by decide +kernel
theorem dX10_noMove_3 : decode cX10_noMove 3 = .ok (.invokevirtual 41, 3) := by decide +kernel
theorem dX10_noMove_6 : decode cX10_noMove 6 = .ok (.iload_n 2, 1) := by decide +kernel
theorem dX10_noMove_7 : decode cX10_noMove 7 = .ok (.if_icmp .ne 7, 3) := by decide +kernel
theorem dX10_noMove_10 : decode cX10_noMove 10 = .ok (.iconst 1, 1) := by decide +kernel
theorem dX10_noMove_11 : decode cX10_noMove 11 = .ok (.goto 65, 3) := by decide +kernel
theorem dX10_noMove_14 : decode cX10_noMove 14 = .ok (.aload_n 0, 1) := by decide +kernel
theorem dX10_noMove_15 : decode cX10_noMove 15 = .ok (.aload_n 0, 1) := by decide +kernel
theorem dX10_noMove_16 : decode cX10_noMove 16 = .ok (.iload_n 1, 1) := by decide +kernel
theorem dX10_noMove_17 : decode cX10_noMove 17 = .ok (.iconst 4, 1) := by decide +kernel
theorem dX10_noMove_18 : decode cX10_noMove 18 = .ok (.invokevirtual 41, 3) := by decide +kernel
theorem dX10_noMove_21 : decode cX10_noMove 21 = .ok (.invokevirtual 117, 3) := by decide +kernel
theorem dX10_noMove_24 : decode cX10_noMove 24 = .ok (.ifCond .eq 7, 3) := by decide +kernel
theorem dX10_noMove_27 : decode cX10_noMove 27 = .ok (.iconst 2, 1) := by decide +kernel
theorem dX10_noMove_28 : decode cX10_noMove 28 = .ok (.goto 48, 3) := by decide +kernel
theorem dX10_noMove_31 : decode cX10_noMove 31 = .ok (.aload_n 0, 1) := by decide +kernel
theorem dX10_noMove_32 : decode cX10_noMove 32 = .ok (.iload_n 1, 1) := by decide +kernel
theorem dX10_noMove_33 : decode cX10_noMove 33 = .ok (.bipush 7, 2) := by decide +kernel
theorem dX10_noMove_35 : decode cX10_noMove 35 = .ok (.invokevirtual 41, 3) := by decide +kernel
theorem dX10_noMove_38 : decode cX10_noMove 38 = .ok (.ifCond .ne 7, 3) := by decide +kernel
theorem dX10_noMove_41 : decode cX10_noMove 41 = .ok (.iconst 3, 1) := by decide +kernel
theorem dX10_noMove_42 : decode cX10_noMove 42 = .ok (.goto 34, 3) := by decide +kernel
theorem dX10_noMove_45 : decode cX10_noMove 45 = .ok (.aload_n 0, 1) := by decide +kernel
theorem dX10_noMove_46 : decode cX10_noMove 46 = .ok (.iload_n 2, 1) := by decide +kernel
theorem dX10_noMove_47 : decode cX10_noMove 47 = .ok (.invokevirtual 117, 3) := by decide +kernel
theorem dX10_noMove_50 : decode cX10_noMove 50 = .ok (.ifCond .eq 7, 3) := by decide +kernel
theorem dX10_noMove_53 : decode cX10_noMove 53 = .ok (.iconst 4, 1) := by decide +kernel
theorem dX10_noMove_54 : decode cX10_noMove 54 = .ok (.goto 22, 3) := by decide +kernel
theorem dX10_noMove_57 : decode cX10_noMove 57 = .ok (.aload_n 0, 1) := by decide +kernel
theorem dX10_noMove_58 : decode cX10_noMove 58 = .ok (.iload_n 2, 1) := by decide +kernel
theorem dX10_noMove_59 : decode cX10_noMove 59 = .ok (.invokevirtual 94, 3) := by decide +kernel
theorem dX10_noMove_62 : decode cX10_noMove 62 = .ok (.aload_n 0, 1) := by decide +kernel
theorem dX10_noMove_63 : decode cX10_noMove 63 = .ok (.iload_n 1, 1) := by decide +kernel
theorem dX10_noMove_64 : decode cX10_noMove 64 = .ok (.iconst 2, 1) := by decide +kernel
theorem dX10_noMove_65 : decode cX10_noMove 65 = .ok (.invokevirtual 41, 3) := by decide +kernel
theorem dX10_noMove_68 : decode cX10_noMove 68 = .ok (.if_icmp .ge 7, 3) := by decide +kernel
theorem dX10_noMove_71 : decode cX10_noMove 71 = .ok (.iconst 5, 1) := by decide +kernel
theorem dX10_noMove_72 : decode cX10_noMove 72 = .ok (.goto 4, 3) := by decide +kernel
theorem dX10_noMove_75 : decode cX10_noMove 75 = .ok (.iconst 0, 1) := by decide +kernel
theorem dX10_noMove_76 : decode cX10_noMove 76 = .ok (.ireturn, 1) := by decide +kernel
def w_X10_noMove (p0 : Int32) (p1 : Int32) (mm : Mm) (Q9 : Int32 → Prop) : Prop :=
  w_X10_of p0 4 mm (fun (r_1 : Int32) => ((¬ r_1 = p1 → w_X10_of p0 4 mm (fun (r_4 : Int32) => w_X10_isShut r_4 mm (fun (r_6 : Int32) => ((r_6 = 0 → w_X10_of p0 7 mm (fun (r_9 : Int32) => ((¬ r_9 = 0 → w_X10_isShut p1 mm (fun (r_12 : Int32) => ((r_12 = 0 → w_X10_room p1 mm (fun (r_15 : Int32) => w_X10_of p0 2 mm (fun (r_17 : Int32) => ((r_17 ≤ r_15 → Q9 0) ∧
  (¬ r_17 ≤ r_15 → Q9 5))))) ∧
  (¬ r_12 = 0 → Q9 4)))) ∧
  (r_9 = 0 → Q9 3)))) ∧
  (¬ r_6 = 0 → Q9 2))))) ∧
  (r_1 = p1 → Q9 1)))
def rm_X10_noMove : Room := { frames := 2, cells := 0, slots := 0, locals := 45 }
theorem hy_X10_noMove : yX10_noMove.cls = RX10 ∧ yX10_noMove.cls ≠ "java/lang/invoke/MethodHandle" ∧ yX10_noMove.cls ≠ "java/lang/invoke/VarHandle" ∧ (parseMethodDescriptor yX10_noMove.desc).map (fun d => d.parameters.length) = some 2 := by decide +kernel
set_option maxRecDepth 100000 in
set_option maxHeartbeats 4000000 in
theorem c_X10_noMove {l : Launch} {D : va_G} {cA : Nat → ClassId} {ad : Nat → Nat → Nat} {A : Nat → Prop} (ax : Ax ad GM A) (p0 : Int32) (p1 : Int32) (mm : Mm) (Q9 : Int32 → Prop) (h : w_X10_noMove p0 p1 mm Q9) : Met l yX10_noMove (.code yX10_noMove cX10_noMove 3 (some .int) :: TG) rm_X10_noMove (PcM TT D cA ad false GM (ZM) [.ref (ad 30 1), .int p0, .int p1] mm) (AnsI TT D cA ad false GM A (fun r mm' => Q9 r ∧ mm = mm')) 0 0 A := by
  have zo := ZM_ok A
  unfold w_X10_noMove at h
  refine enterI pl_X10 ⟨rfl, rfl⟩ rfl (Nat.le_of_ble_eq_true rfl) ?_
  intro p e s m args below meth c QQ X hK hZ hnm hE
  refine q_aload_n (j := 0) X dX10_noMove_0 rfl rfl ?_
  refine q_iload_n (j := 1) X dX10_noMove_1 rfl rfl ?_
  refine q_iconst (v := 4) X dX10_noMove_2 (by decide) ?_
  refine q_calli (q_runV X hK hZ zo (gm (t := 30) (by decide) (ok1 (t := 30) (Nat.le_of_ble_eq_true rfl))) rfl rfl [.int p0, .int 4] [] rfl rfl (Nat.le_of_ble_eq_true rfl) dX10_noMove_3 ⟨Nat.le_of_ble_eq_true rfl, Nat.le_of_ble_eq_true rfl⟩ (c_X10_of ax p0 4 mm _ h) rfl rfl (gV kw_7_95 kw_7_97 ks_88 kw_1_11 kw_7_98) hy_X10_of ⟨Nat.le_of_ble_eq_true rfl, Nat.le_of_ble_eq_true rfl⟩) (fun r_1 m_2 h => ?_)
  obtain ⟨h, hm⟩ := h
  subst hm
  refine q_iload_n (j := 2) X dX10_noMove_6 rfl rfl ?_
  refine q_icmp_ne (tgt := 14) X dX10_noMove_7 (by decide) (fun c_3 => ?_) (fun c_3 => ?_)
  · have h := h.1 c_3
    refine q_aload_n (j := 0) X dX10_noMove_14 rfl rfl ?_
    refine q_aload_n (j := 0) X dX10_noMove_15 rfl rfl ?_
    refine q_iload_n (j := 1) X dX10_noMove_16 rfl rfl ?_
    refine q_iconst (v := 4) X dX10_noMove_17 (by decide) ?_
    refine q_calli (q_runV X hK hZ zo (gm (t := 30) (by decide) (ok1 (t := 30) (Nat.le_of_ble_eq_true rfl))) rfl rfl [.int p0, .int 4] [.ref (ad 30 1)] rfl rfl (Nat.le_of_ble_eq_true rfl) dX10_noMove_18 ⟨Nat.le_of_ble_eq_true rfl, Nat.le_of_ble_eq_true rfl⟩ (c_X10_of ax p0 4 mm _ h) rfl rfl (gV kw_7_95 kw_7_97 ks_88 kw_1_11 kw_7_98) hy_X10_of ⟨Nat.le_of_ble_eq_true rfl, Nat.le_of_ble_eq_true rfl⟩) (fun r_4 m_5 h => ?_)
    obtain ⟨h, hm⟩ := h
    subst hm
    refine q_calli (q_runV X hK hZ zo (gm (t := 30) (by decide) (ok1 (t := 30) (Nat.le_of_ble_eq_true rfl))) rfl rfl [.int r_4] [] rfl rfl (Nat.le_of_ble_eq_true rfl) dX10_noMove_21 ⟨Nat.le_of_ble_eq_true rfl, Nat.le_of_ble_eq_true rfl⟩ (c_X10_isShut ax r_4 mm _ h) rfl rfl (gV kw_7_87 kw_7_89 ks_86 kw_1_11 kw_7_90) hy_X10_isShut ⟨Nat.le_of_ble_eq_true rfl, Nat.le_of_ble_eq_true rfl⟩) (fun r_6 m_7 h => ?_)
    obtain ⟨h, hm⟩ := h
    subst hm
    refine q_if_eq (tgt := 31) X dX10_noMove_24 (by decide) (fun c_8 => ?_) (fun c_8 => ?_)
    · have h := h.1 c_8
      refine q_aload_n (j := 0) X dX10_noMove_31 rfl rfl ?_
      refine q_iload_n (j := 1) X dX10_noMove_32 rfl rfl ?_
      refine q_bipush (v := 7) X dX10_noMove_33 (by decide) ?_
      refine q_calli (q_runV X hK hZ zo (gm (t := 30) (by decide) (ok1 (t := 30) (Nat.le_of_ble_eq_true rfl))) rfl rfl [.int p0, .int 7] [] rfl rfl (Nat.le_of_ble_eq_true rfl) dX10_noMove_35 ⟨Nat.le_of_ble_eq_true rfl, Nat.le_of_ble_eq_true rfl⟩ (c_X10_of ax p0 7 mm _ h) rfl rfl (gV kw_7_95 kw_7_97 ks_88 kw_1_11 kw_7_98) hy_X10_of ⟨Nat.le_of_ble_eq_true rfl, Nat.le_of_ble_eq_true rfl⟩) (fun r_9 m_10 h => ?_)
      obtain ⟨h, hm⟩ := h
      subst hm
      refine q_if_ne (tgt := 45) X dX10_noMove_38 (by decide) (fun c_11 => ?_) (fun c_11 => ?_)
      · have h := h.1 c_11
        refine q_aload_n (j := 0) X dX10_noMove_45 rfl rfl ?_
        refine q_iload_n (j := 2) X dX10_noMove_46 rfl rfl ?_
        refine q_calli (q_runV X hK hZ zo (gm (t := 30) (by decide) (ok1 (t := 30) (Nat.le_of_ble_eq_true rfl))) rfl rfl [.int p1] [] rfl rfl (Nat.le_of_ble_eq_true rfl) dX10_noMove_47 ⟨Nat.le_of_ble_eq_true rfl, Nat.le_of_ble_eq_true rfl⟩ (c_X10_isShut ax p1 mm _ h) rfl rfl (gV kw_7_87 kw_7_89 ks_86 kw_1_11 kw_7_90) hy_X10_isShut ⟨Nat.le_of_ble_eq_true rfl, Nat.le_of_ble_eq_true rfl⟩) (fun r_12 m_13 h => ?_)
        obtain ⟨h, hm⟩ := h
        subst hm
        refine q_if_eq (tgt := 57) X dX10_noMove_50 (by decide) (fun c_14 => ?_) (fun c_14 => ?_)
        · have h := h.1 c_14
          refine q_aload_n (j := 0) X dX10_noMove_57 rfl rfl ?_
          refine q_iload_n (j := 2) X dX10_noMove_58 rfl rfl ?_
          refine q_calli (q_runV X hK hZ zo (gm (t := 30) (by decide) (ok1 (t := 30) (Nat.le_of_ble_eq_true rfl))) rfl rfl [.int p1] [] rfl rfl (Nat.le_of_ble_eq_true rfl) dX10_noMove_59 ⟨Nat.le_of_ble_eq_true rfl, Nat.le_of_ble_eq_true rfl⟩ (c_X10_room ax p1 mm _ h) rfl rfl (gV kw_7_91 kw_7_93 ks_87 kw_1_11 kw_7_94) hy_X10_room ⟨Nat.le_of_ble_eq_true rfl, Nat.le_of_ble_eq_true rfl⟩) (fun r_15 m_16 h => ?_)
          obtain ⟨h, hm⟩ := h
          subst hm
          refine q_aload_n (j := 0) X dX10_noMove_62 rfl rfl ?_
          refine q_iload_n (j := 1) X dX10_noMove_63 rfl rfl ?_
          refine q_iconst (v := 2) X dX10_noMove_64 (by decide) ?_
          refine q_calli (q_runV X hK hZ zo (gm (t := 30) (by decide) (ok1 (t := 30) (Nat.le_of_ble_eq_true rfl))) rfl rfl [.int p0, .int 2] [.int r_15] rfl rfl (Nat.le_of_ble_eq_true rfl) dX10_noMove_65 ⟨Nat.le_of_ble_eq_true rfl, Nat.le_of_ble_eq_true rfl⟩ (c_X10_of ax p0 2 mm _ h) rfl rfl (gV kw_7_95 kw_7_97 ks_88 kw_1_11 kw_7_98) hy_X10_of ⟨Nat.le_of_ble_eq_true rfl, Nat.le_of_ble_eq_true rfl⟩) (fun r_17 m_18 h => ?_)
          obtain ⟨h, hm⟩ := h
          subst hm
          refine q_icmp_ge (tgt := 75) X dX10_noMove_68 (by decide) (fun c_19 => ?_) (fun c_19 => ?_)
          · have h := h.1 c_19
            refine q_iconst (v := 0) X dX10_noMove_75 (by decide) ?_
            exact hE _ _ _ _ dX10_noMove_76 ⟨h, rfl⟩
          · have h := h.2 c_19
            refine q_iconst (v := 5) X dX10_noMove_71 (by decide) ?_
            refine q_goto (tgt := 76) X dX10_noMove_72 (by decide) ?_
            exact hE _ _ _ _ dX10_noMove_76 ⟨h, rfl⟩
        · have h := h.2 c_14
          refine q_iconst (v := 4) X dX10_noMove_53 (by decide) ?_
          refine q_goto (tgt := 76) X dX10_noMove_54 (by decide) ?_
          exact hE _ _ _ _ dX10_noMove_76 ⟨h, rfl⟩
      · have h := h.2 c_11
        refine q_iconst (v := 3) X dX10_noMove_41 (by decide) ?_
        refine q_goto (tgt := 76) X dX10_noMove_42 (by decide) ?_
        exact hE _ _ _ _ dX10_noMove_76 ⟨h, rfl⟩
    · have h := h.2 c_8
      refine q_iconst (v := 2) X dX10_noMove_27 (by decide) ?_
      refine q_goto (tgt := 76) X dX10_noMove_28 (by decide) ?_
      exact hE _ _ _ _ dX10_noMove_76 ⟨h, rfl⟩
  · have h := h.2 c_3
    refine q_iconst (v := 1) X dX10_noMove_10 (by decide) ?_
    refine q_goto (tgt := 76) X dX10_noMove_11 (by decide) ?_
    exact hE _ _ _ _ dX10_noMove_76 ⟨h, rfl⟩
theorem dX10_noDrawback_0 : decode cX10_noDrawback 0 = .ok (.aload_n 0, 1) := by decide +kernel
theorem dX10_noDrawback_1 : decode cX10_noDrawback 1 = .ok (.getfield 13, 3) := by decide +kernel
theorem dX10_noDrawback_4 : decode cX10_noDrawback 4 = .ok (.iconst 4, 1) := by decide +kernel
theorem dX10_noDrawback_5 : decode cX10_noDrawback 5 = .ok (.iaload, 1) := by decide +kernel
theorem dX10_noDrawback_6 : decode cX10_noDrawback 6 = .ok (.ifCond .le 7, 3) := by decide +kernel
theorem dX10_noDrawback_9 : decode cX10_noDrawback 9 = .ok (.iconst 1, 1) := by decide +kernel
theorem dX10_noDrawback_10 : decode cX10_noDrawback 10 = .ok (.goto 54, 3) := by decide +kernel
theorem dX10_noDrawback_13 : decode cX10_noDrawback 13 = .ok (.aload_n 0, 1) := by decide +kernel
theorem dX10_noDrawback_14 : decode cX10_noDrawback 14 = .ok (.getfield 13, 3) := by decide +kernel
theorem dX10_noDrawback_17 : decode cX10_noDrawback 17 = .ok (.iconst 0, 1) := by decide +kernel
theorem dX10_noDrawback_18 : decode cX10_noDrawback 18 = .ok (.iaload, 1) := by decide +kernel
theorem dX10_noDrawback_19 : decode cX10_noDrawback 19 = .ok (.aload_n 0, 1) := by decide +kernel
theorem dX10_noDrawback_20 : decode cX10_noDrawback 20 = .ok (.getfield 13, 3) := by decide +kernel
theorem dX10_noDrawback_23 : decode cX10_noDrawback 23 = .ok (.bipush 69, 2) := by decide +kernel
theorem dX10_noDrawback_25 : decode cX10_noDrawback 25 = .ok (.iconst 4, 1) := by decide +kernel
theorem dX10_noDrawback_26 : decode cX10_noDrawback 26 = .ok (.iload_n 1, 1) := by decide +kernel
theorem dX10_noDrawback_27 : decode cX10_noDrawback 27 = .ok (.imul, 1) := by decide +kernel
theorem dX10_noDrawback_28 : decode cX10_noDrawback 28 = .ok (.iadd, 1) := by decide +kernel
theorem dX10_noDrawback_29 : decode cX10_noDrawback 29 = .ok (.iconst 3, 1) := by decide +kernel
theorem dX10_noDrawback_30 : decode cX10_noDrawback 30 = .ok (.iadd, 1) := by decide +kernel
theorem dX10_noDrawback_31 : decode cX10_noDrawback 31 = .ok (.iaload, 1) := by decide +kernel
theorem dX10_noDrawback_32 : decode cX10_noDrawback 32 = .ok (.isub, 1) := by decide +kernel
theorem dX10_noDrawback_33 : decode cX10_noDrawback 33 = .ok (.bipush 60, 2) := by decide +kernel
theorem dX10_noDrawback_35 : decode cX10_noDrawback 35 = .ok (.if_icmp .le 7, 3) := by decide +kernel
theorem dX10_noDrawback_38 : decode cX10_noDrawback 38 = .ok (.iconst 2, 1) := by decide +kernel
theorem dX10_noDrawback_39 : decode cX10_noDrawback 39 = .ok (.goto 25, 3) := by decide +kernel
theorem dX10_noDrawback_42 : decode cX10_noDrawback 42 = .ok (.aload_n 0, 1) := by decide +kernel
theorem dX10_noDrawback_43 : decode cX10_noDrawback 43 = .ok (.getfield 13, 3) := by decide +kernel
theorem dX10_noDrawback_46 : decode cX10_noDrawback 46 = .ok (.bipush 69, 2) := by decide +kernel
theorem dX10_noDrawback_48 : decode cX10_noDrawback 48 = .ok (.iconst 4, 1) := by decide +kernel
theorem dX10_noDrawback_49 : decode cX10_noDrawback 49 = .ok (.iload_n 1, 1) := by decide +kernel
theorem dX10_noDrawback_50 : decode cX10_noDrawback 50 = .ok (.imul, 1) := by decide +kernel
theorem dX10_noDrawback_51 : decode cX10_noDrawback 51 = .ok (.iadd, 1) := by decide +kernel
theorem dX10_noDrawback_52 : decode cX10_noDrawback 52 = .ok (.iconst 1, 1) := by decide +kernel
theorem dX10_noDrawback_53 : decode cX10_noDrawback 53 = .ok (.iadd, 1) := by decide +kernel
theorem dX10_noDrawback_54 : decode cX10_noDrawback 54 = .ok (.iaload, 1) := by decide +kernel
theorem dX10_noDrawback_55 : decode cX10_noDrawback 55 = .ok (.iload_n 2, 1) := by decide +kernel
theorem dX10_noDrawback_56 : decode cX10_noDrawback 56 = .ok (.if_icmp .ge 7, 3) := by decide +kernel
theorem dX10_noDrawback_59 : decode cX10_noDrawback 59 = .ok (.iconst 3, 1) := by decide +kernel
theorem dX10_noDrawback_60 : decode cX10_noDrawback 60 = .ok (.goto 4, 3) := by decide +kernel
theorem dX10_noDrawback_63 : decode cX10_noDrawback 63 = .ok (.iconst 0, 1) := by decide +kernel
theorem dX10_noDrawback_64 : decode cX10_noDrawback 64 = .ok (.ireturn, 1) := by decide +kernel
def w_X10_noDrawback (p0 : Int32) (p1 : Int32) (mm : Mm) (Q9 : Int32 → Prop) : Prop :=
  (((mm.1 32 1 4) ≤ 0 → vp_in ((69 + (4 * p0)) + 3) 246 ∧ (((((mm.1 32 1 0) - (mm.1 32 1 ((69 + (4 * p0)) + 3).toNatClampNeg)) ≤ 60 → vp_in ((69 + (4 * p0)) + 1) 246 ∧ (((p1 ≤ (mm.1 32 1 ((69 + (4 * p0)) + 1).toNatClampNeg) → Q9 0) ∧
  (¬ p1 ≤ (mm.1 32 1 ((69 + (4 * p0)) + 1).toNatClampNeg) → Q9 3)))) ∧
  (¬ ((mm.1 32 1 0) - (mm.1 32 1 ((69 + (4 * p0)) + 3).toNatClampNeg)) ≤ 60 → Q9 2)))) ∧
  (¬ (mm.1 32 1 4) ≤ 0 → Q9 1))
def rm_X10_noDrawback : Room := { frames := 0, cells := 0, slots := 0, locals := 0 }
theorem hy_X10_noDrawback : yX10_noDrawback.cls = RX10 ∧ yX10_noDrawback.cls ≠ "java/lang/invoke/MethodHandle" ∧ yX10_noDrawback.cls ≠ "java/lang/invoke/VarHandle" ∧ (parseMethodDescriptor yX10_noDrawback.desc).map (fun d => d.parameters.length) = some 2 := by decide +kernel
set_option maxRecDepth 100000 in
set_option maxHeartbeats 4000000 in
theorem c_X10_noDrawback {l : Launch} {D : va_G} {cA : Nat → ClassId} {ad : Nat → Nat → Nat} {A : Nat → Prop} (ax : Ax ad GM A) (p0 : Int32) (p1 : Int32) (mm : Mm) (Q9 : Int32 → Prop) (h : w_X10_noDrawback p0 p1 mm Q9) : Met l yX10_noDrawback (.code yX10_noDrawback cX10_noDrawback 3 (some .int) :: TG) rm_X10_noDrawback (PcM TT D cA ad false GM (ZM) [.ref (ad 30 1), .int p0, .int p1] mm) (AnsI TT D cA ad false GM A (fun r mm' => Q9 r ∧ mm = mm')) 0 0 A := by
  have zo := ZM_ok A
  unfold w_X10_noDrawback at h
  refine enterI pl_X10 ⟨rfl, rfl⟩ rfl (Nat.le_of_ble_eq_true rfl) ?_
  intro p e s m args below meth c QQ X hK hZ hnm hE
  refine q_aload_n (j := 0) X dX10_noDrawback_0 rfl rfl ?_
  refine q_get (k := 3) (v := .ref (ad 32 1)) X hK rfl rfl (Nat.le_of_ble_eq_true rfl) inTX10 (gm (t := 30) (by decide) (ok1 (t := 30) (Nat.le_of_ble_eq_true rfl))) kw_7_10 rfl (rv_nn (a := ad 32) (r := 1) (ok1 (t := 32) (Nat.le_of_ble_eq_true rfl)).1) dX10_noDrawback_1 ?_
  refine q_iconst (v := 4) X dX10_noDrawback_4 (by decide) ?_
  refine q_iald (t := 32) (i := 1) (jn := 4) (v := .int (mm.1 32 1 4)) X hK rfl rfl (gm (t := 32) (by decide) (ok1 (t := 32) (Nat.le_of_ble_eq_true rfl))) rfl (vpl (by decide +kernel)) (by decide +kernel) rfl dX10_noDrawback_5 ?_
  refine q_if_le (tgt := 13) X dX10_noDrawback_6 (by decide) (fun c_1 => ?_) (fun c_1 => ?_)
  · have h := h.1 c_1
    refine q_aload_n (j := 0) X dX10_noDrawback_13 rfl rfl ?_
    refine q_get (k := 3) (v := .ref (ad 32 1)) X hK rfl rfl (Nat.le_of_ble_eq_true rfl) inTX10 (gm (t := 30) (by decide) (ok1 (t := 30) (Nat.le_of_ble_eq_true rfl))) kw_7_10 rfl (rv_nn (a := ad 32) (r := 1) (ok1 (t := 32) (Nat.le_of_ble_eq_true rfl)).1) dX10_noDrawback_14 ?_
    refine q_iconst (v := 0) X dX10_noDrawback_17 (by decide) ?_
    refine q_iald (t := 32) (i := 1) (jn := 0) (v := .int (mm.1 32 1 0)) X hK rfl rfl (gm (t := 32) (by decide) (ok1 (t := 32) (Nat.le_of_ble_eq_true rfl))) rfl (vpl (by decide +kernel)) (by decide +kernel) rfl dX10_noDrawback_18 ?_
    refine q_aload_n (j := 0) X dX10_noDrawback_19 rfl rfl ?_
    refine q_get (k := 3) (v := .ref (ad 32 1)) X hK rfl rfl (Nat.le_of_ble_eq_true rfl) inTX10 (gm (t := 30) (by decide) (ok1 (t := 30) (Nat.le_of_ble_eq_true rfl))) kw_7_10 rfl (rv_nn (a := ad 32) (r := 1) (ok1 (t := 32) (Nat.le_of_ble_eq_true rfl)).1) dX10_noDrawback_20 ?_
    refine q_bipush (v := 69) X dX10_noDrawback_23 (by decide) ?_
    refine q_iconst (v := 4) X dX10_noDrawback_25 (by decide) ?_
    refine q_iload_n (j := 1) X dX10_noDrawback_26 rfl rfl ?_
    refine q_imul X dX10_noDrawback_27 ?_
    refine q_iadd X dX10_noDrawback_28 ?_
    refine q_iconst (v := 3) X dX10_noDrawback_29 (by decide) ?_
    refine q_iadd X dX10_noDrawback_30 ?_
    obtain ⟨b_2, h⟩ := h
    refine q_iald (t := 32) (i := 1) (jn := ((69 + (4 * p0)) + 3).toNatClampNeg) (v := .int (mm.1 32 1 ((69 + (4 * p0)) + 3).toNatClampNeg)) X hK rfl rfl (gm (t := 32) (by decide) (ok1 (t := 32) (Nat.le_of_ble_eq_true rfl))) rfl b_2 rfl rfl dX10_noDrawback_31 ?_
    refine q_isub X dX10_noDrawback_32 ?_
    refine q_bipush (v := 60) X dX10_noDrawback_33 (by decide) ?_
    refine q_icmp_le (tgt := 42) X dX10_noDrawback_35 (by decide) (fun c_3 => ?_) (fun c_3 => ?_)
    · have h := h.1 c_3
      refine q_aload_n (j := 0) X dX10_noDrawback_42 rfl rfl ?_
      refine q_get (k := 3) (v := .ref (ad 32 1)) X hK rfl rfl (Nat.le_of_ble_eq_true rfl) inTX10 (gm (t := 30) (by decide) (ok1 (t := 30) (Nat.le_of_ble_eq_true rfl))) kw_7_10 rfl (rv_nn (a := ad 32) (r := 1) (ok1 (t := 32) (Nat.le_of_ble_eq_true rfl)).1) dX10_noDrawback_43 ?_
      refine q_bipush (v := 69) X dX10_noDrawback_46 (by decide) ?_
      refine q_iconst (v := 4) X dX10_noDrawback_48 (by decide) ?_
      refine q_iload_n (j := 1) X dX10_noDrawback_49 rfl rfl ?_
      refine q_imul X dX10_noDrawback_50 ?_
      refine q_iadd X dX10_noDrawback_51 ?_
      refine q_iconst (v := 1) X dX10_noDrawback_52 (by decide) ?_
      refine q_iadd X dX10_noDrawback_53 ?_
      obtain ⟨b_4, h⟩ := h
      refine q_iald (t := 32) (i := 1) (jn := ((69 + (4 * p0)) + 1).toNatClampNeg) (v := .int (mm.1 32 1 ((69 + (4 * p0)) + 1).toNatClampNeg)) X hK rfl rfl (gm (t := 32) (by decide) (ok1 (t := 32) (Nat.le_of_ble_eq_true rfl))) rfl b_4 rfl rfl dX10_noDrawback_54 ?_
      refine q_iload_n (j := 2) X dX10_noDrawback_55 rfl rfl ?_
      refine q_icmp_ge (tgt := 63) X dX10_noDrawback_56 (by decide) (fun c_5 => ?_) (fun c_5 => ?_)
      · have h := h.1 c_5
        refine q_iconst (v := 0) X dX10_noDrawback_63 (by decide) ?_
        exact hE _ _ _ _ dX10_noDrawback_64 ⟨h, rfl⟩
      · have h := h.2 c_5
        refine q_iconst (v := 3) X dX10_noDrawback_59 (by decide) ?_
        refine q_goto (tgt := 64) X dX10_noDrawback_60 (by decide) ?_
        exact hE _ _ _ _ dX10_noDrawback_64 ⟨h, rfl⟩
    · have h := h.2 c_3
      refine q_iconst (v := 2) X dX10_noDrawback_38 (by decide) ?_
      refine q_goto (tgt := 64) X dX10_noDrawback_39 (by decide) ?_
      exact hE _ _ _ _ dX10_noDrawback_64 ⟨h, rfl⟩
  · have h := h.2 c_1
    refine q_iconst (v := 1) X dX10_noDrawback_9 (by decide) ?_
    refine q_goto (tgt := 64) X dX10_noDrawback_10 (by decide) ?_
    exact hE _ _ _ _ dX10_noDrawback_64 ⟨h, rfl⟩
theorem dX10_isWeight_0 : decode cX10_isWeight 0 = .ok (.iload_n 0, 1) := by decide +kernel
theorem dX10_isWeight_1 : decode cX10_isWeight 1 = .ok (.i2l, 1) := by decide +kernel
theorem dX10_isWeight_2 : decode cX10_isWeight 2 = .ok (.lconst 1, 1) := by decide +kernel
theorem dX10_isWeight_3 : decode cX10_isWeight 3 = .ok (.ldc2_w 127, 3) := by decide +kernel
theorem dX10_isWeight_6 : decode cX10_isWeight 6 = .ok (.invokestatic 35, 3) := by decide +kernel
theorem dX10_isWeight_9 : decode cX10_isWeight 9 = .ok (.ireturn, 1) := by decide +kernel
def w_X10_isWeight (p0 : Int32) (mm : Mm) (Q9 : Int32 → Prop) : Prop :=
  w_X10_in (Int32.toInt64 p0) (1 : Int64) (999 : Int64) mm (fun (r_1 : Int32) => isB r_1 ∧ Q9 r_1)
def rm_X10_isWeight : Room := { frames := 1, cells := 0, slots := 0, locals := 25 }
theorem hy_X10_isWeight : yX10_isWeight.cls = RX10 ∧ yX10_isWeight.cls ≠ "java/lang/invoke/MethodHandle" ∧ yX10_isWeight.cls ≠ "java/lang/invoke/VarHandle" ∧ (parseMethodDescriptor yX10_isWeight.desc).map (fun d => d.parameters.length) = some 1 := by decide +kernel
set_option maxRecDepth 100000 in
set_option maxHeartbeats 4000000 in
theorem c_X10_isWeight {l : Launch} {D : va_G} {cA : Nat → ClassId} {ad : Nat → Nat → Nat} {A : Nat → Prop} (ax : Ax ad GM A) (p0 : Int32) (mm : Mm) (Q9 : Int32 → Prop) (h : w_X10_isWeight p0 mm Q9) : Met l yX10_isWeight (.code yX10_isWeight cX10_isWeight 1 (some .boolean) :: TG) rm_X10_isWeight (PcM TT D cA ad false GM (ZM) [.int p0] mm) (AnsI TT D cA ad false GM A (fun r mm' => Q9 r ∧ mm = mm')) 0 0 A := by
  have zo := ZM_ok A
  unfold w_X10_isWeight at h
  refine enterZ pl_X10 ⟨rfl, rfl⟩ rfl (Nat.le_of_ble_eq_true rfl) ?_
  intro p e s m args below meth c QQ X hK hZ hnm hE
  refine q_iload_n (j := 0) X dX10_isWeight_0 rfl rfl ?_
  refine q_i2l X dX10_isWeight_1 ?_
  refine q_lconst (v := 1) X dX10_isWeight_2 (by decide) ?_
  refine q_ldc2 (v := 999) X kw_7_77 dX10_isWeight_3 ?_
  refine q_calli (q_runS X hK hZ zo [.long (Int32.toInt64 p0), .long (1 : Int64), .long (999 : Int64)] [] rfl rfl (Nat.le_of_ble_eq_true rfl) dX10_isWeight_6 ⟨Nat.le_of_ble_eq_true rfl, Nat.le_of_ble_eq_true rfl⟩ (c_X10_in ax (Int32.toInt64 p0) (1 : Int64) (999 : Int64) mm _ h) rfl rfl (gS kw_7_71 kw_7_72 kw_1_11 kw_7_73) hy_X10_in.2 ⟨Nat.le_of_ble_eq_true rfl, Nat.le_of_ble_eq_true rfl⟩) (fun r_1 m_2 h => ?_)
  obtain ⟨h, hm⟩ := h
  subst hm
  obtain ⟨b_3, h⟩ := h
  exact hE _ _ _ _ dX10_isWeight_9 b_3 ⟨h, rfl⟩
theorem dX10_isNew_0 : decode cX10_isNew 0 = .ok (.iload_n 0, 1) := by decide +kernel
theorem dX10_isNew_1 : decode cX10_isNew 1 = .ok (.invokestatic 129, 3) := by decide +kernel
theorem dX10_isNew_4 : decode cX10_isNew 4 = .ok (.ifCond .eq 33, 3) := by decide +kernel
theorem dX10_isNew_7 : decode cX10_isNew 7 = .ok (.iload_n 1, 1) := by decide +kernel
theorem dX10_isNew_8 : decode cX10_isNew 8 = .ok (.invokestatic 132, 3) := by decide +kernel
theorem dX10_isNew_11 : decode cX10_isNew 11 = .ok (.ifCond .eq 26, 3) := by decide +kernel
theorem dX10_isNew_14 : decode cX10_isNew 14 = .ok (.iload_n 2, 1) := by decide +kernel
theorem dX10_isNew_15 : decode cX10_isNew 15 = .ok (.i2l, 1) := by decide +kernel
theorem dX10_isNew_16 : decode cX10_isNew 16 = .ok (.lconst 1, 1) := by decide +kernel
theorem dX10_isNew_17 : decode cX10_isNew 17 = .ok (.ldc2_w 135, 3) := by decide +kernel
theorem dX10_isNew_20 : decode cX10_isNew 20 = .ok (.invokestatic 35, 3) := by decide +kernel
theorem dX10_isNew_23 : decode cX10_isNew 23 = .ok (.ifCond .eq 14, 3) := by decide +kernel
theorem dX10_isNew_26 : decode cX10_isNew 26 = .ok (.iload_n 3, 1) := by decide +kernel
theorem dX10_isNew_27 : decode cX10_isNew 27 = .ok (.invokestatic 137, 3) := by decide +kernel
theorem dX10_isNew_30 : decode cX10_isNew 30 = .ok (.ifCond .eq 7, 3) := by decide +kernel
theorem dX10_isNew_33 : decode cX10_isNew 33 = .ok (.iconst 1, 1) := by decide +kernel
theorem dX10_isNew_34 : decode cX10_isNew 34 = .ok (.goto 4, 3) := by decide +kernel
theorem dX10_isNew_37 : decode cX10_isNew 37 = .ok (.iconst 0, 1) := by decide +kernel
theorem dX10_isNew_38 : decode cX10_isNew 38 = .ok (.ireturn, 1) := by decide +kernel
def w_X10_isNew (p0 : Int32) (p1 : Int32) (p2 : Int32) (p3 : Int32) (mm : Mm) (Q9 : Int32 → Prop) : Prop :=
  w_X10_isKind p0 mm (fun (r_1 : Int32) => ((r_1 = 0 → Q9 0) ∧
  (¬ r_1 = 0 → w_X10_isWeight p1 mm (fun (r_4 : Int32) => ((r_4 = 0 → Q9 0) ∧
  (¬ r_4 = 0 → w_X10_in (Int32.toInt64 p2) (1 : Int64) (9999 : Int64) mm (fun (r_7 : Int32) => ((r_7 = 0 → Q9 0) ∧
  (¬ r_7 = 0 → w_X10_isChamber p3 mm (fun (r_10 : Int32) => ((r_10 = 0 → Q9 0) ∧
  (¬ r_10 = 0 → Q9 1))))))))))))
def rm_X10_isNew : Room := { frames := 2, cells := 0, slots := 0, locals := 45 }
theorem hy_X10_isNew : yX10_isNew.cls = RX10 ∧ yX10_isNew.cls ≠ "java/lang/invoke/MethodHandle" ∧ yX10_isNew.cls ≠ "java/lang/invoke/VarHandle" ∧ (parseMethodDescriptor yX10_isNew.desc).map (fun d => d.parameters.length) = some 4 := by decide +kernel
set_option maxRecDepth 100000 in
set_option maxHeartbeats 4000000 in
theorem c_X10_isNew {l : Launch} {D : va_G} {cA : Nat → ClassId} {ad : Nat → Nat → Nat} {A : Nat → Prop} (ax : Ax ad GM A) (p0 : Int32) (p1 : Int32) (p2 : Int32) (p3 : Int32) (mm : Mm) (Q9 : Int32 → Prop) (h : w_X10_isNew p0 p1 p2 p3 mm Q9) : Met l yX10_isNew (.code yX10_isNew cX10_isNew 4 (some .boolean) :: TG) rm_X10_isNew (PcM TT D cA ad false GM (ZM) [.int p0, .int p1, .int p2, .int p3] mm) (AnsI TT D cA ad false GM A (fun r mm' => Q9 r ∧ mm = mm')) 0 0 A := by
  have zo := ZM_ok A
  unfold w_X10_isNew at h
  refine enterZ pl_X10 ⟨rfl, rfl⟩ rfl (Nat.le_of_ble_eq_true rfl) ?_
  intro p e s m args below meth c QQ X hK hZ hnm hE
  refine q_iload_n (j := 0) X dX10_isNew_0 rfl rfl ?_
  refine q_calli (q_runS X hK hZ zo [.int p0] [] rfl rfl (Nat.le_of_ble_eq_true rfl) dX10_isNew_1 ⟨Nat.le_of_ble_eq_true rfl, Nat.le_of_ble_eq_true rfl⟩ (c_X10_isKind ax p0 mm _ h) rfl rfl (gS kw_7_67 kw_7_68 kw_1_11 kw_7_69) hy_X10_isKind.2 ⟨Nat.le_of_ble_eq_true rfl, Nat.le_of_ble_eq_true rfl⟩) (fun r_1 m_2 h => ?_)
  obtain ⟨h, hm⟩ := h
  subst hm
  refine q_if_eq (tgt := 37) X dX10_isNew_4 (by decide) (fun c_3 => ?_) (fun c_3 => ?_)
  · have h := h.1 c_3
    refine q_iconst (v := 0) X dX10_isNew_37 (by decide) ?_
    exact hE _ _ _ _ dX10_isNew_38 (Or.inl rfl) ⟨h, rfl⟩
  · have h := h.2 c_3
    refine q_iload_n (j := 1) X dX10_isNew_7 rfl rfl ?_
    refine q_calli (q_runS X hK hZ zo [.int p1] [] rfl rfl (Nat.le_of_ble_eq_true rfl) dX10_isNew_8 ⟨Nat.le_of_ble_eq_true rfl, Nat.le_of_ble_eq_true rfl⟩ (c_X10_isWeight ax p1 mm _ h) rfl rfl (gS kw_7_74 kw_7_75 kw_1_11 kw_7_76) hy_X10_isWeight.2 ⟨Nat.le_of_ble_eq_true rfl, Nat.le_of_ble_eq_true rfl⟩) (fun r_4 m_5 h => ?_)
    obtain ⟨h, hm⟩ := h
    subst hm
    refine q_if_eq (tgt := 37) X dX10_isNew_11 (by decide) (fun c_6 => ?_) (fun c_6 => ?_)
    · have h := h.1 c_6
      refine q_iconst (v := 0) X dX10_isNew_37 (by decide) ?_
      exact hE _ _ _ _ dX10_isNew_38 (Or.inl rfl) ⟨h, rfl⟩
    · have h := h.2 c_6
      refine q_iload_n (j := 2) X dX10_isNew_14 rfl rfl ?_
      refine q_i2l X dX10_isNew_15 ?_
      refine q_lconst (v := 1) X dX10_isNew_16 (by decide) ?_
      refine q_ldc2 (v := 9999) X kw_7_78 dX10_isNew_17 ?_
      refine q_calli (q_runS X hK hZ zo [.long (Int32.toInt64 p2), .long (1 : Int64), .long (9999 : Int64)] [] rfl rfl (Nat.le_of_ble_eq_true rfl) dX10_isNew_20 ⟨Nat.le_of_ble_eq_true rfl, Nat.le_of_ble_eq_true rfl⟩ (c_X10_in ax (Int32.toInt64 p2) (1 : Int64) (9999 : Int64) mm _ h) rfl rfl (gS kw_7_71 kw_7_72 kw_1_11 kw_7_73) hy_X10_in.2 ⟨Nat.le_of_ble_eq_true rfl, Nat.le_of_ble_eq_true rfl⟩) (fun r_7 m_8 h => ?_)
      obtain ⟨h, hm⟩ := h
      subst hm
      refine q_if_eq (tgt := 37) X dX10_isNew_23 (by decide) (fun c_9 => ?_) (fun c_9 => ?_)
      · have h := h.1 c_9
        refine q_iconst (v := 0) X dX10_isNew_37 (by decide) ?_
        exact hE _ _ _ _ dX10_isNew_38 (Or.inl rfl) ⟨h, rfl⟩
      · have h := h.2 c_9
        refine q_iload_n (j := 3) X dX10_isNew_26 rfl rfl ?_
        refine q_calli (q_runS X hK hZ zo [.int p3] [] rfl rfl (Nat.le_of_ble_eq_true rfl) dX10_isNew_27 ⟨Nat.le_of_ble_eq_true rfl, Nat.le_of_ble_eq_true rfl⟩ (c_X10_isChamber ax p3 mm _ h) rfl rfl (gS kw_7_79 kw_7_80 kw_1_11 kw_7_81) hy_X10_isChamber.2 ⟨Nat.le_of_ble_eq_true rfl, Nat.le_of_ble_eq_true rfl⟩) (fun r_10 m_11 h => ?_)
        obtain ⟨h, hm⟩ := h
        subst hm
        refine q_if_eq (tgt := 37) X dX10_isNew_30 (by decide) (fun c_12 => ?_) (fun c_12 => ?_)
        · have h := h.1 c_12
          refine q_iconst (v := 0) X dX10_isNew_37 (by decide) ?_
          exact hE _ _ _ _ dX10_isNew_38 (Or.inl rfl) ⟨h, rfl⟩
        · have h := h.2 c_12
          refine q_iconst (v := 1) X dX10_isNew_33 (by decide) ?_
          refine q_goto (tgt := 38) X dX10_isNew_34 (by decide) ?_
          exact hE _ _ _ _ dX10_isNew_38 (Or.inr rfl) ⟨h, rfl⟩
theorem dX10_enter_0 : decode cX10_enter 0 = .ok (.aload_n 0, 1) := by decide +kernel
theorem dX10_enter_1 : decode cX10_enter 1 = .ok (.iload_n 1, 1) := by decide +kernel
theorem dX10_enter_2 : decode cX10_enter 2 = .ok (.iload_n 2, 1) := by decide +kernel
theorem dX10_enter_3 : decode cX10_enter 3 = .ok (.iload_n 3, 1) := by decide +kernel
theorem dX10_enter_4 : decode cX10_enter 4 = .ok (.iload 4, 2) := by decide +kernel
theorem dX10_enter_6 : decode cX10_enter 6 = .ok (.invokestatic 140, 3) := by decide +kernel
theorem dX10_enter_9 : decode cX10_enter 9 = .ok (.ifCond .ne 7, 3) := by decide +kernel
theorem dX10_enter_12 : decode cX10_enter 12 = .ok (.iconst 1, 1) := by decide +kernel
theorem dX10_enter_13 : decode cX10_enter 13 = .ok (.goto 20, 3) := by decide +kernel
theorem dX10_enter_16 : decode cX10_enter 16 = .ok (.aload_n 0, 1) := by decide +kernel
theorem dX10_enter_17 : decode cX10_enter 17 = .ok (.iload_n 1, 1) := by decide +kernel
theorem dX10_enter_18 : decode cX10_enter 18 = .ok (.iload_n 2, 1) := by decide +kernel
theorem dX10_enter_19 : decode cX10_enter 19 = .ok (.iload_n 3, 1) := by decide +kernel
theorem dX10_enter_20 : decode cX10_enter 20 = .ok (.iload 4, 2) := by decide +kernel
theorem dX10_enter_22 : decode cX10_enter 22 = .ok (.invokevirtual 144, 3) := by decide +kernel
theorem dX10_enter_25 : decode cX10_enter 25 = .ok (.ifCond .le 7, 3) := by decide +kernel
theorem dX10_enter_28 : decode cX10_enter 28 = .ok (.iconst 2, 1) := by decide +kernel
theorem dX10_enter_29 : decode cX10_enter 29 = .ok (.goto 4, 3) := by decide +kernel
theorem dX10_enter_32 : decode cX10_enter 32 = .ok (.iconst 0, 1) := by decide +kernel
theorem dX10_enter_33 : decode cX10_enter 33 = .ok (.invokevirtual 147, 3) := by decide +kernel
theorem dX10_enter_36 : decode cX10_enter 36 = .ok (.ifCond .eq 5, 3) := by decide +kernel
theorem dX10_enter_39 : decode cX10_enter 39 = .ok (.iconst 0, 1) := by decide +kernel
theorem dX10_enter_40 : decode cX10_enter 40 = .ok (.ireturn, 1) := by decide +kernel
theorem dX10_enter_41 : decode cX10_enter 41 = .ok (.aload_n 0, 1) := by decide +kernel
theorem dX10_enter_42 : decode cX10_enter 42 = .ok (.invokevirtual 150, 3) := by decide +kernel
theorem dX10_enter_45 : decode cX10_enter 45 = .ok (.aload_n 0, 1) := by decide +kernel
theorem dX10_enter_46 : decode cX10_enter 46 = .ok (.iload_n 1, 1) := by decide +kernel
theorem dX10_enter_47 : decode cX10_enter 47 = .ok (.iload_n 2, 1) := by decide +kernel
theorem dX10_enter_48 : decode cX10_enter 48 = .ok (.iload_n 3, 1) := by decide +kernel
theorem dX10_enter_49 : decode cX10_enter 49 = .ok (.iload 4, 2) := by decide +kernel
theorem dX10_enter_51 : decode cX10_enter 51 = .ok (.invokevirtual 153, 3) := by decide +kernel
theorem dX10_enter_54 : decode cX10_enter 54 = .ok (.ireturn, 1) := by decide +kernel
def w_X10_enter_J33 (p0 : Int32) (p1 : Int32) (p2 : Int32) (p3 : Int32) (mm : Mm) (Q9 : Int32 → Mm → Prop) (y_3 : Int32) : Prop :=
  w_X10_refused y_3 mm (fun (r_4 : Int32) (m_5 : Mm) => ((r_4 = 0 → w_X10_saves m_5 (fun (m_8 : Mm) => w_X10_enterOn p0 p1 p2 p3 m_8 (fun (r_9 : Int32) (m_10 : Mm) => Q9 r_9 m_10))) ∧
  (¬ r_4 = 0 → Q9 0 m_5)))
def w_X10_enter (p0 : Int32) (p1 : Int32) (p2 : Int32) (p3 : Int32) (mm : Mm) (Q9 : Int32 → Mm → Prop) : Prop :=
  w_X10_isNew p0 p1 p2 p3 mm (fun (r_1 : Int32) => ((¬ r_1 = 0 → w_X10_noEntry p0 p1 p2 p3 mm (fun (r_12 : Int32) => ((r_12 ≤ 0 → w_X10_enter_J33 p0 p1 p2 p3 mm Q9 0) ∧
  (¬ r_12 ≤ 0 → w_X10_enter_J33 p0 p1 p2 p3 mm Q9 2)))) ∧
  (r_1 = 0 → w_X10_enter_J33 p0 p1 p2 p3 mm Q9 1)))
def rm_X10_enter : Room := { frames := 6, cells := 0, slots := 0, locals := 135 }
theorem hy_X10_enter : yX10_enter.cls = RX10 ∧ yX10_enter.cls ≠ "java/lang/invoke/MethodHandle" ∧ yX10_enter.cls ≠ "java/lang/invoke/VarHandle" ∧ (parseMethodDescriptor yX10_enter.desc).map (fun d => d.parameters.length) = some 4 := by decide +kernel
set_option maxRecDepth 100000 in
set_option maxHeartbeats 4000000 in
theorem c_X10_enter {l : Launch} {D : va_G} {cA : Nat → ClassId} {ad : Nat → Nat → Nat} {A : Nat → Prop} (ax : Ax ad GM A) (p0 : Int32) (p1 : Int32) (p2 : Int32) (p3 : Int32) (mm : Mm) (Q9 : Int32 → Mm → Prop) (h : w_X10_enter p0 p1 p2 p3 mm Q9) : Met l yX10_enter (.code yX10_enter cX10_enter 5 (some .int) :: TG) rm_X10_enter (PcM TT D cA ad false GM (ZM) [.ref (ad 30 1), .int p0, .int p1, .int p2, .int p3] mm) (AnsI TT D cA ad false GM A Q9) 0 0 A := by
  have zo := ZM_ok A
  unfold w_X10_enter at h
  refine enterI pl_X10 ⟨rfl, rfl⟩ rfl (Nat.le_of_ble_eq_true rfl) ?_
  intro p e s m args below meth c QQ X hK hZ hnm hE
  refine q_aload_n (j := 0) X dX10_enter_0 rfl rfl ?_
  refine q_iload_n (j := 1) X dX10_enter_1 rfl rfl ?_
  refine q_iload_n (j := 2) X dX10_enter_2 rfl rfl ?_
  refine q_iload_n (j := 3) X dX10_enter_3 rfl rfl ?_
  refine q_iload (j := 4) X dX10_enter_4 rfl ?_
  refine q_calli (q_runS X hK hZ zo [.int p0, .int p1, .int p2, .int p3] [.ref (ad 30 1)] rfl rfl (Nat.le_of_ble_eq_true rfl) dX10_enter_6 ⟨Nat.le_of_ble_eq_true rfl, Nat.le_of_ble_eq_true rfl⟩ (c_X10_isNew ax p0 p1 p2 p3 mm _ h) rfl rfl (gS kw_7_64 kw_7_65 kw_1_11 kw_7_66) hy_X10_isNew.2 ⟨Nat.le_of_ble_eq_true rfl, Nat.le_of_ble_eq_true rfl⟩) (fun r_1 m_2 h => ?_)
  obtain ⟨h, hm⟩ := h
  subst hm
  have J33 : ∀ (y_3 : Int32), w_X10_enter_J33 p0 p1 p2 p3 mm Q9 y_3 → V p l e rm_X10_enter s m args below meth c QQ 5 A 0 0 (Rep TT D cA ad false GM mm) 33 [(0, .ref (ad 30 1)), (1, .int p0), (2, .int p1), (3, .int p2), (4, .int p3)] [.int y_3, .ref (ad 30 1)] := by
    intro y_3 h
    unfold w_X10_enter_J33 at h
    refine q_calli (q_runV X hK hZ zo (gm (t := 30) (by decide) (ok1 (t := 30) (Nat.le_of_ble_eq_true rfl))) rfl rfl [.int y_3] [] rfl rfl (Nat.le_of_ble_eq_true rfl) dX10_enter_33 ⟨Nat.le_of_ble_eq_true rfl, Nat.le_of_ble_eq_true rfl⟩ (c_X10_refused ax y_3 mm _ h) rfl rfl (gV kw_7_126 kw_7_128 ks_95 kw_1_11 kw_7_129) hy_X10_refused ⟨Nat.le_of_ble_eq_true rfl, Nat.le_of_ble_eq_true rfl⟩) (fun r_4 m_5 h => ?_)
    refine q_if_eq (tgt := 41) X dX10_enter_36 (by decide) (fun c_6 => ?_) (fun c_6 => ?_)
    · have h := h.1 c_6
      refine q_aload_n (j := 0) X dX10_enter_41 rfl rfl ?_
      refine q_callv (q_runV X hK hZ zo (gm (t := 30) (by decide) (ok1 (t := 30) (Nat.le_of_ble_eq_true rfl))) rfl rfl [] [] rfl rfl (Nat.le_of_ble_eq_true rfl) dX10_enter_42 ⟨Nat.le_of_ble_eq_true rfl, Nat.le_of_ble_eq_true rfl⟩ (c_X10_saves ax m_5 _ h) rfl rfl (gV kw_7_130 kw_7_132 ks_96 kw_1_11 kw_7_133) hy_X10_saves ⟨Nat.le_of_ble_eq_true rfl, Nat.le_of_ble_eq_true rfl⟩) (fun m_8 h => ?_)
      refine q_aload_n (j := 0) X dX10_enter_45 rfl rfl ?_
      refine q_iload_n (j := 1) X dX10_enter_46 rfl rfl ?_
      refine q_iload_n (j := 2) X dX10_enter_47 rfl rfl ?_
      refine q_iload_n (j := 3) X dX10_enter_48 rfl rfl ?_
      refine q_iload (j := 4) X dX10_enter_49 rfl ?_
      refine q_calli (q_runV X hK hZ zo (gm (t := 30) (by decide) (ok1 (t := 30) (Nat.le_of_ble_eq_true rfl))) rfl rfl [.int p0, .int p1, .int p2, .int p3] [] rfl rfl (Nat.le_of_ble_eq_true rfl) dX10_enter_51 ⟨Nat.le_of_ble_eq_true rfl, Nat.le_of_ble_eq_true rfl⟩ (c_X10_enterOn ax p0 p1 p2 p3 m_8 _ h) rfl rfl (gV kw_7_137 kw_7_139 ks_97 kw_1_11 kw_7_140) hy_X10_enterOn ⟨Nat.le_of_ble_eq_true rfl, Nat.le_of_ble_eq_true rfl⟩) (fun r_9 m_10 h => ?_)
      exact hE _ _ _ _ dX10_enter_54 h
    · have h := h.2 c_6
      refine q_iconst (v := 0) X dX10_enter_39 (by decide) ?_
      exact hE _ _ _ _ dX10_enter_40 h
  refine q_if_ne (tgt := 16) X dX10_enter_9 (by decide) (fun c_11 => ?_) (fun c_11 => ?_)
  · have h := h.1 c_11
    refine q_aload_n (j := 0) X dX10_enter_16 rfl rfl ?_
    refine q_iload_n (j := 1) X dX10_enter_17 rfl rfl ?_
    refine q_iload_n (j := 2) X dX10_enter_18 rfl rfl ?_
    refine q_iload_n (j := 3) X dX10_enter_19 rfl rfl ?_
    refine q_iload (j := 4) X dX10_enter_20 rfl ?_
    refine q_calli (q_runV X hK hZ zo (gm (t := 30) (by decide) (ok1 (t := 30) (Nat.le_of_ble_eq_true rfl))) rfl rfl [.int p0, .int p1, .int p2, .int p3] [.ref (ad 30 1)] rfl rfl (Nat.le_of_ble_eq_true rfl) dX10_enter_22 ⟨Nat.le_of_ble_eq_true rfl, Nat.le_of_ble_eq_true rfl⟩ (c_X10_noEntry ax p0 p1 p2 p3 mm _ h) rfl rfl (gV kw_7_83 kw_7_85 ks_85 kw_1_11 kw_7_86) hy_X10_noEntry ⟨Nat.le_of_ble_eq_true rfl, Nat.le_of_ble_eq_true rfl⟩) (fun r_12 m_13 h => ?_)
    obtain ⟨h, hm⟩ := h
    subst hm
    refine q_if_le (tgt := 32) X dX10_enter_25 (by decide) (fun c_14 => ?_) (fun c_14 => ?_)
    · have h := h.1 c_14
      refine q_iconst (v := 0) X dX10_enter_32 (by decide) ?_
      refine q_sub [0, 1, 2, 3, 4] rfl ?_
      exact J33 0 h
    · have h := h.2 c_14
      refine q_iconst (v := 2) X dX10_enter_28 (by decide) ?_
      refine q_goto (tgt := 33) X dX10_enter_29 (by decide) ?_
      refine q_sub [0, 1, 2, 3, 4] rfl ?_
      exact J33 2 h
  · have h := h.2 c_11
    refine q_iconst (v := 1) X dX10_enter_12 (by decide) ?_
    refine q_goto (tgt := 33) X dX10_enter_13 (by decide) ?_
    refine q_sub [0, 1, 2, 3, 4] rfl ?_
    exact J33 1 h
theorem dX10_withdraw_0 : decode cX10_withdraw 0 = .ok (.aload_n 0, 1) := by decide +kernel
theorem dX10_withdraw_1 : decode cX10_withdraw 1 = .ok (.iload_n 1, 1) := by decide +kernel
theorem dX10_withdraw_2 : decode cX10_withdraw 2 = .ok (.invokevirtual 156, 3) := by decide +kernel
theorem dX10_withdraw_5 : decode cX10_withdraw 5 = .ok (.istore_n 3, 1) := by decide +kernel
theorem dX10_withdraw_6 : decode cX10_withdraw 6 = .ok (.aload_n 0, 1) := by decide +kernel
theorem dX10_withdraw_7 : decode cX10_withdraw 7 = .ok (.iload_n 3, 1) := by decide +kernel
theorem dX10_withdraw_8 : decode cX10_withdraw 8 = .ok (.iconst (-1), 1) := by decide +kernel
theorem dX10_withdraw_9 : decode cX10_withdraw 9 = .ok (.if_icmp .ne 7, 3) := by decide +kernel
theorem dX10_withdraw_12 : decode cX10_withdraw 12 = .ok (.iconst 1, 1) := by decide +kernel
theorem dX10_withdraw_13 : decode cX10_withdraw 13 = .ok (.goto 28, 3) := by decide +kernel
theorem dX10_withdraw_16 : decode cX10_withdraw 16 = .ok (.iload_n 2, 1) := by decide +kernel
theorem dX10_withdraw_17 : decode cX10_withdraw 17 = .ok (.invokestatic 132, 3) := by decide +kernel
theorem dX10_withdraw_20 : decode cX10_withdraw 20 = .ok (.ifCond .ne 7, 3) := by decide +kernel
theorem dX10_withdraw_23 : decode cX10_withdraw 23 = .ok (.iconst 2, 1) := by decide +kernel
theorem dX10_withdraw_24 : decode cX10_withdraw 24 = .ok (.goto 17, 3) := by decide +kernel
theorem dX10_withdraw_27 : decode cX10_withdraw 27 = .ok (.aload_n 0, 1) := by decide +kernel
theorem dX10_withdraw_28 : decode cX10_withdraw 28 = .ok (.iload_n 3, 1) := by decide +kernel
theorem dX10_withdraw_29 : decode cX10_withdraw 29 = .ok (.iload_n 2, 1) := by decide +kernel
theorem dX10_withdraw_30 : decode cX10_withdraw 30 = .ok (.invokevirtual 159, 3) := by decide +kernel
theorem dX10_withdraw_33 : decode cX10_withdraw 33 = .ok (.ifCond .le 7, 3) := by decide +kernel
theorem dX10_withdraw_36 : decode cX10_withdraw 36 = .ok (.iconst 3, 1) := by decide +kernel
theorem dX10_withdraw_37 : decode cX10_withdraw 37 = .ok (.goto 4, 3) := by decide +kernel
theorem dX10_withdraw_40 : decode cX10_withdraw 40 = .ok (.iconst 0, 1) := by decide +kernel
theorem dX10_withdraw_41 : decode cX10_withdraw 41 = .ok (.invokevirtual 147, 3) := by decide +kernel
theorem dX10_withdraw_44 : decode cX10_withdraw 44 = .ok (.ifCond .eq 5, 3) := by decide +kernel
theorem dX10_withdraw_47 : decode cX10_withdraw 47 = .ok (.iconst 0, 1) := by decide +kernel
theorem dX10_withdraw_48 : decode cX10_withdraw 48 = .ok (.ireturn, 1) := by decide +kernel
theorem dX10_withdraw_49 : decode cX10_withdraw 49 = .ok (.aload_n 0, 1) := by decide +kernel
theorem dX10_withdraw_50 : decode cX10_withdraw 50 = .ok (.invokevirtual 150, 3) := by decide +kernel
theorem dX10_withdraw_53 : decode cX10_withdraw 53 = .ok (.aload_n 0, 1) := by decide +kernel
theorem dX10_withdraw_54 : decode cX10_withdraw 54 = .ok (.iload_n 3, 1) := by decide +kernel
theorem dX10_withdraw_55 : decode cX10_withdraw 55 = .ok (.iload_n 2, 1) := by decide +kernel
theorem dX10_withdraw_56 : decode cX10_withdraw 56 = .ok (.invokevirtual 162, 3) := by decide +kernel
theorem dX10_withdraw_59 : decode cX10_withdraw 59 = .ok (.ireturn, 1) := by decide +kernel
def w_X10_withdraw_J41 (p1 : Int32) (mm : Mm) (Q9 : Int32 → Mm → Prop) (r_1 : Int32) (y_3 : Int32) : Prop :=
  w_X10_refused y_3 mm (fun (r_4 : Int32) (m_5 : Mm) => ((r_4 = 0 → w_X10_saves m_5 (fun (m_8 : Mm) => w_X10_withdrawOn r_1 p1 m_8 (fun (r_9 : Int32) (m_10 : Mm) => Q9 r_9 m_10))) ∧
  (¬ r_4 = 0 → Q9 0 m_5)))
def w_X10_withdraw (p0 : Int32) (p1 : Int32) (mm : Mm) (Q9 : Int32 → Mm → Prop) : Prop :=
  w_X10_find p0 mm (fun (r_1 : Int32) => ((¬ r_1 = (-1) → w_X10_isWeight p1 mm (fun (r_12 : Int32) => ((¬ r_12 = 0 → w_X10_noWithdrawal r_1 p1 mm (fun (r_15 : Int32) => ((r_15 ≤ 0 → w_X10_withdraw_J41 p1 mm Q9 r_1 0) ∧
  (¬ r_15 ≤ 0 → w_X10_withdraw_J41 p1 mm Q9 r_1 3)))) ∧
  (r_12 = 0 → w_X10_withdraw_J41 p1 mm Q9 r_1 2)))) ∧
  (r_1 = (-1) → w_X10_withdraw_J41 p1 mm Q9 r_1 1)))
def rm_X10_withdraw : Room := { frames := 4, cells := 0, slots := 0, locals := 91 }
theorem hy_X10_withdraw : yX10_withdraw.cls = RX10 ∧ yX10_withdraw.cls ≠ "java/lang/invoke/MethodHandle" ∧ yX10_withdraw.cls ≠ "java/lang/invoke/VarHandle" ∧ (parseMethodDescriptor yX10_withdraw.desc).map (fun d => d.parameters.length) = some 2 := by decide +kernel
set_option maxRecDepth 100000 in
set_option maxHeartbeats 4000000 in
theorem c_X10_withdraw {l : Launch} {D : va_G} {cA : Nat → ClassId} {ad : Nat → Nat → Nat} {A : Nat → Prop} (ax : Ax ad GM A) (p0 : Int32) (p1 : Int32) (mm : Mm) (Q9 : Int32 → Mm → Prop) (h : w_X10_withdraw p0 p1 mm Q9) : Met l yX10_withdraw (.code yX10_withdraw cX10_withdraw 4 (some .int) :: TG) rm_X10_withdraw (PcM TT D cA ad false GM (ZM) [.ref (ad 30 1), .int p0, .int p1] mm) (AnsI TT D cA ad false GM A Q9) 0 0 A := by
  have zo := ZM_ok A
  unfold w_X10_withdraw at h
  refine enterI pl_X10 ⟨rfl, rfl⟩ rfl (Nat.le_of_ble_eq_true rfl) ?_
  intro p e s m args below meth c QQ X hK hZ hnm hE
  refine q_aload_n (j := 0) X dX10_withdraw_0 rfl rfl ?_
  refine q_iload_n (j := 1) X dX10_withdraw_1 rfl rfl ?_
  refine q_calli (q_runV X hK hZ zo (gm (t := 30) (by decide) (ok1 (t := 30) (Nat.le_of_ble_eq_true rfl))) rfl rfl [.int p0] [] rfl rfl (Nat.le_of_ble_eq_true rfl) dX10_withdraw_2 ⟨Nat.le_of_ble_eq_true rfl, Nat.le_of_ble_eq_true rfl⟩ (c_X10_find ax p0 mm _ h) rfl rfl (gV kw_7_157 kw_7_159 ks_101 kw_1_11 kw_7_160) hy_X10_find ⟨Nat.le_of_ble_eq_true rfl, Nat.le_of_ble_eq_true rfl⟩) (fun r_1 m_2 h => ?_)
  obtain ⟨h, hm⟩ := h
  subst hm
  refine q_istore_n (lv' := [(3, .int r_1), (0, .ref (ad 30 1)), (1, .int p0), (2, .int p1)]) X dX10_withdraw_5 rfl (by decide) rfl ?_
  refine q_aload_n (j := 1) X dX10_withdraw_6 rfl rfl ?_
  refine q_iload_n (j := 0) X dX10_withdraw_7 rfl rfl ?_
  refine q_iconst (v := (-1)) X dX10_withdraw_8 (by decide) ?_
  have J41 : ∀ (y_3 : Int32), w_X10_withdraw_J41 p1 mm Q9 r_1 y_3 → V p l e rm_X10_withdraw s m args below meth c QQ 4 A 0 0 (Rep TT D cA ad false GM mm) 41 [(0, .ref (ad 30 1)), (2, .int p1), (3, .int r_1)] [.int y_3, .ref (ad 30 1)] := by
    intro y_3 h
    unfold w_X10_withdraw_J41 at h
    refine q_calli (q_runV X hK hZ zo (gm (t := 30) (by decide) (ok1 (t := 30) (Nat.le_of_ble_eq_true rfl))) rfl rfl [.int y_3] [] rfl rfl (Nat.le_of_ble_eq_true rfl) dX10_withdraw_41 ⟨Nat.le_of_ble_eq_true rfl, Nat.le_of_ble_eq_true rfl⟩ (c_X10_refused ax y_3 mm _ h) rfl rfl (gV kw_7_126 kw_7_128 ks_95 kw_1_11 kw_7_129) hy_X10_refused ⟨Nat.le_of_ble_eq_true rfl, Nat.le_of_ble_eq_true rfl⟩) (fun r_4 m_5 h => ?_)
    refine q_if_eq (tgt := 49) X dX10_withdraw_44 (by decide) (fun c_6 => ?_) (fun c_6 => ?_)
    · have h := h.1 c_6
      refine q_aload_n (j := 0) X dX10_withdraw_49 rfl rfl ?_
      refine q_callv (q_runV X hK hZ zo (gm (t := 30) (by decide) (ok1 (t := 30) (Nat.le_of_ble_eq_true rfl))) rfl rfl [] [] rfl rfl (Nat.le_of_ble_eq_true rfl) dX10_withdraw_50 ⟨Nat.le_of_ble_eq_true rfl, Nat.le_of_ble_eq_true rfl⟩ (c_X10_saves ax m_5 _ h) rfl rfl (gV kw_7_130 kw_7_132 ks_96 kw_1_11 kw_7_133) hy_X10_saves ⟨Nat.le_of_ble_eq_true rfl, Nat.le_of_ble_eq_true rfl⟩) (fun m_8 h => ?_)
      refine q_aload_n (j := 0) X dX10_withdraw_53 rfl rfl ?_
      refine q_iload_n (j := 2) X dX10_withdraw_54 rfl rfl ?_
      refine q_iload_n (j := 1) X dX10_withdraw_55 rfl rfl ?_
      refine q_calli (q_runV X hK hZ zo (gm (t := 30) (by decide) (ok1 (t := 30) (Nat.le_of_ble_eq_true rfl))) rfl rfl [.int r_1, .int p1] [] rfl rfl (Nat.le_of_ble_eq_true rfl) dX10_withdraw_56 ⟨Nat.le_of_ble_eq_true rfl, Nat.le_of_ble_eq_true rfl⟩ (c_X10_withdrawOn ax r_1 p1 m_8 _ h) rfl rfl (gV kw_7_169 kw_7_171 ks_104 kw_1_11 kw_7_172) hy_X10_withdrawOn ⟨Nat.le_of_ble_eq_true rfl, Nat.le_of_ble_eq_true rfl⟩) (fun r_9 m_10 h => ?_)
      exact hE _ _ _ _ dX10_withdraw_59 h
    · have h := h.2 c_6
      refine q_iconst (v := 0) X dX10_withdraw_47 (by decide) ?_
      exact hE _ _ _ _ dX10_withdraw_48 h
  refine q_icmp_ne (tgt := 16) X dX10_withdraw_9 (by decide) (fun c_11 => ?_) (fun c_11 => ?_)
  · have h := h.1 c_11
    refine q_iload_n (j := 3) X dX10_withdraw_16 rfl rfl ?_
    refine q_calli (q_runS X hK hZ zo [.int p1] [.ref (ad 30 1)] rfl rfl (Nat.le_of_ble_eq_true rfl) dX10_withdraw_17 ⟨Nat.le_of_ble_eq_true rfl, Nat.le_of_ble_eq_true rfl⟩ (c_X10_isWeight ax p1 mm _ h) rfl rfl (gS kw_7_74 kw_7_75 kw_1_11 kw_7_76) hy_X10_isWeight.2 ⟨Nat.le_of_ble_eq_true rfl, Nat.le_of_ble_eq_true rfl⟩) (fun r_12 m_13 h => ?_)
    obtain ⟨h, hm⟩ := h
    subst hm
    refine q_if_ne (tgt := 27) X dX10_withdraw_20 (by decide) (fun c_14 => ?_) (fun c_14 => ?_)
    · have h := h.1 c_14
      refine q_aload_n (j := 1) X dX10_withdraw_27 rfl rfl ?_
      refine q_iload_n (j := 0) X dX10_withdraw_28 rfl rfl ?_
      refine q_iload_n (j := 3) X dX10_withdraw_29 rfl rfl ?_
      refine q_calli (q_runV X hK hZ zo (gm (t := 30) (by decide) (ok1 (t := 30) (Nat.le_of_ble_eq_true rfl))) rfl rfl [.int r_1, .int p1] [.ref (ad 30 1)] rfl rfl (Nat.le_of_ble_eq_true rfl) dX10_withdraw_30 ⟨Nat.le_of_ble_eq_true rfl, Nat.le_of_ble_eq_true rfl⟩ (c_X10_noWithdrawal ax r_1 p1 mm _ h) rfl rfl (gV kw_7_161 kw_7_163 ks_102 kw_1_11 kw_7_164) hy_X10_noWithdrawal ⟨Nat.le_of_ble_eq_true rfl, Nat.le_of_ble_eq_true rfl⟩) (fun r_15 m_16 h => ?_)
      obtain ⟨h, hm⟩ := h
      subst hm
      refine q_if_le (tgt := 40) X dX10_withdraw_33 (by decide) (fun c_17 => ?_) (fun c_17 => ?_)
      · have h := h.1 c_17
        refine q_iconst (v := 0) X dX10_withdraw_40 (by decide) ?_
        refine q_sub [1, 3, 0] rfl ?_
        exact J41 0 h
      · have h := h.2 c_17
        refine q_iconst (v := 3) X dX10_withdraw_36 (by decide) ?_
        refine q_goto (tgt := 41) X dX10_withdraw_37 (by decide) ?_
        refine q_sub [1, 3, 0] rfl ?_
        exact J41 3 h
    · have h := h.2 c_14
      refine q_iconst (v := 2) X dX10_withdraw_23 (by decide) ?_
      refine q_goto (tgt := 41) X dX10_withdraw_24 (by decide) ?_
      refine q_sub [1, 3, 0] rfl ?_
      exact J41 2 h
  · have h := h.2 c_11
    refine q_iconst (v := 1) X dX10_withdraw_12 (by decide) ?_
    refine q_goto (tgt := 41) X dX10_withdraw_13 (by decide) ?_
    refine q_sub [1, 3, 0] rfl ?_
    exact J41 1 h
theorem dX10_sendAbroad_0 : decode cX10_sendAbroad 0 = .ok (.aload_n 0, 1) := by decide +kernel
theorem dX10_sendAbroad_1 : decode cX10_sendAbroad 1 = .ok (.iload_n 1, 1) := by decide +kernel
theorem dX10_sendAbroad_2 : decode cX10_sendAbroad 2 = .ok (.invokevirtual 156, 3) := by decide +kernel
theorem dX10_sendAbroad_5 : decode cX10_sendAbroad 5 = .ok (.istore_n 3, 1) := by decide +kernel
theorem dX10_sendAbroad_6 : decode cX10_sendAbroad 6 = .ok (.aload_n 0, 1) := by decide +kernel
theorem dX10_sendAbroad_7 : decode cX10_sendAbroad 7 = .ok (.iload_n 3, 1) := by decide +kernel
theorem dX10_sendAbroad_8 : decode cX10_sendAbroad 8 = .ok (.iconst (-1), 1) := by decide +kernel
theorem dX10_sendAbroad_9 : decode cX10_sendAbroad 9 = .ok (.if_icmp .ne 7, 3) := by decide +kernel
theorem dX10_sendAbroad_12 : decode cX10_sendAbroad 12 = .ok (.iconst 1, 1) := by decide +kernel
theorem dX10_sendAbroad_13 : decode cX10_sendAbroad 13 = .ok (.goto 28, 3) := by decide +kernel
theorem dX10_sendAbroad_16 : decode cX10_sendAbroad 16 = .ok (.iload_n 2, 1) := by decide +kernel
theorem dX10_sendAbroad_17 : decode cX10_sendAbroad 17 = .ok (.invokestatic 132, 3) := by decide +kernel
theorem dX10_sendAbroad_20 : decode cX10_sendAbroad 20 = .ok (.ifCond .ne 7, 3) := by decide +kernel
theorem dX10_sendAbroad_23 : decode cX10_sendAbroad 23 = .ok (.iconst 2, 1) := by decide +kernel
theorem dX10_sendAbroad_24 : decode cX10_sendAbroad 24 = .ok (.goto 17, 3) := by decide +kernel
theorem dX10_sendAbroad_27 : decode cX10_sendAbroad 27 = .ok (.aload_n 0, 1) := by decide +kernel
theorem dX10_sendAbroad_28 : decode cX10_sendAbroad 28 = .ok (.iload_n 3, 1) := by decide +kernel
theorem dX10_sendAbroad_29 : decode cX10_sendAbroad 29 = .ok (.iload_n 2, 1) := by decide +kernel
theorem dX10_sendAbroad_30 : decode cX10_sendAbroad 30 = .ok (.invokevirtual 165, 3) := by decide +kernel
theorem dX10_sendAbroad_33 : decode cX10_sendAbroad 33 = .ok (.ifCond .le 7, 3) := by decide +kernel
theorem dX10_sendAbroad_36 : decode cX10_sendAbroad 36 = .ok (.iconst 3, 1) := by decide +kernel
theorem dX10_sendAbroad_37 : decode cX10_sendAbroad 37 = .ok (.goto 4, 3) := by decide +kernel
theorem dX10_sendAbroad_40 : decode cX10_sendAbroad 40 = .ok (.iconst 0, 1) := by decide +kernel
theorem dX10_sendAbroad_41 : decode cX10_sendAbroad 41 = .ok (.invokevirtual 147, 3) := by decide +kernel
theorem dX10_sendAbroad_44 : decode cX10_sendAbroad 44 = .ok (.ifCond .eq 5, 3) := by decide +kernel
theorem dX10_sendAbroad_47 : decode cX10_sendAbroad 47 = .ok (.iconst 0, 1) := by decide +kernel
theorem dX10_sendAbroad_48 : decode cX10_sendAbroad 48 = .ok (.ireturn, 1) := by decide +kernel
theorem dX10_sendAbroad_49 : decode cX10_sendAbroad 49 = .ok (.aload_n 0, 1) := by decide +kernel
theorem dX10_sendAbroad_50 : decode cX10_sendAbroad 50 = .ok (.invokevirtual 150, 3) := by decide +kernel
theorem dX10_sendAbroad_53 : decode cX10_sendAbroad 53 = .ok (.aload_n 0, 1) := by decide +kernel
theorem dX10_sendAbroad_54 : decode cX10_sendAbroad 54 = .ok (.iload_n 3, 1) := by decide +kernel
theorem dX10_sendAbroad_55 : decode cX10_sendAbroad 55 = .ok (.iload_n 2, 1) := by decide +kernel
theorem dX10_sendAbroad_56 : decode cX10_sendAbroad 56 = .ok (.invokevirtual 168, 3) := by decide +kernel
theorem dX10_sendAbroad_59 : decode cX10_sendAbroad 59 = .ok (.ireturn, 1) := by decide +kernel
def w_X10_sendAbroad_J41 (p1 : Int32) (mm : Mm) (Q9 : Int32 → Mm → Prop) (r_1 : Int32) (y_3 : Int32) : Prop :=
  w_X10_refused y_3 mm (fun (r_4 : Int32) (m_5 : Mm) => ((r_4 = 0 → w_X10_saves m_5 (fun (m_8 : Mm) => w_X10_sendOn r_1 p1 m_8 (fun (r_9 : Int32) (m_10 : Mm) => Q9 r_9 m_10))) ∧
  (¬ r_4 = 0 → Q9 0 m_5)))
def w_X10_sendAbroad (p0 : Int32) (p1 : Int32) (mm : Mm) (Q9 : Int32 → Mm → Prop) : Prop :=
  w_X10_find p0 mm (fun (r_1 : Int32) => ((¬ r_1 = (-1) → w_X10_isWeight p1 mm (fun (r_12 : Int32) => ((¬ r_12 = 0 → w_X10_noExport r_1 p1 mm (fun (r_15 : Int32) => ((r_15 ≤ 0 → w_X10_sendAbroad_J41 p1 mm Q9 r_1 0) ∧
  (¬ r_15 ≤ 0 → w_X10_sendAbroad_J41 p1 mm Q9 r_1 3)))) ∧
  (r_12 = 0 → w_X10_sendAbroad_J41 p1 mm Q9 r_1 2)))) ∧
  (r_1 = (-1) → w_X10_sendAbroad_J41 p1 mm Q9 r_1 1)))
def rm_X10_sendAbroad : Room := { frames := 4, cells := 0, slots := 0, locals := 90 }
theorem hy_X10_sendAbroad : yX10_sendAbroad.cls = RX10 ∧ yX10_sendAbroad.cls ≠ "java/lang/invoke/MethodHandle" ∧ yX10_sendAbroad.cls ≠ "java/lang/invoke/VarHandle" ∧ (parseMethodDescriptor yX10_sendAbroad.desc).map (fun d => d.parameters.length) = some 2 := by decide +kernel
set_option maxRecDepth 100000 in
set_option maxHeartbeats 4000000 in
theorem c_X10_sendAbroad {l : Launch} {D : va_G} {cA : Nat → ClassId} {ad : Nat → Nat → Nat} {A : Nat → Prop} (ax : Ax ad GM A) (p0 : Int32) (p1 : Int32) (mm : Mm) (Q9 : Int32 → Mm → Prop) (h : w_X10_sendAbroad p0 p1 mm Q9) : Met l yX10_sendAbroad (.code yX10_sendAbroad cX10_sendAbroad 4 (some .int) :: TG) rm_X10_sendAbroad (PcM TT D cA ad false GM (ZM) [.ref (ad 30 1), .int p0, .int p1] mm) (AnsI TT D cA ad false GM A Q9) 0 0 A := by
  have zo := ZM_ok A
  unfold w_X10_sendAbroad at h
  refine enterI pl_X10 ⟨rfl, rfl⟩ rfl (Nat.le_of_ble_eq_true rfl) ?_
  intro p e s m args below meth c QQ X hK hZ hnm hE
  refine q_aload_n (j := 0) X dX10_sendAbroad_0 rfl rfl ?_
  refine q_iload_n (j := 1) X dX10_sendAbroad_1 rfl rfl ?_
  refine q_calli (q_runV X hK hZ zo (gm (t := 30) (by decide) (ok1 (t := 30) (Nat.le_of_ble_eq_true rfl))) rfl rfl [.int p0] [] rfl rfl (Nat.le_of_ble_eq_true rfl) dX10_sendAbroad_2 ⟨Nat.le_of_ble_eq_true rfl, Nat.le_of_ble_eq_true rfl⟩ (c_X10_find ax p0 mm _ h) rfl rfl (gV kw_7_157 kw_7_159 ks_101 kw_1_11 kw_7_160) hy_X10_find ⟨Nat.le_of_ble_eq_true rfl, Nat.le_of_ble_eq_true rfl⟩) (fun r_1 m_2 h => ?_)
  obtain ⟨h, hm⟩ := h
  subst hm
  refine q_istore_n (lv' := [(3, .int r_1), (0, .ref (ad 30 1)), (1, .int p0), (2, .int p1)]) X dX10_sendAbroad_5 rfl (by decide) rfl ?_
  refine q_aload_n (j := 1) X dX10_sendAbroad_6 rfl rfl ?_
  refine q_iload_n (j := 0) X dX10_sendAbroad_7 rfl rfl ?_
  refine q_iconst (v := (-1)) X dX10_sendAbroad_8 (by decide) ?_
  have J41 : ∀ (y_3 : Int32), w_X10_sendAbroad_J41 p1 mm Q9 r_1 y_3 → V p l e rm_X10_sendAbroad s m args below meth c QQ 4 A 0 0 (Rep TT D cA ad false GM mm) 41 [(0, .ref (ad 30 1)), (2, .int p1), (3, .int r_1)] [.int y_3, .ref (ad 30 1)] := by
    intro y_3 h
    unfold w_X10_sendAbroad_J41 at h
    refine q_calli (q_runV X hK hZ zo (gm (t := 30) (by decide) (ok1 (t := 30) (Nat.le_of_ble_eq_true rfl))) rfl rfl [.int y_3] [] rfl rfl (Nat.le_of_ble_eq_true rfl) dX10_sendAbroad_41 ⟨Nat.le_of_ble_eq_true rfl, Nat.le_of_ble_eq_true rfl⟩ (c_X10_refused ax y_3 mm _ h) rfl rfl (gV kw_7_126 kw_7_128 ks_95 kw_1_11 kw_7_129) hy_X10_refused ⟨Nat.le_of_ble_eq_true rfl, Nat.le_of_ble_eq_true rfl⟩) (fun r_4 m_5 h => ?_)
    refine q_if_eq (tgt := 49) X dX10_sendAbroad_44 (by decide) (fun c_6 => ?_) (fun c_6 => ?_)
    · have h := h.1 c_6
      refine q_aload_n (j := 0) X dX10_sendAbroad_49 rfl rfl ?_
      refine q_callv (q_runV X hK hZ zo (gm (t := 30) (by decide) (ok1 (t := 30) (Nat.le_of_ble_eq_true rfl))) rfl rfl [] [] rfl rfl (Nat.le_of_ble_eq_true rfl) dX10_sendAbroad_50 ⟨Nat.le_of_ble_eq_true rfl, Nat.le_of_ble_eq_true rfl⟩ (c_X10_saves ax m_5 _ h) rfl rfl (gV kw_7_130 kw_7_132 ks_96 kw_1_11 kw_7_133) hy_X10_saves ⟨Nat.le_of_ble_eq_true rfl, Nat.le_of_ble_eq_true rfl⟩) (fun m_8 h => ?_)
      refine q_aload_n (j := 0) X dX10_sendAbroad_53 rfl rfl ?_
      refine q_iload_n (j := 2) X dX10_sendAbroad_54 rfl rfl ?_
      refine q_iload_n (j := 1) X dX10_sendAbroad_55 rfl rfl ?_
      refine q_calli (q_runV X hK hZ zo (gm (t := 30) (by decide) (ok1 (t := 30) (Nat.le_of_ble_eq_true rfl))) rfl rfl [.int r_1, .int p1] [] rfl rfl (Nat.le_of_ble_eq_true rfl) dX10_sendAbroad_56 ⟨Nat.le_of_ble_eq_true rfl, Nat.le_of_ble_eq_true rfl⟩ (c_X10_sendOn ax r_1 p1 m_8 _ h) rfl rfl (gV kw_7_193 kw_7_195 ks_109 kw_1_11 kw_7_196) hy_X10_sendOn ⟨Nat.le_of_ble_eq_true rfl, Nat.le_of_ble_eq_true rfl⟩) (fun r_9 m_10 h => ?_)
      exact hE _ _ _ _ dX10_sendAbroad_59 h
    · have h := h.2 c_6
      refine q_iconst (v := 0) X dX10_sendAbroad_47 (by decide) ?_
      exact hE _ _ _ _ dX10_sendAbroad_48 h
  refine q_icmp_ne (tgt := 16) X dX10_sendAbroad_9 (by decide) (fun c_11 => ?_) (fun c_11 => ?_)
  · have h := h.1 c_11
    refine q_iload_n (j := 3) X dX10_sendAbroad_16 rfl rfl ?_
    refine q_calli (q_runS X hK hZ zo [.int p1] [.ref (ad 30 1)] rfl rfl (Nat.le_of_ble_eq_true rfl) dX10_sendAbroad_17 ⟨Nat.le_of_ble_eq_true rfl, Nat.le_of_ble_eq_true rfl⟩ (c_X10_isWeight ax p1 mm _ h) rfl rfl (gS kw_7_74 kw_7_75 kw_1_11 kw_7_76) hy_X10_isWeight.2 ⟨Nat.le_of_ble_eq_true rfl, Nat.le_of_ble_eq_true rfl⟩) (fun r_12 m_13 h => ?_)
    obtain ⟨h, hm⟩ := h
    subst hm
    refine q_if_ne (tgt := 27) X dX10_sendAbroad_20 (by decide) (fun c_14 => ?_) (fun c_14 => ?_)
    · have h := h.1 c_14
      refine q_aload_n (j := 1) X dX10_sendAbroad_27 rfl rfl ?_
      refine q_iload_n (j := 0) X dX10_sendAbroad_28 rfl rfl ?_
      refine q_iload_n (j := 3) X dX10_sendAbroad_29 rfl rfl ?_
      refine q_calli (q_runV X hK hZ zo (gm (t := 30) (by decide) (ok1 (t := 30) (Nat.le_of_ble_eq_true rfl))) rfl rfl [.int r_1, .int p1] [.ref (ad 30 1)] rfl rfl (Nat.le_of_ble_eq_true rfl) dX10_sendAbroad_30 ⟨Nat.le_of_ble_eq_true rfl, Nat.le_of_ble_eq_true rfl⟩ (c_X10_noExport ax r_1 p1 mm _ h) rfl rfl (gV kw_7_189 kw_7_191 ks_108 kw_1_11 kw_7_192) hy_X10_noExport ⟨Nat.le_of_ble_eq_true rfl, Nat.le_of_ble_eq_true rfl⟩) (fun r_15 m_16 h => ?_)
      obtain ⟨h, hm⟩ := h
      subst hm
      refine q_if_le (tgt := 40) X dX10_sendAbroad_33 (by decide) (fun c_17 => ?_) (fun c_17 => ?_)
      · have h := h.1 c_17
        refine q_iconst (v := 0) X dX10_sendAbroad_40 (by decide) ?_
        refine q_sub [1, 3, 0] rfl ?_
        exact J41 0 h
      · have h := h.2 c_17
        refine q_iconst (v := 3) X dX10_sendAbroad_36 (by decide) ?_
        refine q_goto (tgt := 41) X dX10_sendAbroad_37 (by decide) ?_
        refine q_sub [1, 3, 0] rfl ?_
        exact J41 3 h
    · have h := h.2 c_14
      refine q_iconst (v := 2) X dX10_sendAbroad_23 (by decide) ?_
      refine q_goto (tgt := 41) X dX10_sendAbroad_24 (by decide) ?_
      refine q_sub [1, 3, 0] rfl ?_
      exact J41 2 h
  · have h := h.2 c_11
    refine q_iconst (v := 1) X dX10_sendAbroad_12 (by decide) ?_
    refine q_goto (tgt := 41) X dX10_sendAbroad_13 (by decide) ?_
    refine q_sub [1, 3, 0] rfl ?_
    exact J41 1 h
theorem dX10_isPaper_0 : decode cX10_isPaper 0 = .ok (.iload_n 1, 1) := by decide +kernel
theorem dX10_isPaper_1 : decode cX10_isPaper 1 = .ok (.i2l, 1) := by decide +kernel
theorem dX10_isPaper_2 : decode cX10_isPaper 2 = .ok (.lconst 0, 1) := by decide +kernel
theorem dX10_isPaper_3 : decode cX10_isPaper 3 = .ok (.aload_n 0, 1) := by decide +kernel
theorem dX10_isPaper_4 : decode cX10_isPaper 4 = .ok (.getfield 13, 3) := by decide +kernel
theorem dX10_isPaper_7 : decode cX10_isPaper 7 = .ok (.bipush 68, 2) := by decide +kernel
theorem dX10_isPaper_9 : decode cX10_isPaper 9 = .ok (.iaload, 1) := by decide +kernel
theorem dX10_isPaper_10 : decode cX10_isPaper 10 = .ok (.iconst 1, 1) := by decide +kernel
theorem dX10_isPaper_11 : decode cX10_isPaper 11 = .ok (.isub, 1) := by decide +kernel
theorem dX10_isPaper_12 : decode cX10_isPaper 12 = .ok (.i2l, 1) := by decide +kernel
theorem dX10_isPaper_13 : decode cX10_isPaper 13 = .ok (.invokestatic 35, 3) := by decide +kernel
theorem dX10_isPaper_16 : decode cX10_isPaper 16 = .ok (.ireturn, 1) := by decide +kernel
def w_X10_isPaper (p0 : Int32) (mm : Mm) (Q9 : Int32 → Prop) : Prop :=
  w_X10_in (Int32.toInt64 p0) (0 : Int64) (Int32.toInt64 ((mm.1 32 1 68) - 1)) mm (fun (r_1 : Int32) => isB r_1 ∧ Q9 r_1)
def rm_X10_isPaper : Room := { frames := 1, cells := 0, slots := 0, locals := 25 }
theorem hy_X10_isPaper : yX10_isPaper.cls = RX10 ∧ yX10_isPaper.cls ≠ "java/lang/invoke/MethodHandle" ∧ yX10_isPaper.cls ≠ "java/lang/invoke/VarHandle" ∧ (parseMethodDescriptor yX10_isPaper.desc).map (fun d => d.parameters.length) = some 1 := by decide +kernel
set_option maxRecDepth 100000 in
set_option maxHeartbeats 4000000 in
theorem c_X10_isPaper {l : Launch} {D : va_G} {cA : Nat → ClassId} {ad : Nat → Nat → Nat} {A : Nat → Prop} (ax : Ax ad GM A) (p0 : Int32) (mm : Mm) (Q9 : Int32 → Prop) (h : w_X10_isPaper p0 mm Q9) : Met l yX10_isPaper (.code yX10_isPaper cX10_isPaper 2 (some .boolean) :: TG) rm_X10_isPaper (PcM TT D cA ad false GM (ZM) [.ref (ad 30 1), .int p0] mm) (AnsI TT D cA ad false GM A (fun r mm' => Q9 r ∧ mm = mm')) 0 0 A := by
  have zo := ZM_ok A
  unfold w_X10_isPaper at h
  refine enterZ pl_X10 ⟨rfl, rfl⟩ rfl (Nat.le_of_ble_eq_true rfl) ?_
  intro p e s m args below meth c QQ X hK hZ hnm hE
  refine q_iload_n (j := 1) X dX10_isPaper_0 rfl rfl ?_
  refine q_i2l X dX10_isPaper_1 ?_
  refine q_lconst (v := 0) X dX10_isPaper_2 (by decide) ?_
  refine q_aload_n (j := 0) X dX10_isPaper_3 rfl rfl ?_
  refine q_get (k := 3) (v := .ref (ad 32 1)) X hK rfl rfl (Nat.le_of_ble_eq_true rfl) inTX10 (gm (t := 30) (by decide) (ok1 (t := 30) (Nat.le_of_ble_eq_true rfl))) kw_7_10 rfl (rv_nn (a := ad 32) (r := 1) (ok1 (t := 32) (Nat.le_of_ble_eq_true rfl)).1) dX10_isPaper_4 ?_
  refine q_bipush (v := 68) X dX10_isPaper_7 (by decide) ?_
  refine q_iald (t := 32) (i := 1) (jn := 68) (v := .int (mm.1 32 1 68)) X hK rfl rfl (gm (t := 32) (by decide) (ok1 (t := 32) (Nat.le_of_ble_eq_true rfl))) rfl (vpl (by decide +kernel)) (by decide +kernel) rfl dX10_isPaper_9 ?_
  refine q_iconst (v := 1) X dX10_isPaper_10 (by decide) ?_
  refine q_isub X dX10_isPaper_11 ?_
  refine q_i2l X dX10_isPaper_12 ?_
  refine q_calli (q_runS X hK hZ zo [.long (Int32.toInt64 p0), .long (0 : Int64), .long (Int32.toInt64 ((mm.1 32 1 68) - 1))] [] rfl rfl (Nat.le_of_ble_eq_true rfl) dX10_isPaper_13 ⟨Nat.le_of_ble_eq_true rfl, Nat.le_of_ble_eq_true rfl⟩ (c_X10_in ax (Int32.toInt64 p0) (0 : Int64) (Int32.toInt64 ((mm.1 32 1 68) - 1)) mm _ h) rfl rfl (gS kw_7_71 kw_7_72 kw_1_11 kw_7_73) hy_X10_in.2 ⟨Nat.le_of_ble_eq_true rfl, Nat.le_of_ble_eq_true rfl⟩) (fun r_1 m_2 h => ?_)
  obtain ⟨h, hm⟩ := h
  subst hm
  obtain ⟨b_3, h⟩ := h
  exact hE _ _ _ _ dX10_isPaper_16 b_3 ⟨h, rfl⟩
theorem dX10_drawBack_0 : decode cX10_drawBack 0 = .ok (.aload_n 0, 1) := by decide +kernel
theorem dX10_drawBack_1 : decode cX10_drawBack 1 = .ok (.aload_n 0, 1) := by decide +kernel
theorem dX10_drawBack_2 : decode cX10_drawBack 2 = .ok (.iload_n 1, 1) := by decide +kernel
theorem dX10_drawBack_3 : decode cX10_drawBack 3 = .ok (.invokevirtual 171, 3) := by decide +kernel
theorem dX10_drawBack_6 : decode cX10_drawBack 6 = .ok (.ifCond .ne 7, 3) := by decide +kernel
theorem dX10_drawBack_9 : decode cX10_drawBack 9 = .ok (.iconst 1, 1) := by decide +kernel
theorem dX10_drawBack_10 : decode cX10_drawBack 10 = .ok (.goto 28, 3) := by decide +kernel
theorem dX10_drawBack_13 : decode cX10_drawBack 13 = .ok (.iload_n 2, 1) := by decide +kernel
theorem dX10_drawBack_14 : decode cX10_drawBack 14 = .ok (.invokestatic 132, 3) := by decide +kernel
theorem dX10_drawBack_17 : decode cX10_drawBack 17 = .ok (.ifCond .ne 7, 3) := by decide +kernel
theorem dX10_drawBack_20 : decode cX10_drawBack 20 = .ok (.iconst 2, 1) := by decide +kernel
theorem dX10_drawBack_21 : decode cX10_drawBack 21 = .ok (.goto 17, 3) := by decide +kernel
theorem dX10_drawBack_24 : decode cX10_drawBack 24 = .ok (.aload_n 0, 1) := by decide +kernel
theorem dX10_drawBack_25 : decode cX10_drawBack 25 = .ok (.iload_n 1, 1) := by decide +kernel
theorem dX10_drawBack_26 : decode cX10_drawBack 26 = .ok (.iload_n 2, 1) := by decide +kernel
theorem dX10_drawBack_27 : decode cX10_drawBack 27 = .ok (.invokevirtual 174, 3) := by decide +kernel
theorem dX10_drawBack_30 : decode cX10_drawBack 30 = .ok (.ifCond .le 7, 3) := by decide +kernel
theorem dX10_drawBack_33 : decode cX10_drawBack 33 = .ok (.iconst 3, 1) := by decide +kernel
theorem dX10_drawBack_34 : decode cX10_drawBack 34 = .ok (.goto 4, 3) := by decide +kernel
theorem dX10_drawBack_37 : decode cX10_drawBack 37 = .ok (.iconst 0, 1) := by decide +kernel
theorem dX10_drawBack_38 : decode cX10_drawBack 38 = .ok (.invokevirtual 147, 3) := by decide +kernel
theorem dX10_drawBack_41 : decode cX10_drawBack 41 = .ok (.ifCond .eq 5, 3) := by decide +kernel
theorem dX10_drawBack_44 : decode cX10_drawBack 44 = .ok (.iconst 0, 1) := by decide +kernel
theorem dX10_drawBack_45 : decode cX10_drawBack 45 = .ok (.ireturn, 1) := by decide +kernel
theorem dX10_drawBack_46 : decode cX10_drawBack 46 = .ok (.aload_n 0, 1) := by decide +kernel
theorem dX10_drawBack_47 : decode cX10_drawBack 47 = .ok (.invokevirtual 150, 3) := by decide +kernel
theorem dX10_drawBack_50 : decode cX10_drawBack 50 = .ok (.aload_n 0, 1) := by decide +kernel
theorem dX10_drawBack_51 : decode cX10_drawBack 51 = .ok (.iload_n 1, 1) := by decide +kernel
theorem dX10_drawBack_52 : decode cX10_drawBack 52 = .ok (.iload_n 2, 1) := by decide +kernel
theorem dX10_drawBack_53 : decode cX10_drawBack 53 = .ok (.invokevirtual 177, 3) := by decide +kernel
theorem dX10_drawBack_56 : decode cX10_drawBack 56 = .ok (.ireturn, 1) := by decide +kernel
def w_X10_drawBack_J38 (p0 : Int32) (p1 : Int32) (mm : Mm) (Q9 : Int32 → Mm → Prop) (y_3 : Int32) : Prop :=
  w_X10_refused y_3 mm (fun (r_4 : Int32) (m_5 : Mm) => ((r_4 = 0 → w_X10_saves m_5 (fun (m_8 : Mm) => w_X10_drawOn p0 p1 m_8 (fun (r_9 : Int32) (m_10 : Mm) => Q9 r_9 m_10))) ∧
  (¬ r_4 = 0 → Q9 0 m_5)))
def w_X10_drawBack (p0 : Int32) (p1 : Int32) (mm : Mm) (Q9 : Int32 → Mm → Prop) : Prop :=
  w_X10_isPaper p0 mm (fun (r_1 : Int32) => ((¬ r_1 = 0 → w_X10_isWeight p1 mm (fun (r_12 : Int32) => ((¬ r_12 = 0 → w_X10_noDrawback p0 p1 mm (fun (r_15 : Int32) => ((r_15 ≤ 0 → w_X10_drawBack_J38 p0 p1 mm Q9 0) ∧
  (¬ r_15 ≤ 0 → w_X10_drawBack_J38 p0 p1 mm Q9 3)))) ∧
  (r_12 = 0 → w_X10_drawBack_J38 p0 p1 mm Q9 2)))) ∧
  (r_1 = 0 → w_X10_drawBack_J38 p0 p1 mm Q9 1)))
def rm_X10_drawBack : Room := { frames := 3, cells := 0, slots := 0, locals := 68 }
theorem hy_X10_drawBack : yX10_drawBack.cls = RX10 ∧ yX10_drawBack.cls ≠ "java/lang/invoke/MethodHandle" ∧ yX10_drawBack.cls ≠ "java/lang/invoke/VarHandle" ∧ (parseMethodDescriptor yX10_drawBack.desc).map (fun d => d.parameters.length) = some 2 := by decide +kernel
set_option maxRecDepth 100000 in
set_option maxHeartbeats 4000000 in
theorem c_X10_drawBack {l : Launch} {D : va_G} {cA : Nat → ClassId} {ad : Nat → Nat → Nat} {A : Nat → Prop} (ax : Ax ad GM A) (p0 : Int32) (p1 : Int32) (mm : Mm) (Q9 : Int32 → Mm → Prop) (h : w_X10_drawBack p0 p1 mm Q9) : Met l yX10_drawBack (.code yX10_drawBack cX10_drawBack 3 (some .int) :: TG) rm_X10_drawBack (PcM TT D cA ad false GM (ZM) [.ref (ad 30 1), .int p0, .int p1] mm) (AnsI TT D cA ad false GM A Q9) 0 0 A := by
  have zo := ZM_ok A
  unfold w_X10_drawBack at h
  refine enterI pl_X10 ⟨rfl, rfl⟩ rfl (Nat.le_of_ble_eq_true rfl) ?_
  intro p e s m args below meth c QQ X hK hZ hnm hE
  refine q_aload_n (j := 0) X dX10_drawBack_0 rfl rfl ?_
  refine q_aload_n (j := 0) X dX10_drawBack_1 rfl rfl ?_
  refine q_iload_n (j := 1) X dX10_drawBack_2 rfl rfl ?_
  refine q_calli (q_runV X hK hZ zo (gm (t := 30) (by decide) (ok1 (t := 30) (Nat.le_of_ble_eq_true rfl))) rfl rfl [.int p0] [.ref (ad 30 1)] rfl rfl (Nat.le_of_ble_eq_true rfl) dX10_drawBack_3 ⟨Nat.le_of_ble_eq_true rfl, Nat.le_of_ble_eq_true rfl⟩ (c_X10_isPaper ax p0 mm _ h) rfl rfl (gV kw_7_201 kw_7_203 ks_110 kw_1_11 kw_7_204) hy_X10_isPaper ⟨Nat.le_of_ble_eq_true rfl, Nat.le_of_ble_eq_true rfl⟩) (fun r_1 m_2 h => ?_)
  obtain ⟨h, hm⟩ := h
  subst hm
  have J38 : ∀ (y_3 : Int32), w_X10_drawBack_J38 p0 p1 mm Q9 y_3 → V p l e rm_X10_drawBack s m args below meth c QQ 3 A 0 0 (Rep TT D cA ad false GM mm) 38 [(0, .ref (ad 30 1)), (1, .int p0), (2, .int p1)] [.int y_3, .ref (ad 30 1)] := by
    intro y_3 h
    unfold w_X10_drawBack_J38 at h
    refine q_calli (q_runV X hK hZ zo (gm (t := 30) (by decide) (ok1 (t := 30) (Nat.le_of_ble_eq_true rfl))) rfl rfl [.int y_3] [] rfl rfl (Nat.le_of_ble_eq_true rfl) dX10_drawBack_38 ⟨Nat.le_of_ble_eq_true rfl, Nat.le_of_ble_eq_true rfl⟩ (c_X10_refused ax y_3 mm _ h) rfl rfl (gV kw_7_126 kw_7_128 ks_95 kw_1_11 kw_7_129) hy_X10_refused ⟨Nat.le_of_ble_eq_true rfl, Nat.le_of_ble_eq_true rfl⟩) (fun r_4 m_5 h => ?_)
    refine q_if_eq (tgt := 46) X dX10_drawBack_41 (by decide) (fun c_6 => ?_) (fun c_6 => ?_)
    · have h := h.1 c_6
      refine q_aload_n (j := 0) X dX10_drawBack_46 rfl rfl ?_
      refine q_callv (q_runV X hK hZ zo (gm (t := 30) (by decide) (ok1 (t := 30) (Nat.le_of_ble_eq_true rfl))) rfl rfl [] [] rfl rfl (Nat.le_of_ble_eq_true rfl) dX10_drawBack_47 ⟨Nat.le_of_ble_eq_true rfl, Nat.le_of_ble_eq_true rfl⟩ (c_X10_saves ax m_5 _ h) rfl rfl (gV kw_7_130 kw_7_132 ks_96 kw_1_11 kw_7_133) hy_X10_saves ⟨Nat.le_of_ble_eq_true rfl, Nat.le_of_ble_eq_true rfl⟩) (fun m_8 h => ?_)
      refine q_aload_n (j := 0) X dX10_drawBack_50 rfl rfl ?_
      refine q_iload_n (j := 1) X dX10_drawBack_51 rfl rfl ?_
      refine q_iload_n (j := 2) X dX10_drawBack_52 rfl rfl ?_
      refine q_calli (q_runV X hK hZ zo (gm (t := 30) (by decide) (ok1 (t := 30) (Nat.le_of_ble_eq_true rfl))) rfl rfl [.int p0, .int p1] [] rfl rfl (Nat.le_of_ble_eq_true rfl) dX10_drawBack_53 ⟨Nat.le_of_ble_eq_true rfl, Nat.le_of_ble_eq_true rfl⟩ (c_X10_drawOn ax p0 p1 m_8 _ h) rfl rfl (gV kw_7_209 kw_7_211 ks_112 kw_1_11 kw_7_212) hy_X10_drawOn ⟨Nat.le_of_ble_eq_true rfl, Nat.le_of_ble_eq_true rfl⟩) (fun r_9 m_10 h => ?_)
      exact hE _ _ _ _ dX10_drawBack_56 h
    · have h := h.2 c_6
      refine q_iconst (v := 0) X dX10_drawBack_44 (by decide) ?_
      exact hE _ _ _ _ dX10_drawBack_45 h
  refine q_if_ne (tgt := 13) X dX10_drawBack_6 (by decide) (fun c_11 => ?_) (fun c_11 => ?_)
  · have h := h.1 c_11
    refine q_iload_n (j := 2) X dX10_drawBack_13 rfl rfl ?_
    refine q_calli (q_runS X hK hZ zo [.int p1] [.ref (ad 30 1)] rfl rfl (Nat.le_of_ble_eq_true rfl) dX10_drawBack_14 ⟨Nat.le_of_ble_eq_true rfl, Nat.le_of_ble_eq_true rfl⟩ (c_X10_isWeight ax p1 mm _ h) rfl rfl (gS kw_7_74 kw_7_75 kw_1_11 kw_7_76) hy_X10_isWeight.2 ⟨Nat.le_of_ble_eq_true rfl, Nat.le_of_ble_eq_true rfl⟩) (fun r_12 m_13 h => ?_)
    obtain ⟨h, hm⟩ := h
    subst hm
    refine q_if_ne (tgt := 24) X dX10_drawBack_17 (by decide) (fun c_14 => ?_) (fun c_14 => ?_)
    · have h := h.1 c_14
      refine q_aload_n (j := 0) X dX10_drawBack_24 rfl rfl ?_
      refine q_iload_n (j := 1) X dX10_drawBack_25 rfl rfl ?_
      refine q_iload_n (j := 2) X dX10_drawBack_26 rfl rfl ?_
      refine q_calli (q_runV X hK hZ zo (gm (t := 30) (by decide) (ok1 (t := 30) (Nat.le_of_ble_eq_true rfl))) rfl rfl [.int p0, .int p1] [.ref (ad 30 1)] rfl rfl (Nat.le_of_ble_eq_true rfl) dX10_drawBack_27 ⟨Nat.le_of_ble_eq_true rfl, Nat.le_of_ble_eq_true rfl⟩ (c_X10_noDrawback ax p0 p1 mm _ h) rfl rfl (gV kw_7_205 kw_7_207 ks_111 kw_1_11 kw_7_208) hy_X10_noDrawback ⟨Nat.le_of_ble_eq_true rfl, Nat.le_of_ble_eq_true rfl⟩) (fun r_15 m_16 h => ?_)
      obtain ⟨h, hm⟩ := h
      subst hm
      refine q_if_le (tgt := 37) X dX10_drawBack_30 (by decide) (fun c_17 => ?_) (fun c_17 => ?_)
      · have h := h.1 c_17
        refine q_iconst (v := 0) X dX10_drawBack_37 (by decide) ?_
        refine q_sub [0, 1, 2] rfl ?_
        exact J38 0 h
      · have h := h.2 c_17
        refine q_iconst (v := 3) X dX10_drawBack_33 (by decide) ?_
        refine q_goto (tgt := 38) X dX10_drawBack_34 (by decide) ?_
        refine q_sub [0, 1, 2] rfl ?_
        exact J38 3 h
    · have h := h.2 c_14
      refine q_iconst (v := 2) X dX10_drawBack_20 (by decide) ?_
      refine q_goto (tgt := 38) X dX10_drawBack_21 (by decide) ?_
      refine q_sub [0, 1, 2] rfl ?_
      exact J38 2 h
  · have h := h.2 c_11
    refine q_iconst (v := 1) X dX10_drawBack_9 (by decide) ?_
    refine q_goto (tgt := 38) X dX10_drawBack_10 (by decide) ?_
    refine q_sub [0, 1, 2] rfl ?_
    exact J38 1 h
theorem dX10_move_0 : decode cX10_move 0 = .ok (.aload_n 0, 1) := by decide +kernel
theorem dX10_move_1 : decode cX10_move 1 = .ok (.iload_n 1, 1) := by decide +kernel
theorem dX10_move_2 : decode cX10_move 2 = .ok (.invokevirtual 156, 3) := by decide +kernel
theorem dX10_move_5 : decode cX10_move 5 = .ok (.istore_n 3, 1) := by decide +kernel
theorem dX10_move_6 : decode cX10_move 6 = .ok (.aload_n 0, 1) := by decide +kernel
theorem dX10_move_7 : decode cX10_move 7 = .ok (.iload_n 3, 1) := by decide +kernel
theorem dX10_move_8 : decode cX10_move 8 = .ok (.iconst (-1), 1) := by decide +kernel
theorem dX10_move_9 : decode cX10_move 9 = .ok (.if_icmp .eq 10, 3) := by decide +kernel
theorem dX10_move_12 : decode cX10_move 12 = .ok (.iload_n 2, 1) := by decide +kernel
theorem dX10_move_13 : decode cX10_move 13 = .ok (.invokestatic 137, 3) := by decide +kernel
theorem dX10_move_16 : decode cX10_move 16 = .ok (.ifCond .ne 7, 3) := by decide +kernel
theorem dX10_move_19 : decode cX10_move 19 = .ok (.iconst 1, 1) := by decide +kernel
theorem dX10_move_20 : decode cX10_move 20 = .ok (.goto 17, 3) := by decide +kernel
theorem dX10_move_23 : decode cX10_move 23 = .ok (.aload_n 0, 1) := by decide +kernel
theorem dX10_move_24 : decode cX10_move 24 = .ok (.iload_n 3, 1) := by decide +kernel
theorem dX10_move_25 : decode cX10_move 25 = .ok (.iload_n 2, 1) := by decide +kernel
theorem dX10_move_26 : decode cX10_move 26 = .ok (.invokevirtual 180, 3) := by decide +kernel
theorem dX10_move_29 : decode cX10_move 29 = .ok (.ifCond .le 7, 3) := by decide +kernel
theorem dX10_move_32 : decode cX10_move 32 = .ok (.iconst 2, 1) := by decide +kernel
theorem dX10_move_33 : decode cX10_move 33 = .ok (.goto 4, 3) := by decide +kernel
theorem dX10_move_36 : decode cX10_move 36 = .ok (.iconst 0, 1) := by decide +kernel
theorem dX10_move_37 : decode cX10_move 37 = .ok (.invokevirtual 147, 3) := by decide +kernel
theorem dX10_move_40 : decode cX10_move 40 = .ok (.ifCond .eq 5, 3) := by decide +kernel
theorem dX10_move_43 : decode cX10_move 43 = .ok (.iconst 0, 1) := by decide +kernel
theorem dX10_move_44 : decode cX10_move 44 = .ok (.ireturn, 1) := by decide +kernel
theorem dX10_move_45 : decode cX10_move 45 = .ok (.aload_n 0, 1) := by decide +kernel
theorem dX10_move_46 : decode cX10_move 46 = .ok (.invokevirtual 150, 3) := by decide +kernel
theorem dX10_move_49 : decode cX10_move 49 = .ok (.aload_n 0, 1) := by decide +kernel
theorem dX10_move_50 : decode cX10_move 50 = .ok (.iload_n 3, 1) := by decide +kernel
theorem dX10_move_51 : decode cX10_move 51 = .ok (.iload_n 2, 1) := by decide +kernel
theorem dX10_move_52 : decode cX10_move 52 = .ok (.invokevirtual 183, 3) := by decide +kernel
theorem dX10_move_55 : decode cX10_move 55 = .ok (.ireturn, 1) := by decide +kernel
def w_X10_move_J37 (p1 : Int32) (mm : Mm) (Q9 : Int32 → Mm → Prop) (r_1 : Int32) (y_3 : Int32) : Prop :=
  w_X10_refused y_3 mm (fun (r_4 : Int32) (m_5 : Mm) => ((r_4 = 0 → w_X10_saves m_5 (fun (m_8 : Mm) => w_X10_moveOn r_1 p1 m_8 (fun (r_9 : Int32) (m_10 : Mm) => Q9 r_9 m_10))) ∧
  (¬ r_4 = 0 → Q9 0 m_5)))
def w_X10_move_J19 (p1 : Int32) (mm : Mm) (Q9 : Int32 → Mm → Prop) (r_1 : Int32) : Prop :=
  w_X10_move_J37 p1 mm Q9 r_1 1
def w_X10_move (p0 : Int32) (p1 : Int32) (mm : Mm) (Q9 : Int32 → Mm → Prop) : Prop :=
  w_X10_find p0 mm (fun (r_1 : Int32) => ((r_1 = (-1) → w_X10_move_J19 p1 mm Q9 r_1) ∧
  (¬ r_1 = (-1) → w_X10_isChamber p1 mm (fun (r_12 : Int32) => ((¬ r_12 = 0 → w_X10_noMove r_1 p1 mm (fun (r_15 : Int32) => ((r_15 ≤ 0 → w_X10_move_J37 p1 mm Q9 r_1 0) ∧
  (¬ r_15 ≤ 0 → w_X10_move_J37 p1 mm Q9 r_1 2)))) ∧
  (r_12 = 0 → w_X10_move_J19 p1 mm Q9 r_1))))))
def rm_X10_move : Room := { frames := 3, cells := 0, slots := 0, locals := 67 }
theorem hy_X10_move : yX10_move.cls = RX10 ∧ yX10_move.cls ≠ "java/lang/invoke/MethodHandle" ∧ yX10_move.cls ≠ "java/lang/invoke/VarHandle" ∧ (parseMethodDescriptor yX10_move.desc).map (fun d => d.parameters.length) = some 2 := by decide +kernel
set_option maxRecDepth 100000 in
set_option maxHeartbeats 4000000 in
theorem c_X10_move {l : Launch} {D : va_G} {cA : Nat → ClassId} {ad : Nat → Nat → Nat} {A : Nat → Prop} (ax : Ax ad GM A) (p0 : Int32) (p1 : Int32) (mm : Mm) (Q9 : Int32 → Mm → Prop) (h : w_X10_move p0 p1 mm Q9) : Met l yX10_move (.code yX10_move cX10_move 4 (some .int) :: TG) rm_X10_move (PcM TT D cA ad false GM (ZM) [.ref (ad 30 1), .int p0, .int p1] mm) (AnsI TT D cA ad false GM A Q9) 0 0 A := by
  have zo := ZM_ok A
  unfold w_X10_move at h
  refine enterI pl_X10 ⟨rfl, rfl⟩ rfl (Nat.le_of_ble_eq_true rfl) ?_
  intro p e s m args below meth c QQ X hK hZ hnm hE
  refine q_aload_n (j := 0) X dX10_move_0 rfl rfl ?_
  refine q_iload_n (j := 1) X dX10_move_1 rfl rfl ?_
  refine q_calli (q_runV X hK hZ zo (gm (t := 30) (by decide) (ok1 (t := 30) (Nat.le_of_ble_eq_true rfl))) rfl rfl [.int p0] [] rfl rfl (Nat.le_of_ble_eq_true rfl) dX10_move_2 ⟨Nat.le_of_ble_eq_true rfl, Nat.le_of_ble_eq_true rfl⟩ (c_X10_find ax p0 mm _ h) rfl rfl (gV kw_7_157 kw_7_159 ks_101 kw_1_11 kw_7_160) hy_X10_find ⟨Nat.le_of_ble_eq_true rfl, Nat.le_of_ble_eq_true rfl⟩) (fun r_1 m_2 h => ?_)
  obtain ⟨h, hm⟩ := h
  subst hm
  refine q_istore_n (lv' := [(3, .int r_1), (0, .ref (ad 30 1)), (1, .int p0), (2, .int p1)]) X dX10_move_5 rfl (by decide) rfl ?_
  refine q_aload_n (j := 1) X dX10_move_6 rfl rfl ?_
  refine q_iload_n (j := 0) X dX10_move_7 rfl rfl ?_
  refine q_iconst (v := (-1)) X dX10_move_8 (by decide) ?_
  have J37 : ∀ (y_3 : Int32), w_X10_move_J37 p1 mm Q9 r_1 y_3 → V p l e rm_X10_move s m args below meth c QQ 4 A 0 0 (Rep TT D cA ad false GM mm) 37 [(0, .ref (ad 30 1)), (2, .int p1), (3, .int r_1)] [.int y_3, .ref (ad 30 1)] := by
    intro y_3 h
    unfold w_X10_move_J37 at h
    refine q_calli (q_runV X hK hZ zo (gm (t := 30) (by decide) (ok1 (t := 30) (Nat.le_of_ble_eq_true rfl))) rfl rfl [.int y_3] [] rfl rfl (Nat.le_of_ble_eq_true rfl) dX10_move_37 ⟨Nat.le_of_ble_eq_true rfl, Nat.le_of_ble_eq_true rfl⟩ (c_X10_refused ax y_3 mm _ h) rfl rfl (gV kw_7_126 kw_7_128 ks_95 kw_1_11 kw_7_129) hy_X10_refused ⟨Nat.le_of_ble_eq_true rfl, Nat.le_of_ble_eq_true rfl⟩) (fun r_4 m_5 h => ?_)
    refine q_if_eq (tgt := 45) X dX10_move_40 (by decide) (fun c_6 => ?_) (fun c_6 => ?_)
    · have h := h.1 c_6
      refine q_aload_n (j := 0) X dX10_move_45 rfl rfl ?_
      refine q_callv (q_runV X hK hZ zo (gm (t := 30) (by decide) (ok1 (t := 30) (Nat.le_of_ble_eq_true rfl))) rfl rfl [] [] rfl rfl (Nat.le_of_ble_eq_true rfl) dX10_move_46 ⟨Nat.le_of_ble_eq_true rfl, Nat.le_of_ble_eq_true rfl⟩ (c_X10_saves ax m_5 _ h) rfl rfl (gV kw_7_130 kw_7_132 ks_96 kw_1_11 kw_7_133) hy_X10_saves ⟨Nat.le_of_ble_eq_true rfl, Nat.le_of_ble_eq_true rfl⟩) (fun m_8 h => ?_)
      refine q_aload_n (j := 0) X dX10_move_49 rfl rfl ?_
      refine q_iload_n (j := 2) X dX10_move_50 rfl rfl ?_
      refine q_iload_n (j := 1) X dX10_move_51 rfl rfl ?_
      refine q_calli (q_runV X hK hZ zo (gm (t := 30) (by decide) (ok1 (t := 30) (Nat.le_of_ble_eq_true rfl))) rfl rfl [.int r_1, .int p1] [] rfl rfl (Nat.le_of_ble_eq_true rfl) dX10_move_52 ⟨Nat.le_of_ble_eq_true rfl, Nat.le_of_ble_eq_true rfl⟩ (c_X10_moveOn ax r_1 p1 m_8 _ h) rfl rfl (gV kw_7_229 kw_7_231 ks_116 kw_1_11 kw_7_232) hy_X10_moveOn ⟨Nat.le_of_ble_eq_true rfl, Nat.le_of_ble_eq_true rfl⟩) (fun r_9 m_10 h => ?_)
      exact hE _ _ _ _ dX10_move_55 h
    · have h := h.2 c_6
      refine q_iconst (v := 0) X dX10_move_43 (by decide) ?_
      exact hE _ _ _ _ dX10_move_44 h
  have J19 : w_X10_move_J19 p1 mm Q9 r_1  → V p l e rm_X10_move s m args below meth c QQ 4 A 0 0 (Rep TT D cA ad false GM mm) 19 [(0, .ref (ad 30 1)), (2, .int p1), (3, .int r_1)] [.ref (ad 30 1)] := by
    intro  h
    unfold w_X10_move_J19 at h
    refine q_iconst (v := 1) X dX10_move_19 (by decide) ?_
    refine q_goto (tgt := 37) X dX10_move_20 (by decide) ?_
    refine q_sub [0, 1, 2] rfl ?_
    exact J37 1 h
  refine q_icmp_eq (tgt := 19) X dX10_move_9 (by decide) (fun c_11 => ?_) (fun c_11 => ?_)
  · have h := h.1 c_11
    refine q_sub [1, 3, 0] rfl ?_
    exact J19  h
  · have h := h.2 c_11
    refine q_iload_n (j := 3) X dX10_move_12 rfl rfl ?_
    refine q_calli (q_runS X hK hZ zo [.int p1] [.ref (ad 30 1)] rfl rfl (Nat.le_of_ble_eq_true rfl) dX10_move_13 ⟨Nat.le_of_ble_eq_true rfl, Nat.le_of_ble_eq_true rfl⟩ (c_X10_isChamber ax p1 mm _ h) rfl rfl (gS kw_7_79 kw_7_80 kw_1_11 kw_7_81) hy_X10_isChamber.2 ⟨Nat.le_of_ble_eq_true rfl, Nat.le_of_ble_eq_true rfl⟩) (fun r_12 m_13 h => ?_)
    obtain ⟨h, hm⟩ := h
    subst hm
    refine q_if_ne (tgt := 23) X dX10_move_16 (by decide) (fun c_14 => ?_) (fun c_14 => ?_)
    · have h := h.1 c_14
      refine q_aload_n (j := 1) X dX10_move_23 rfl rfl ?_
      refine q_iload_n (j := 0) X dX10_move_24 rfl rfl ?_
      refine q_iload_n (j := 3) X dX10_move_25 rfl rfl ?_
      refine q_calli (q_runV X hK hZ zo (gm (t := 30) (by decide) (ok1 (t := 30) (Nat.le_of_ble_eq_true rfl))) rfl rfl [.int r_1, .int p1] [.ref (ad 30 1)] rfl rfl (Nat.le_of_ble_eq_true rfl) dX10_move_26 ⟨Nat.le_of_ble_eq_true rfl, Nat.le_of_ble_eq_true rfl⟩ (c_X10_noMove ax r_1 p1 mm _ h) rfl rfl (gV kw_7_225 kw_7_227 ks_115 kw_1_11 kw_7_228) hy_X10_noMove ⟨Nat.le_of_ble_eq_true rfl, Nat.le_of_ble_eq_true rfl⟩) (fun r_15 m_16 h => ?_)
      obtain ⟨h, hm⟩ := h
      subst hm
      refine q_if_le (tgt := 36) X dX10_move_29 (by decide) (fun c_17 => ?_) (fun c_17 => ?_)
      · have h := h.1 c_17
        refine q_iconst (v := 0) X dX10_move_36 (by decide) ?_
        refine q_sub [1, 3, 0] rfl ?_
        exact J37 0 h
      · have h := h.2 c_17
        refine q_iconst (v := 2) X dX10_move_32 (by decide) ?_
        refine q_goto (tgt := 37) X dX10_move_33 (by decide) ?_
        refine q_sub [1, 3, 0] rfl ?_
        exact J37 2 h
    · have h := h.2 c_14
      refine q_sub [1, 3, 0] rfl ?_
      exact J19  h
theorem dX10_split_0 : decode cX10_split 0 = .ok (.aload_n 0, 1) := by decide +kernel
theorem dX10_split_1 : decode cX10_split 1 = .ok (.iload_n 1, 1) := by decide +kernel
theorem dX10_split_2 : decode cX10_split 2 = .ok (.invokevirtual 156, 3) := by decide +kernel
theorem dX10_split_5 : decode cX10_split 5 = .ok (.istore_n 3, 1) := by decide +kernel
theorem dX10_split_6 : decode cX10_split 6 = .ok (.aload_n 0, 1) := by decide +kernel
theorem dX10_split_7 : decode cX10_split 7 = .ok (.iload_n 3, 1) := by decide +kernel
theorem dX10_split_8 : decode cX10_split 8 = .ok (.iconst (-1), 1) := by decide +kernel
theorem dX10_split_9 : decode cX10_split 9 = .ok (.if_icmp .ne 7, 3) := by decide +kernel
theorem dX10_split_12 : decode cX10_split 12 = .ok (.iconst 1, 1) := by decide +kernel
theorem dX10_split_13 : decode cX10_split 13 = .ok (.goto 70, 3) := by decide +kernel
theorem dX10_split_16 : decode cX10_split 16 = .ok (.iload_n 2, 1) := by decide +kernel
theorem dX10_split_17 : decode cX10_split 17 = .ok (.i2l, 1) := by decide +kernel
theorem dX10_split_18 : decode cX10_split 18 = .ok (.lconst 1, 1) := by decide +kernel
theorem dX10_split_19 : decode cX10_split 19 = .ok (.ldc2_w 186, 3) := by decide +kernel
theorem dX10_split_22 : decode cX10_split 22 = .ok (.invokestatic 35, 3) := by decide +kernel
theorem dX10_split_25 : decode cX10_split 25 = .ok (.ifCond .eq 13, 3) := by decide +kernel
theorem dX10_split_28 : decode cX10_split 28 = .ok (.iload_n 2, 1) := by decide +kernel
theorem dX10_split_29 : decode cX10_split 29 = .ok (.aload_n 0, 1) := by decide +kernel
theorem dX10_split_30 : decode cX10_split 30 = .ok (.iload_n 3, 1) := by decide +kernel
theorem dX10_split_31 : decode cX10_split 31 = .ok (.iconst 2, 1) := by decide +kernel
theorem dX10_split_32 : decode cX10_split 32 = .ok (.invokevirtual 41, 3) := by decide +kernel
theorem dX10_split_35 : decode cX10_split 35 = .ok (.if_icmp .lt 7, 3) := by decide +kernel
theorem dX10_split_38 : decode cX10_split 38 = .ok (.iconst 2, 1) := by decide +kernel
theorem dX10_split_39 : decode cX10_split 39 = .ok (.goto 44, 3) := by decide +kernel
theorem dX10_split_42 : decode cX10_split 42 = .ok (.aload_n 0, 1) := by decide +kernel
theorem dX10_split_43 : decode cX10_split 43 = .ok (.aload_n 0, 1) := by decide +kernel
theorem dX10_split_44 : decode cX10_split 44 = .ok (.iload_n 3, 1) := by decide +kernel
theorem dX10_split_45 : decode cX10_split 45 = .ok (.iconst 4, 1) := by decide +kernel
theorem dX10_split_46 : decode cX10_split 46 = .ok (.invokevirtual 41, 3) := by decide +kernel
theorem dX10_split_49 : decode cX10_split 49 = .ok (.invokevirtual 117, 3) := by decide +kernel
theorem dX10_split_52 : decode cX10_split 52 = .ok (.ifCond .ne 26, 3) := by decide +kernel
theorem dX10_split_55 : decode cX10_split 55 = .ok (.aload_n 0, 1) := by decide +kernel
theorem dX10_split_56 : decode cX10_split 56 = .ok (.getfield 13, 3) := by decide +kernel
theorem dX10_split_59 : decode cX10_split 59 = .ok (.bipush 117, 2) := by decide +kernel
theorem dX10_split_61 : decode cX10_split 61 = .ok (.iaload, 1) := by decide +kernel
theorem dX10_split_62 : decode cX10_split 62 = .ok (.bipush 16, 2) := by decide +kernel
theorem dX10_split_64 : decode cX10_split 64 = .ok (.if_icmp .eq 14, 3) := by decide +kernel
theorem dX10_split_67 : decode cX10_split 67 = .ok (.aload_n 0, 1) := by decide +kernel
theorem dX10_split_68 : decode cX10_split 68 = .ok (.getfield 13, 3) := by decide +kernel
theorem dX10_split_71 : decode cX10_split 71 = .ok (.iconst 1, 1) := by decide +kernel
theorem dX10_split_72 : decode cX10_split 72 = .ok (.iaload, 1) := by decide +kernel
theorem dX10_split_73 : decode cX10_split 73 = .ok (.bipush 60, 2) := by decide +kernel
theorem dX10_split_75 : decode cX10_split 75 = .ok (.if_icmp .ne 7, 3) := by decide +kernel
theorem dX10_split_78 : decode cX10_split 78 = .ok (.iconst 3, 1) := by decide +kernel
theorem dX10_split_79 : decode cX10_split 79 = .ok (.goto 4, 3) := by decide +kernel
theorem dX10_split_82 : decode cX10_split 82 = .ok (.iconst 0, 1) := by decide +kernel
theorem dX10_split_83 : decode cX10_split 83 = .ok (.invokevirtual 147, 3) := by decide +kernel
theorem dX10_split_86 : decode cX10_split 86 = .ok (.ifCond .eq 5, 3) := by decide +kernel
theorem dX10_split_89 : decode cX10_split 89 = .ok (.iconst 0, 1) := by decide +kernel
theorem dX10_split_90 : decode cX10_split 90 = .ok (.ireturn, 1) := by decide +kernel
theorem dX10_split_91 : decode cX10_split 91 = .ok (.aload_n 0, 1) := by decide +kernel
theorem dX10_split_92 : decode cX10_split 92 = .ok (.invokevirtual 150, 3) := by decide +kernel
theorem dX10_split_95 : decode cX10_split 95 = .ok (.aload_n 0, 1) := by decide +kernel
theorem dX10_split_96 : decode cX10_split 96 = .ok (.iload_n 3, 1) := by decide +kernel
theorem dX10_split_97 : decode cX10_split 97 = .ok (.iload_n 2, 1) := by decide +kernel
theorem dX10_split_98 : decode cX10_split 98 = .ok (.invokevirtual 48, 3) := by decide +kernel
theorem dX10_split_101 : decode cX10_split 101 = .ok (.istore 4, 2) := by decide +kernel
theorem dX10_split_103 : decode cX10_split 103 = .ok (.aload_n 0, 1) := by decide +kernel
theorem dX10_split_104 : decode cX10_split 104 = .ok (.aload_n 0, 1) := by decide +kernel
theorem dX10_split_105 : decode cX10_split 105 = .ok (.iload_n 3, 1) := by decide +kernel
theorem dX10_split_106 : decode cX10_split 106 = .ok (.iconst 1, 1) := by decide +kernel
theorem dX10_split_107 : decode cX10_split 107 = .ok (.invokevirtual 41, 3) := by decide +kernel
theorem dX10_split_110 : decode cX10_split 110 = .ok (.iload_n 2, 1) := by decide +kernel
theorem dX10_split_111 : decode cX10_split 111 = .ok (.iload 4, 2) := by decide +kernel
theorem dX10_split_113 : decode cX10_split 113 = .ok (.aload_n 0, 1) := by decide +kernel
theorem dX10_split_114 : decode cX10_split 114 = .ok (.iload_n 3, 1) := by decide +kernel
theorem dX10_split_115 : decode cX10_split 115 = .ok (.iconst 4, 1) := by decide +kernel
theorem dX10_split_116 : decode cX10_split 116 = .ok (.invokevirtual 41, 3) := by decide +kernel
theorem dX10_split_119 : decode cX10_split 119 = .ok (.invokevirtual 77, 3) := by decide +kernel
theorem dX10_split_122 : decode cX10_split 122 = .ok (.istore 5, 2) := by decide +kernel
theorem dX10_split_124 : decode cX10_split 124 = .ok (.aload_n 0, 1) := by decide +kernel
theorem dX10_split_125 : decode cX10_split 125 = .ok (.getfield 13, 3) := by decide +kernel
theorem dX10_split_128 : decode cX10_split 128 = .ok (.bipush 117, 2) := by decide +kernel
theorem dX10_split_130 : decode cX10_split 130 = .ok (.iaload, 1) := by decide +kernel
theorem dX10_split_131 : decode cX10_split 131 = .ok (.iconst 1, 1) := by decide +kernel
theorem dX10_split_132 : decode cX10_split 132 = .ok (.isub, 1) := by decide +kernel
theorem dX10_split_133 : decode cX10_split 133 = .ok (.istore 6, 2) := by decide +kernel
theorem dX10_split_135 : decode cX10_split 135 = .ok (.aload_n 0, 1) := by decide +kernel
theorem dX10_split_136 : decode cX10_split 136 = .ok (.iload 6, 2) := by decide +kernel
theorem dX10_split_138 : decode cX10_split 138 = .ok (.iconst 5, 1) := by decide +kernel
theorem dX10_split_139 : decode cX10_split 139 = .ok (.aload_n 0, 1) := by decide +kernel
theorem dX10_split_140 : decode cX10_split 140 = .ok (.iload_n 3, 1) := by decide +kernel
theorem dX10_split_141 : decode cX10_split 141 = .ok (.iconst 5, 1) := by decide +kernel
theorem dX10_split_142 : decode cX10_split 142 = .ok (.invokevirtual 41, 3) := by decide +kernel
theorem dX10_split_145 : decode cX10_split 145 = .ok (.invokevirtual 66, 3) := by decide +kernel
theorem dX10_split_148 : decode cX10_split 148 = .ok (.aload_n 0, 1) := by decide +kernel
theorem dX10_split_149 : decode cX10_split 149 = .ok (.iload 6, 2) := by decide +kernel
theorem dX10_split_151 : decode cX10_split 151 = .ok (.bipush 6, 2) := by decide +kernel
theorem dX10_split_153 : decode cX10_split 153 = .ok (.aload_n 0, 1) := by decide +kernel
theorem dX10_split_154 : decode cX10_split 154 = .ok (.iload_n 3, 1) := by decide +kernel
theorem dX10_split_155 : decode cX10_split 155 = .ok (.bipush 6, 2) := by decide +kernel
theorem dX10_split_157 : decode cX10_split 157 = .ok (.invokevirtual 41, 3) := by decide +kernel
theorem dX10_split_160 : decode cX10_split 160 = .ok (.invokevirtual 66, 3) := by decide +kernel
theorem dX10_split_163 : decode cX10_split 163 = .ok (.aload_n 0, 1) := by decide +kernel
theorem dX10_split_164 : decode cX10_split 164 = .ok (.iload 6, 2) := by decide +kernel
theorem dX10_split_166 : decode cX10_split 166 = .ok (.bipush 7, 2) := by decide +kernel
theorem dX10_split_168 : decode cX10_split 168 = .ok (.aload_n 0, 1) := by decide +kernel
theorem dX10_split_169 : decode cX10_split 169 = .ok (.iload_n 3, 1) := by decide +kernel
theorem dX10_split_170 : decode cX10_split 170 = .ok (.bipush 7, 2) := by decide +kernel
theorem dX10_split_172 : decode cX10_split 172 = .ok (.invokevirtual 41, 3) := by decide +kernel
theorem dX10_split_175 : decode cX10_split 175 = .ok (.invokevirtual 66, 3) := by decide +kernel
theorem dX10_split_178 : decode cX10_split 178 = .ok (.aload_n 0, 1) := by decide +kernel
theorem dX10_split_179 : decode cX10_split 179 = .ok (.iload_n 3, 1) := by decide +kernel
theorem dX10_split_180 : decode cX10_split 180 = .ok (.iload_n 2, 1) := by decide +kernel
theorem dX10_split_181 : decode cX10_split 181 = .ok (.invokevirtual 84, 3) := by decide +kernel
theorem dX10_split_184 : decode cX10_split 184 = .ok (.iload 5, 2) := by decide +kernel
theorem dX10_split_186 : decode cX10_split 186 = .ok (.ireturn, 1) := by decide +kernel
def w_X10_split_J83 (p1 : Int32) (mm : Mm) (Q9 : Int32 → Mm → Prop) (r_1 : Int32) (y_3 : Int32) : Prop :=
  w_X10_refused y_3 mm (fun (r_4 : Int32) (m_5 : Mm) => ((r_4 = 0 → w_X10_saves m_5 (fun (m_8 : Mm) => w_X10_share r_1 p1 m_8 (fun (r_9 : Int32) => w_X10_of r_1 1 m_8 (fun (r_11 : Int32) => w_X10_of r_1 4 m_8 (fun (r_13 : Int32) => w_X10_makes r_11 p1 r_9 r_13 m_8 (fun (r_15 : Int32) (m_16 : Mm) => ∀ x_17 : Int32, x_17 = ((m_16.1 32 1 117) - 1) → (w_X10_of r_1 5 m_16 (fun (r_18 : Int32) => w_X10_put x_17 5 r_18 m_16 (fun (m_21 : Mm) => w_X10_of r_1 6 m_21 (fun (r_22 : Int32) => w_X10_put x_17 6 r_22 m_21 (fun (m_25 : Mm) => w_X10_of r_1 7 m_25 (fun (r_26 : Int32) => w_X10_put x_17 7 r_26 m_25 (fun (m_29 : Mm) => w_X10_goes r_1 p1 m_29 (fun (m_31 : Mm) => Q9 r_15 m_31)))))))))))))) ∧
  (¬ r_4 = 0 → Q9 0 m_5)))
def w_X10_split_J38 (p1 : Int32) (mm : Mm) (Q9 : Int32 → Mm → Prop) (r_1 : Int32) : Prop :=
  w_X10_split_J83 p1 mm Q9 r_1 2
def w_X10_split_J78 (p1 : Int32) (mm : Mm) (Q9 : Int32 → Mm → Prop) (r_1 : Int32) : Prop :=
  w_X10_split_J83 p1 mm Q9 r_1 3
def w_X10_split (p0 : Int32) (p1 : Int32) (mm : Mm) (Q9 : Int32 → Mm → Prop) : Prop :=
  w_X10_find p0 mm (fun (r_1 : Int32) => ((¬ r_1 = (-1) → w_X10_in (Int32.toInt64 p1) (1 : Int64) (998 : Int64) mm (fun (r_33 : Int32) => ((r_33 = 0 → w_X10_split_J38 p1 mm Q9 r_1) ∧
  (¬ r_33 = 0 → w_X10_of r_1 2 mm (fun (r_36 : Int32) => ((p1 < r_36 → w_X10_of r_1 4 mm (fun (r_39 : Int32) => w_X10_isShut r_39 mm (fun (r_41 : Int32) => ((¬ r_41 = 0 → w_X10_split_J78 p1 mm Q9 r_1) ∧
  (r_41 = 0 → (((mm.1 32 1 117) = 16 → w_X10_split_J78 p1 mm Q9 r_1) ∧
  (¬ (mm.1 32 1 117) = 16 → ((¬ (mm.1 32 1 1) = 60 → w_X10_split_J83 p1 mm Q9 r_1 0) ∧
  ((mm.1 32 1 1) = 60 → w_X10_split_J78 p1 mm Q9 r_1))))))))) ∧
  (¬ p1 < r_36 → w_X10_split_J38 p1 mm Q9 r_1))))))) ∧
  (r_1 = (-1) → w_X10_split_J83 p1 mm Q9 r_1 1)))
def rm_X10_split : Room := { frames := 3, cells := 0, slots := 0, locals := 67 }
theorem hy_X10_split : yX10_split.cls = RX10 ∧ yX10_split.cls ≠ "java/lang/invoke/MethodHandle" ∧ yX10_split.cls ≠ "java/lang/invoke/VarHandle" ∧ (parseMethodDescriptor yX10_split.desc).map (fun d => d.parameters.length) = some 2 := by decide +kernel
set_option maxRecDepth 100000 in
set_option maxHeartbeats 4000000 in
theorem c_X10_split {l : Launch} {D : va_G} {cA : Nat → ClassId} {ad : Nat → Nat → Nat} {A : Nat → Prop} (ax : Ax ad GM A) (p0 : Int32) (p1 : Int32) (mm : Mm) (Q9 : Int32 → Mm → Prop) (h : w_X10_split p0 p1 mm Q9) : Met l yX10_split (.code yX10_split cX10_split 7 (some .int) :: TG) rm_X10_split (PcM TT D cA ad false GM (ZM) [.ref (ad 30 1), .int p0, .int p1] mm) (AnsI TT D cA ad false GM A Q9) 0 0 A := by
  have zo := ZM_ok A
  unfold w_X10_split at h
  refine enterI pl_X10 ⟨rfl, rfl⟩ rfl (Nat.le_of_ble_eq_true rfl) ?_
  intro p e s m args below meth c QQ X hK hZ hnm hE
  refine q_aload_n (j := 0) X dX10_split_0 rfl rfl ?_
  refine q_iload_n (j := 1) X dX10_split_1 rfl rfl ?_
  refine q_calli (q_runV X hK hZ zo (gm (t := 30) (by decide) (ok1 (t := 30) (Nat.le_of_ble_eq_true rfl))) rfl rfl [.int p0] [] rfl rfl (Nat.le_of_ble_eq_true rfl) dX10_split_2 ⟨Nat.le_of_ble_eq_true rfl, Nat.le_of_ble_eq_true rfl⟩ (c_X10_find ax p0 mm _ h) rfl rfl (gV kw_7_157 kw_7_159 ks_101 kw_1_11 kw_7_160) hy_X10_find ⟨Nat.le_of_ble_eq_true rfl, Nat.le_of_ble_eq_true rfl⟩) (fun r_1 m_2 h => ?_)
  obtain ⟨h, hm⟩ := h
  subst hm
  refine q_istore_n (lv' := [(3, .int r_1), (0, .ref (ad 30 1)), (1, .int p0), (2, .int p1)]) X dX10_split_5 rfl (by decide) rfl ?_
  refine q_aload_n (j := 1) X dX10_split_6 rfl rfl ?_
  refine q_iload_n (j := 0) X dX10_split_7 rfl rfl ?_
  refine q_iconst (v := (-1)) X dX10_split_8 (by decide) ?_
  have J83 : ∀ (y_3 : Int32), w_X10_split_J83 p1 mm Q9 r_1 y_3 → V p l e rm_X10_split s m args below meth c QQ 7 A 0 0 (Rep TT D cA ad false GM mm) 83 [(0, .ref (ad 30 1)), (2, .int p1), (3, .int r_1)] [.int y_3, .ref (ad 30 1)] := by
    intro y_3 h
    unfold w_X10_split_J83 at h
    refine q_calli (q_runV X hK hZ zo (gm (t := 30) (by decide) (ok1 (t := 30) (Nat.le_of_ble_eq_true rfl))) rfl rfl [.int y_3] [] rfl rfl (Nat.le_of_ble_eq_true rfl) dX10_split_83 ⟨Nat.le_of_ble_eq_true rfl, Nat.le_of_ble_eq_true rfl⟩ (c_X10_refused ax y_3 mm _ h) rfl rfl (gV kw_7_126 kw_7_128 ks_95 kw_1_11 kw_7_129) hy_X10_refused ⟨Nat.le_of_ble_eq_true rfl, Nat.le_of_ble_eq_true rfl⟩) (fun r_4 m_5 h => ?_)
    refine q_if_eq (tgt := 91) X dX10_split_86 (by decide) (fun c_6 => ?_) (fun c_6 => ?_)
    · have h := h.1 c_6
      refine q_aload_n (j := 0) X dX10_split_91 rfl rfl ?_
      refine q_callv (q_runV X hK hZ zo (gm (t := 30) (by decide) (ok1 (t := 30) (Nat.le_of_ble_eq_true rfl))) rfl rfl [] [] rfl rfl (Nat.le_of_ble_eq_true rfl) dX10_split_92 ⟨Nat.le_of_ble_eq_true rfl, Nat.le_of_ble_eq_true rfl⟩ (c_X10_saves ax m_5 _ h) rfl rfl (gV kw_7_130 kw_7_132 ks_96 kw_1_11 kw_7_133) hy_X10_saves ⟨Nat.le_of_ble_eq_true rfl, Nat.le_of_ble_eq_true rfl⟩) (fun m_8 h => ?_)
      refine q_aload_n (j := 0) X dX10_split_95 rfl rfl ?_
      refine q_iload_n (j := 2) X dX10_split_96 rfl rfl ?_
      refine q_iload_n (j := 1) X dX10_split_97 rfl rfl ?_
      refine q_calli (q_runV X hK hZ zo (gm (t := 30) (by decide) (ok1 (t := 30) (Nat.le_of_ble_eq_true rfl))) rfl rfl [.int r_1, .int p1] [] rfl rfl (Nat.le_of_ble_eq_true rfl) dX10_split_98 ⟨Nat.le_of_ble_eq_true rfl, Nat.le_of_ble_eq_true rfl⟩ (c_X10_share ax r_1 p1 m_8 _ h) rfl rfl (gV kw_7_111 kw_7_113 ks_92 kw_1_11 kw_7_114) hy_X10_share ⟨Nat.le_of_ble_eq_true rfl, Nat.le_of_ble_eq_true rfl⟩) (fun r_9 m_10 h => ?_)
      obtain ⟨h, hm⟩ := h
      subst hm
      refine q_istore (lv' := [(4, .int r_9), (0, .ref (ad 30 1)), (2, .int p1), (3, .int r_1)]) X dX10_split_101 (by decide) rfl ?_
      refine q_aload_n (j := 1) X dX10_split_103 rfl rfl ?_
      refine q_aload_n (j := 1) X dX10_split_104 rfl rfl ?_
      refine q_iload_n (j := 3) X dX10_split_105 rfl rfl ?_
      refine q_iconst (v := 1) X dX10_split_106 (by decide) ?_
      refine q_calli (q_runV X hK hZ zo (gm (t := 30) (by decide) (ok1 (t := 30) (Nat.le_of_ble_eq_true rfl))) rfl rfl [.int r_1, .int 1] [.ref (ad 30 1)] rfl rfl (Nat.le_of_ble_eq_true rfl) dX10_split_107 ⟨Nat.le_of_ble_eq_true rfl, Nat.le_of_ble_eq_true rfl⟩ (c_X10_of ax r_1 1 m_8 _ h) rfl rfl (gV kw_7_95 kw_7_97 ks_88 kw_1_11 kw_7_98) hy_X10_of ⟨Nat.le_of_ble_eq_true rfl, Nat.le_of_ble_eq_true rfl⟩) (fun r_11 m_12 h => ?_)
      obtain ⟨h, hm⟩ := h
      subst hm
      refine q_iload_n (j := 2) X dX10_split_110 rfl rfl ?_
      refine q_iload (j := 0) X dX10_split_111 rfl ?_
      refine q_aload_n (j := 1) X dX10_split_113 rfl rfl ?_
      refine q_iload_n (j := 3) X dX10_split_114 rfl rfl ?_
      refine q_iconst (v := 4) X dX10_split_115 (by decide) ?_
      refine q_calli (q_runV X hK hZ zo (gm (t := 30) (by decide) (ok1 (t := 30) (Nat.le_of_ble_eq_true rfl))) rfl rfl [.int r_1, .int 4] [.int r_9, .int p1, .int r_11, .ref (ad 30 1)] rfl rfl (Nat.le_of_ble_eq_true rfl) dX10_split_116 ⟨Nat.le_of_ble_eq_true rfl, Nat.le_of_ble_eq_true rfl⟩ (c_X10_of ax r_1 4 m_8 _ h) rfl rfl (gV kw_7_95 kw_7_97 ks_88 kw_1_11 kw_7_98) hy_X10_of ⟨Nat.le_of_ble_eq_true rfl, Nat.le_of_ble_eq_true rfl⟩) (fun r_13 m_14 h => ?_)
      obtain ⟨h, hm⟩ := h
      subst hm
      refine q_calli (q_runV X hK hZ zo (gm (t := 30) (by decide) (ok1 (t := 30) (Nat.le_of_ble_eq_true rfl))) rfl rfl [.int r_11, .int p1, .int r_9, .int r_13] [] rfl rfl (Nat.le_of_ble_eq_true rfl) dX10_split_119 ⟨Nat.le_of_ble_eq_true rfl, Nat.le_of_ble_eq_true rfl⟩ (c_X10_makes ax r_11 p1 r_9 r_13 m_8 _ h) rfl rfl (gV kw_7_145 kw_7_147 ks_99 kw_1_11 kw_7_148) hy_X10_makes ⟨Nat.le_of_ble_eq_true rfl, Nat.le_of_ble_eq_true rfl⟩) (fun r_15 m_16 h => ?_)
      refine q_istore (lv' := [(5, .int r_15), (4, .int r_9), (0, .ref (ad 30 1)), (2, .int p1), (3, .int r_1)]) X dX10_split_122 (by decide) rfl ?_
      refine q_aload_n (j := 2) X dX10_split_124 rfl rfl ?_
      refine q_get (k := 3) (v := .ref (ad 32 1)) X hK rfl rfl (Nat.le_of_ble_eq_true rfl) inTX10 (gm (t := 30) (by decide) (ok1 (t := 30) (Nat.le_of_ble_eq_true rfl))) kw_7_10 rfl (rv_nn (a := ad 32) (r := 1) (ok1 (t := 32) (Nat.le_of_ble_eq_true rfl)).1) dX10_split_125 ?_
      refine q_bipush (v := 117) X dX10_split_128 (by decide) ?_
      refine q_iald (t := 32) (i := 1) (jn := 117) (v := .int (m_16.1 32 1 117)) X hK rfl rfl (gm (t := 32) (by decide) (ok1 (t := 32) (Nat.le_of_ble_eq_true rfl))) rfl (vpl (by decide +kernel)) (by decide +kernel) rfl dX10_split_130 ?_
      refine q_iconst (v := 1) X dX10_split_131 (by decide) ?_
      refine q_isub X dX10_split_132 ?_
      refine q_topi (fun x_17 ex_17 => ?_)
      have h := h x_17 ex_17
      refine q_istore (lv' := [(6, .int x_17), (5, .int r_15), (4, .int r_9), (0, .ref (ad 30 1)), (2, .int p1), (3, .int r_1)]) X dX10_split_133 (by decide) rfl ?_
      refine q_aload_n (j := 3) X dX10_split_135 rfl rfl ?_
      refine q_iload (j := 0) X dX10_split_136 rfl ?_
      refine q_iconst (v := 5) X dX10_split_138 (by decide) ?_
      refine q_aload_n (j := 3) X dX10_split_139 rfl rfl ?_
      refine q_iload_n (j := 5) X dX10_split_140 rfl rfl ?_
      refine q_iconst (v := 5) X dX10_split_141 (by decide) ?_
      refine q_calli (q_runV X hK hZ zo (gm (t := 30) (by decide) (ok1 (t := 30) (Nat.le_of_ble_eq_true rfl))) rfl rfl [.int r_1, .int 5] [.int 5, .int x_17, .ref (ad 30 1)] rfl rfl (Nat.le_of_ble_eq_true rfl) dX10_split_142 ⟨Nat.le_of_ble_eq_true rfl, Nat.le_of_ble_eq_true rfl⟩ (c_X10_of ax r_1 5 m_16 _ h) rfl rfl (gV kw_7_95 kw_7_97 ks_88 kw_1_11 kw_7_98) hy_X10_of ⟨Nat.le_of_ble_eq_true rfl, Nat.le_of_ble_eq_true rfl⟩) (fun r_18 m_19 h => ?_)
      obtain ⟨h, hm⟩ := h
      subst hm
      refine q_callv (q_runV X hK hZ zo (gm (t := 30) (by decide) (ok1 (t := 30) (Nat.le_of_ble_eq_true rfl))) rfl rfl [.int x_17, .int 5, .int r_18] [] rfl rfl (Nat.le_of_ble_eq_true rfl) dX10_split_145 ⟨Nat.le_of_ble_eq_true rfl, Nat.le_of_ble_eq_true rfl⟩ (c_X10_put ax x_17 5 r_18 m_16 _ h) rfl rfl (gV kw_7_149 kw_7_151 ks_100 kw_1_11 kw_7_152) hy_X10_put ⟨Nat.le_of_ble_eq_true rfl, Nat.le_of_ble_eq_true rfl⟩) (fun m_21 h => ?_)
      refine q_aload_n (j := 3) X dX10_split_148 rfl rfl ?_
      refine q_iload (j := 0) X dX10_split_149 rfl ?_
      refine q_bipush (v := 6) X dX10_split_151 (by decide) ?_
      refine q_aload_n (j := 3) X dX10_split_153 rfl rfl ?_
      refine q_iload_n (j := 5) X dX10_split_154 rfl rfl ?_
      refine q_bipush (v := 6) X dX10_split_155 (by decide) ?_
      refine q_calli (q_runV X hK hZ zo (gm (t := 30) (by decide) (ok1 (t := 30) (Nat.le_of_ble_eq_true rfl))) rfl rfl [.int r_1, .int 6] [.int 6, .int x_17, .ref (ad 30 1)] rfl rfl (Nat.le_of_ble_eq_true rfl) dX10_split_157 ⟨Nat.le_of_ble_eq_true rfl, Nat.le_of_ble_eq_true rfl⟩ (c_X10_of ax r_1 6 m_21 _ h) rfl rfl (gV kw_7_95 kw_7_97 ks_88 kw_1_11 kw_7_98) hy_X10_of ⟨Nat.le_of_ble_eq_true rfl, Nat.le_of_ble_eq_true rfl⟩) (fun r_22 m_23 h => ?_)
      obtain ⟨h, hm⟩ := h
      subst hm
      refine q_callv (q_runV X hK hZ zo (gm (t := 30) (by decide) (ok1 (t := 30) (Nat.le_of_ble_eq_true rfl))) rfl rfl [.int x_17, .int 6, .int r_22] [] rfl rfl (Nat.le_of_ble_eq_true rfl) dX10_split_160 ⟨Nat.le_of_ble_eq_true rfl, Nat.le_of_ble_eq_true rfl⟩ (c_X10_put ax x_17 6 r_22 m_21 _ h) rfl rfl (gV kw_7_149 kw_7_151 ks_100 kw_1_11 kw_7_152) hy_X10_put ⟨Nat.le_of_ble_eq_true rfl, Nat.le_of_ble_eq_true rfl⟩) (fun m_25 h => ?_)
      refine q_aload_n (j := 3) X dX10_split_163 rfl rfl ?_
      refine q_iload (j := 0) X dX10_split_164 rfl ?_
      refine q_bipush (v := 7) X dX10_split_166 (by decide) ?_
      refine q_aload_n (j := 3) X dX10_split_168 rfl rfl ?_
      refine q_iload_n (j := 5) X dX10_split_169 rfl rfl ?_
      refine q_bipush (v := 7) X dX10_split_170 (by decide) ?_
      refine q_calli (q_runV X hK hZ zo (gm (t := 30) (by decide) (ok1 (t := 30) (Nat.le_of_ble_eq_true rfl))) rfl rfl [.int r_1, .int 7] [.int 7, .int x_17, .ref (ad 30 1)] rfl rfl (Nat.le_of_ble_eq_true rfl) dX10_split_172 ⟨Nat.le_of_ble_eq_true rfl, Nat.le_of_ble_eq_true rfl⟩ (c_X10_of ax r_1 7 m_25 _ h) rfl rfl (gV kw_7_95 kw_7_97 ks_88 kw_1_11 kw_7_98) hy_X10_of ⟨Nat.le_of_ble_eq_true rfl, Nat.le_of_ble_eq_true rfl⟩) (fun r_26 m_27 h => ?_)
      obtain ⟨h, hm⟩ := h
      subst hm
      refine q_callv (q_runV X hK hZ zo (gm (t := 30) (by decide) (ok1 (t := 30) (Nat.le_of_ble_eq_true rfl))) rfl rfl [.int x_17, .int 7, .int r_26] [] rfl rfl (Nat.le_of_ble_eq_true rfl) dX10_split_175 ⟨Nat.le_of_ble_eq_true rfl, Nat.le_of_ble_eq_true rfl⟩ (c_X10_put ax x_17 7 r_26 m_25 _ h) rfl rfl (gV kw_7_149 kw_7_151 ks_100 kw_1_11 kw_7_152) hy_X10_put ⟨Nat.le_of_ble_eq_true rfl, Nat.le_of_ble_eq_true rfl⟩) (fun m_29 h => ?_)
      refine q_aload_n (j := 3) X dX10_split_178 rfl rfl ?_
      refine q_iload_n (j := 5) X dX10_split_179 rfl rfl ?_
      refine q_iload_n (j := 4) X dX10_split_180 rfl rfl ?_
      refine q_callv (q_runV X hK hZ zo (gm (t := 30) (by decide) (ok1 (t := 30) (Nat.le_of_ble_eq_true rfl))) rfl rfl [.int r_1, .int p1] [] rfl rfl (Nat.le_of_ble_eq_true rfl) dX10_split_181 ⟨Nat.le_of_ble_eq_true rfl, Nat.le_of_ble_eq_true rfl⟩ (c_X10_goes ax r_1 p1 m_29 _ h) rfl rfl (gV kw_7_177 kw_7_179 ks_106 kw_1_11 kw_7_180) hy_X10_goes ⟨Nat.le_of_ble_eq_true rfl, Nat.le_of_ble_eq_true rfl⟩) (fun m_31 h => ?_)
      refine q_iload (j := 1) X dX10_split_184 rfl ?_
      exact hE _ _ _ _ dX10_split_186 h
    · have h := h.2 c_6
      refine q_iconst (v := 0) X dX10_split_89 (by decide) ?_
      exact hE _ _ _ _ dX10_split_90 h
  refine q_icmp_ne (tgt := 16) X dX10_split_9 (by decide) (fun c_32 => ?_) (fun c_32 => ?_)
  · have h := h.1 c_32
    refine q_iload_n (j := 3) X dX10_split_16 rfl rfl ?_
    refine q_i2l X dX10_split_17 ?_
    refine q_lconst (v := 1) X dX10_split_18 (by decide) ?_
    refine q_ldc2 (v := 998) X kw_7_237 dX10_split_19 ?_
    refine q_calli (q_runS X hK hZ zo [.long (Int32.toInt64 p1), .long (1 : Int64), .long (998 : Int64)] [.ref (ad 30 1)] rfl rfl (Nat.le_of_ble_eq_true rfl) dX10_split_22 ⟨Nat.le_of_ble_eq_true rfl, Nat.le_of_ble_eq_true rfl⟩ (c_X10_in ax (Int32.toInt64 p1) (1 : Int64) (998 : Int64) mm _ h) rfl rfl (gS kw_7_71 kw_7_72 kw_1_11 kw_7_73) hy_X10_in.2 ⟨Nat.le_of_ble_eq_true rfl, Nat.le_of_ble_eq_true rfl⟩) (fun r_33 m_34 h => ?_)
    obtain ⟨h, hm⟩ := h
    subst hm
    have J38 : w_X10_split_J38 p1 mm Q9 r_1  → V p l e rm_X10_split s m args below meth c QQ 7 A 0 0 (Rep TT D cA ad false GM mm) 38 [(0, .ref (ad 30 1)), (2, .int p1), (3, .int r_1)] [.ref (ad 30 1)] := by
      intro  h
      unfold w_X10_split_J38 at h
      refine q_iconst (v := 2) X dX10_split_38 (by decide) ?_
      refine q_goto (tgt := 83) X dX10_split_39 (by decide) ?_
      refine q_sub [0, 1, 2] rfl ?_
      exact J83 2 h
    refine q_if_eq (tgt := 38) X dX10_split_25 (by decide) (fun c_35 => ?_) (fun c_35 => ?_)
    · have h := h.1 c_35
      refine q_sub [1, 3, 0] rfl ?_
      exact J38  h
    · have h := h.2 c_35
      refine q_iload_n (j := 3) X dX10_split_28 rfl rfl ?_
      refine q_aload_n (j := 1) X dX10_split_29 rfl rfl ?_
      refine q_iload_n (j := 0) X dX10_split_30 rfl rfl ?_
      refine q_iconst (v := 2) X dX10_split_31 (by decide) ?_
      refine q_calli (q_runV X hK hZ zo (gm (t := 30) (by decide) (ok1 (t := 30) (Nat.le_of_ble_eq_true rfl))) rfl rfl [.int r_1, .int 2] [.int p1, .ref (ad 30 1)] rfl rfl (Nat.le_of_ble_eq_true rfl) dX10_split_32 ⟨Nat.le_of_ble_eq_true rfl, Nat.le_of_ble_eq_true rfl⟩ (c_X10_of ax r_1 2 mm _ h) rfl rfl (gV kw_7_95 kw_7_97 ks_88 kw_1_11 kw_7_98) hy_X10_of ⟨Nat.le_of_ble_eq_true rfl, Nat.le_of_ble_eq_true rfl⟩) (fun r_36 m_37 h => ?_)
      obtain ⟨h, hm⟩ := h
      subst hm
      refine q_icmp_lt (tgt := 42) X dX10_split_35 (by decide) (fun c_38 => ?_) (fun c_38 => ?_)
      · have h := h.1 c_38
        refine q_aload_n (j := 1) X dX10_split_42 rfl rfl ?_
        refine q_aload_n (j := 1) X dX10_split_43 rfl rfl ?_
        refine q_iload_n (j := 0) X dX10_split_44 rfl rfl ?_
        refine q_iconst (v := 4) X dX10_split_45 (by decide) ?_
        refine q_calli (q_runV X hK hZ zo (gm (t := 30) (by decide) (ok1 (t := 30) (Nat.le_of_ble_eq_true rfl))) rfl rfl [.int r_1, .int 4] [.ref (ad 30 1), .ref (ad 30 1)] rfl rfl (Nat.le_of_ble_eq_true rfl) dX10_split_46 ⟨Nat.le_of_ble_eq_true rfl, Nat.le_of_ble_eq_true rfl⟩ (c_X10_of ax r_1 4 mm _ h) rfl rfl (gV kw_7_95 kw_7_97 ks_88 kw_1_11 kw_7_98) hy_X10_of ⟨Nat.le_of_ble_eq_true rfl, Nat.le_of_ble_eq_true rfl⟩) (fun r_39 m_40 h => ?_)
        obtain ⟨h, hm⟩ := h
        subst hm
        refine q_calli (q_runV X hK hZ zo (gm (t := 30) (by decide) (ok1 (t := 30) (Nat.le_of_ble_eq_true rfl))) rfl rfl [.int r_39] [.ref (ad 30 1)] rfl rfl (Nat.le_of_ble_eq_true rfl) dX10_split_49 ⟨Nat.le_of_ble_eq_true rfl, Nat.le_of_ble_eq_true rfl⟩ (c_X10_isShut ax r_39 mm _ h) rfl rfl (gV kw_7_87 kw_7_89 ks_86 kw_1_11 kw_7_90) hy_X10_isShut ⟨Nat.le_of_ble_eq_true rfl, Nat.le_of_ble_eq_true rfl⟩) (fun r_41 m_42 h => ?_)
        obtain ⟨h, hm⟩ := h
        subst hm
        have J78 : w_X10_split_J78 p1 mm Q9 r_1  → V p l e rm_X10_split s m args below meth c QQ 7 A 0 0 (Rep TT D cA ad false GM mm) 78 [(0, .ref (ad 30 1)), (2, .int p1), (3, .int r_1)] [.ref (ad 30 1)] := by
          intro  h
          unfold w_X10_split_J78 at h
          refine q_iconst (v := 3) X dX10_split_78 (by decide) ?_
          refine q_goto (tgt := 83) X dX10_split_79 (by decide) ?_
          refine q_sub [0, 1, 2] rfl ?_
          exact J83 3 h
        refine q_if_ne (tgt := 78) X dX10_split_52 (by decide) (fun c_43 => ?_) (fun c_43 => ?_)
        · have h := h.1 c_43
          refine q_sub [1, 3, 0] rfl ?_
          exact J78  h
        · have h := h.2 c_43
          refine q_aload_n (j := 1) X dX10_split_55 rfl rfl ?_
          refine q_get (k := 3) (v := .ref (ad 32 1)) X hK rfl rfl (Nat.le_of_ble_eq_true rfl) inTX10 (gm (t := 30) (by decide) (ok1 (t := 30) (Nat.le_of_ble_eq_true rfl))) kw_7_10 rfl (rv_nn (a := ad 32) (r := 1) (ok1 (t := 32) (Nat.le_of_ble_eq_true rfl)).1) dX10_split_56 ?_
          refine q_bipush (v := 117) X dX10_split_59 (by decide) ?_
          refine q_iald (t := 32) (i := 1) (jn := 117) (v := .int (mm.1 32 1 117)) X hK rfl rfl (gm (t := 32) (by decide) (ok1 (t := 32) (Nat.le_of_ble_eq_true rfl))) rfl (vpl (by decide +kernel)) (by decide +kernel) rfl dX10_split_61 ?_
          refine q_bipush (v := 16) X dX10_split_62 (by decide) ?_
          refine q_icmp_eq (tgt := 78) X dX10_split_64 (by decide) (fun c_44 => ?_) (fun c_44 => ?_)
          · have h := h.1 c_44
            refine q_sub [1, 3, 0] rfl ?_
            exact J78  h
          · have h := h.2 c_44
            refine q_aload_n (j := 1) X dX10_split_67 rfl rfl ?_
            refine q_get (k := 3) (v := .ref (ad 32 1)) X hK rfl rfl (Nat.le_of_ble_eq_true rfl) inTX10 (gm (t := 30) (by decide) (ok1 (t := 30) (Nat.le_of_ble_eq_true rfl))) kw_7_10 rfl (rv_nn (a := ad 32) (r := 1) (ok1 (t := 32) (Nat.le_of_ble_eq_true rfl)).1) dX10_split_68 ?_
            refine q_iconst (v := 1) X dX10_split_71 (by decide) ?_
            refine q_iald (t := 32) (i := 1) (jn := 1) (v := .int (mm.1 32 1 1)) X hK rfl rfl (gm (t := 32) (by decide) (ok1 (t := 32) (Nat.le_of_ble_eq_true rfl))) rfl (vpl (by decide +kernel)) (by decide +kernel) rfl dX10_split_72 ?_
            refine q_bipush (v := 60) X dX10_split_73 (by decide) ?_
            refine q_icmp_ne (tgt := 82) X dX10_split_75 (by decide) (fun c_45 => ?_) (fun c_45 => ?_)
            · have h := h.1 c_45
              refine q_iconst (v := 0) X dX10_split_82 (by decide) ?_
              refine q_sub [1, 3, 0] rfl ?_
              exact J83 0 h
            · have h := h.2 c_45
              refine q_sub [1, 3, 0] rfl ?_
              exact J78  h
      · have h := h.2 c_38
        refine q_sub [1, 3, 0] rfl ?_
        exact J38  h
  · have h := h.2 c_32
    refine q_iconst (v := 1) X dX10_split_12 (by decide) ?_
    refine q_goto (tgt := 83) X dX10_split_13 (by decide) ?_
    refine q_sub [1, 3, 0] rfl ?_
    exact J83 1 h
theorem dX10_canMerge_0 : decode cX10_canMerge 0 = .ok (.aload_n 0, 1) := by decide +kernel
theorem dX10_canMerge_1 : decode cX10_canMerge 1 = .ok (.iload_n 1, 1) := by decide +kernel
theorem dX10_canMerge_2 : decode cX10_canMerge 2 = .ok (.iconst 1, 1) := by decide +kernel
theorem dX10_canMerge_3 : decode cX10_canMerge 3 = .ok (.invokevirtual 41, 3) := by decide +kernel
theorem dX10_canMerge_6 : decode cX10_canMerge 6 = .ok (.aload_n 0, 1) := by decide +kernel
theorem dX10_canMerge_7 : decode cX10_canMerge 7 = .ok (.iload_n 2, 1) := by decide +kernel
theorem dX10_canMerge_8 : decode cX10_canMerge 8 = .ok (.iconst 1, 1) := by decide +kernel
theorem dX10_canMerge_9 : decode cX10_canMerge 9 = .ok (.invokevirtual 41, 3) := by decide +kernel
theorem dX10_canMerge_12 : decode cX10_canMerge 12 = .ok (.if_icmp .ne 73, 3) := by decide +kernel
theorem dX10_canMerge_15 : decode cX10_canMerge 15 = .ok (.aload_n 0, 1) := by decide +kernel
theorem dX10_canMerge_16 : decode cX10_canMerge 16 = .ok (.iload_n 1, 1) := by decide +kernel
theorem dX10_canMerge_17 : decode cX10_canMerge 17 = .ok (.iconst 4, 1) := by decide +kernel
theorem dX10_canMerge_18 : decode cX10_canMerge 18 = .ok (.invokevirtual 41, 3) := by decide +kernel
theorem dX10_canMerge_21 : decode cX10_canMerge 21 = .ok (.aload_n 0, 1) := by decide +kernel
theorem dX10_canMerge_22 : decode cX10_canMerge 22 = .ok (.iload_n 2, 1) := by decide +kernel
theorem dX10_canMerge_23 : decode cX10_canMerge 23 = .ok (.iconst 4, 1) := by decide +kernel
theorem dX10_canMerge_24 : decode cX10_canMerge 24 = .ok (.invokevirtual 41, 3) := by decide +kernel
theorem dX10_canMerge_27 : decode cX10_canMerge 27 = .ok (.if_icmp .ne 58, 3) := by decide +kernel
theorem dX10_canMerge_30 : decode cX10_canMerge 30 = .ok (.aload_n 0, 1) := by decide +kernel
theorem dX10_canMerge_31 : decode cX10_canMerge 31 = .ok (.aload_n 0, 1) := by decide +kernel
theorem dX10_canMerge_32 : decode cX10_canMerge 32 = .ok (.iload_n 1, 1) := by decide +kernel
theorem dX10_canMerge_33 : decode cX10_canMerge 33 = .ok (.iconst 4, 1) := by decide +kernel
theorem dX10_canMerge_34 : decode cX10_canMerge 34 = .ok (.invokevirtual 41, 3) := by decide +kernel
theorem dX10_canMerge_37 : decode cX10_canMerge 37 = .ok (.invokevirtual 117, 3) := by decide +kernel
theorem dX10_canMerge_40 : decode cX10_canMerge 40 = .ok (.ifCond .ne 45, 3) := by decide +kernel
theorem dX10_canMerge_43 : decode cX10_canMerge 43 = .ok (.aload_n 0, 1) := by decide +kernel
theorem dX10_canMerge_44 : decode cX10_canMerge 44 = .ok (.iload_n 1, 1) := by decide +kernel
theorem dX10_canMerge_45 : decode cX10_canMerge 45 = .ok (.bipush 7, 2) := by decide +kernel
theorem dX10_canMerge_47 : decode cX10_canMerge 47 = .ok (.invokevirtual 41, 3) := by decide +kernel
theorem dX10_canMerge_50 : decode cX10_canMerge 50 = .ok (.aload_n 0, 1) := by decide +kernel
theorem dX10_canMerge_51 : decode cX10_canMerge 51 = .ok (.iload_n 2, 1) := by decide +kernel
theorem dX10_canMerge_52 : decode cX10_canMerge 52 = .ok (.bipush 7, 2) := by decide +kernel
theorem dX10_canMerge_54 : decode cX10_canMerge 54 = .ok (.invokevirtual 41, 3) := by decide +kernel
theorem dX10_canMerge_57 : decode cX10_canMerge 57 = .ok (.iadd, 1) := by decide +kernel
theorem dX10_canMerge_58 : decode cX10_canMerge 58 = .ok (.iconst 2, 1) := by decide +kernel
theorem dX10_canMerge_59 : decode cX10_canMerge 59 = .ok (.if_icmp .ne 26, 3) := by decide +kernel
theorem dX10_canMerge_62 : decode cX10_canMerge 62 = .ok (.aload_n 0, 1) := by decide +kernel
theorem dX10_canMerge_63 : decode cX10_canMerge 63 = .ok (.iload_n 1, 1) := by decide +kernel
theorem dX10_canMerge_64 : decode cX10_canMerge 64 = .ok (.iconst 2, 1) := by decide +kernel
theorem dX10_canMerge_65 : decode cX10_canMerge 65 = .ok (.invokevirtual 41, 3) := by decide +kernel
theorem dX10_canMerge_68 : decode cX10_canMerge 68 = .ok (.aload_n 0, 1) := by decide +kernel
theorem dX10_canMerge_69 : decode cX10_canMerge 69 = .ok (.iload_n 2, 1) := by decide +kernel
theorem dX10_canMerge_70 : decode cX10_canMerge 70 = .ok (.iconst 2, 1) := by decide +kernel
theorem dX10_canMerge_71 : decode cX10_canMerge 71 = .ok (.invokevirtual 41, 3) := by decide +kernel
theorem dX10_canMerge_74 : decode cX10_canMerge 74 = .ok (.iadd, 1) := by decide +kernel
theorem dX10_canMerge_75 : decode cX10_canMerge 75 = .ok (.sipush 999, 3) := by decide +kernel
theorem dX10_canMerge_78 : decode cX10_canMerge 78 = .ok (.if_icmp .gt 7, 3) := by decide +kernel
theorem dX10_canMerge_81 : decode cX10_canMerge 81 = .ok (.iconst 1, 1) := by decide +kernel
theorem dX10_canMerge_82 : decode cX10_canMerge 82 = .ok (.goto 4, 3) := by decide +kernel
theorem dX10_canMerge_85 : decode cX10_canMerge 85 = .ok (.iconst 0, 1) := by decide +kernel
theorem dX10_canMerge_86 : decode cX10_canMerge 86 = .ok (.ireturn, 1) := by decide +kernel
def w_X10_canMerge (p0 : Int32) (p1 : Int32) (mm : Mm) (Q9 : Int32 → Prop) : Prop :=
  w_X10_of p0 1 mm (fun (r_1 : Int32) => w_X10_of p1 1 mm (fun (r_3 : Int32) => ((¬ r_1 = r_3 → Q9 0) ∧
  (r_1 = r_3 → w_X10_of p0 4 mm (fun (r_6 : Int32) => w_X10_of p1 4 mm (fun (r_8 : Int32) => ((¬ r_6 = r_8 → Q9 0) ∧
  (r_6 = r_8 → w_X10_of p0 4 mm (fun (r_11 : Int32) => w_X10_isShut r_11 mm (fun (r_13 : Int32) => ((¬ r_13 = 0 → Q9 0) ∧
  (r_13 = 0 → w_X10_of p0 7 mm (fun (r_16 : Int32) => w_X10_of p1 7 mm (fun (r_18 : Int32) => ((¬ (r_16 + r_18) = 2 → Q9 0) ∧
  ((r_16 + r_18) = 2 → w_X10_of p0 2 mm (fun (r_21 : Int32) => w_X10_of p1 2 mm (fun (r_23 : Int32) => ((999 < (r_21 + r_23) → Q9 0) ∧
  (¬ 999 < (r_21 + r_23) → Q9 1))))))))))))))))))))
def rm_X10_canMerge : Room := { frames := 1, cells := 0, slots := 0, locals := 22 }
theorem hy_X10_canMerge : yX10_canMerge.cls = RX10 ∧ yX10_canMerge.cls ≠ "java/lang/invoke/MethodHandle" ∧ yX10_canMerge.cls ≠ "java/lang/invoke/VarHandle" ∧ (parseMethodDescriptor yX10_canMerge.desc).map (fun d => d.parameters.length) = some 2 := by decide +kernel
set_option maxRecDepth 100000 in
set_option maxHeartbeats 4000000 in
theorem c_X10_canMerge {l : Launch} {D : va_G} {cA : Nat → ClassId} {ad : Nat → Nat → Nat} {A : Nat → Prop} (ax : Ax ad GM A) (p0 : Int32) (p1 : Int32) (mm : Mm) (Q9 : Int32 → Prop) (h : w_X10_canMerge p0 p1 mm Q9) : Met l yX10_canMerge (.code yX10_canMerge cX10_canMerge 3 (some .boolean) :: TG) rm_X10_canMerge (PcM TT D cA ad false GM (ZM) [.ref (ad 30 1), .int p0, .int p1] mm) (AnsI TT D cA ad false GM A (fun r mm' => Q9 r ∧ mm = mm')) 0 0 A := by
  have zo := ZM_ok A
  unfold w_X10_canMerge at h
  refine enterZ pl_X10 ⟨rfl, rfl⟩ rfl (Nat.le_of_ble_eq_true rfl) ?_
  intro p e s m args below meth c QQ X hK hZ hnm hE
  refine q_aload_n (j := 0) X dX10_canMerge_0 rfl rfl ?_
  refine q_iload_n (j := 1) X dX10_canMerge_1 rfl rfl ?_
  refine q_iconst (v := 1) X dX10_canMerge_2 (by decide) ?_
  refine q_calli (q_runV X hK hZ zo (gm (t := 30) (by decide) (ok1 (t := 30) (Nat.le_of_ble_eq_true rfl))) rfl rfl [.int p0, .int 1] [] rfl rfl (Nat.le_of_ble_eq_true rfl) dX10_canMerge_3 ⟨Nat.le_of_ble_eq_true rfl, Nat.le_of_ble_eq_true rfl⟩ (c_X10_of ax p0 1 mm _ h) rfl rfl (gV kw_7_95 kw_7_97 ks_88 kw_1_11 kw_7_98) hy_X10_of ⟨Nat.le_of_ble_eq_true rfl, Nat.le_of_ble_eq_true rfl⟩) (fun r_1 m_2 h => ?_)
  obtain ⟨h, hm⟩ := h
  subst hm
  refine q_aload_n (j := 0) X dX10_canMerge_6 rfl rfl ?_
  refine q_iload_n (j := 2) X dX10_canMerge_7 rfl rfl ?_
  refine q_iconst (v := 1) X dX10_canMerge_8 (by decide) ?_
  refine q_calli (q_runV X hK hZ zo (gm (t := 30) (by decide) (ok1 (t := 30) (Nat.le_of_ble_eq_true rfl))) rfl rfl [.int p1, .int 1] [.int r_1] rfl rfl (Nat.le_of_ble_eq_true rfl) dX10_canMerge_9 ⟨Nat.le_of_ble_eq_true rfl, Nat.le_of_ble_eq_true rfl⟩ (c_X10_of ax p1 1 mm _ h) rfl rfl (gV kw_7_95 kw_7_97 ks_88 kw_1_11 kw_7_98) hy_X10_of ⟨Nat.le_of_ble_eq_true rfl, Nat.le_of_ble_eq_true rfl⟩) (fun r_3 m_4 h => ?_)
  obtain ⟨h, hm⟩ := h
  subst hm
  refine q_icmp_ne (tgt := 85) X dX10_canMerge_12 (by decide) (fun c_5 => ?_) (fun c_5 => ?_)
  · have h := h.1 c_5
    refine q_iconst (v := 0) X dX10_canMerge_85 (by decide) ?_
    exact hE _ _ _ _ dX10_canMerge_86 (Or.inl rfl) ⟨h, rfl⟩
  · have h := h.2 c_5
    refine q_aload_n (j := 0) X dX10_canMerge_15 rfl rfl ?_
    refine q_iload_n (j := 1) X dX10_canMerge_16 rfl rfl ?_
    refine q_iconst (v := 4) X dX10_canMerge_17 (by decide) ?_
    refine q_calli (q_runV X hK hZ zo (gm (t := 30) (by decide) (ok1 (t := 30) (Nat.le_of_ble_eq_true rfl))) rfl rfl [.int p0, .int 4] [] rfl rfl (Nat.le_of_ble_eq_true rfl) dX10_canMerge_18 ⟨Nat.le_of_ble_eq_true rfl, Nat.le_of_ble_eq_true rfl⟩ (c_X10_of ax p0 4 mm _ h) rfl rfl (gV kw_7_95 kw_7_97 ks_88 kw_1_11 kw_7_98) hy_X10_of ⟨Nat.le_of_ble_eq_true rfl, Nat.le_of_ble_eq_true rfl⟩) (fun r_6 m_7 h => ?_)
    obtain ⟨h, hm⟩ := h
    subst hm
    refine q_aload_n (j := 0) X dX10_canMerge_21 rfl rfl ?_
    refine q_iload_n (j := 2) X dX10_canMerge_22 rfl rfl ?_
    refine q_iconst (v := 4) X dX10_canMerge_23 (by decide) ?_
    refine q_calli (q_runV X hK hZ zo (gm (t := 30) (by decide) (ok1 (t := 30) (Nat.le_of_ble_eq_true rfl))) rfl rfl [.int p1, .int 4] [.int r_6] rfl rfl (Nat.le_of_ble_eq_true rfl) dX10_canMerge_24 ⟨Nat.le_of_ble_eq_true rfl, Nat.le_of_ble_eq_true rfl⟩ (c_X10_of ax p1 4 mm _ h) rfl rfl (gV kw_7_95 kw_7_97 ks_88 kw_1_11 kw_7_98) hy_X10_of ⟨Nat.le_of_ble_eq_true rfl, Nat.le_of_ble_eq_true rfl⟩) (fun r_8 m_9 h => ?_)
    obtain ⟨h, hm⟩ := h
    subst hm
    refine q_icmp_ne (tgt := 85) X dX10_canMerge_27 (by decide) (fun c_10 => ?_) (fun c_10 => ?_)
    · have h := h.1 c_10
      refine q_iconst (v := 0) X dX10_canMerge_85 (by decide) ?_
      exact hE _ _ _ _ dX10_canMerge_86 (Or.inl rfl) ⟨h, rfl⟩
    · have h := h.2 c_10
      refine q_aload_n (j := 0) X dX10_canMerge_30 rfl rfl ?_
      refine q_aload_n (j := 0) X dX10_canMerge_31 rfl rfl ?_
      refine q_iload_n (j := 1) X dX10_canMerge_32 rfl rfl ?_
      refine q_iconst (v := 4) X dX10_canMerge_33 (by decide) ?_
      refine q_calli (q_runV X hK hZ zo (gm (t := 30) (by decide) (ok1 (t := 30) (Nat.le_of_ble_eq_true rfl))) rfl rfl [.int p0, .int 4] [.ref (ad 30 1)] rfl rfl (Nat.le_of_ble_eq_true rfl) dX10_canMerge_34 ⟨Nat.le_of_ble_eq_true rfl, Nat.le_of_ble_eq_true rfl⟩ (c_X10_of ax p0 4 mm _ h) rfl rfl (gV kw_7_95 kw_7_97 ks_88 kw_1_11 kw_7_98) hy_X10_of ⟨Nat.le_of_ble_eq_true rfl, Nat.le_of_ble_eq_true rfl⟩) (fun r_11 m_12 h => ?_)
      obtain ⟨h, hm⟩ := h
      subst hm
      refine q_calli (q_runV X hK hZ zo (gm (t := 30) (by decide) (ok1 (t := 30) (Nat.le_of_ble_eq_true rfl))) rfl rfl [.int r_11] [] rfl rfl (Nat.le_of_ble_eq_true rfl) dX10_canMerge_37 ⟨Nat.le_of_ble_eq_true rfl, Nat.le_of_ble_eq_true rfl⟩ (c_X10_isShut ax r_11 mm _ h) rfl rfl (gV kw_7_87 kw_7_89 ks_86 kw_1_11 kw_7_90) hy_X10_isShut ⟨Nat.le_of_ble_eq_true rfl, Nat.le_of_ble_eq_true rfl⟩) (fun r_13 m_14 h => ?_)
      obtain ⟨h, hm⟩ := h
      subst hm
      refine q_if_ne (tgt := 85) X dX10_canMerge_40 (by decide) (fun c_15 => ?_) (fun c_15 => ?_)
      · have h := h.1 c_15
        refine q_iconst (v := 0) X dX10_canMerge_85 (by decide) ?_
        exact hE _ _ _ _ dX10_canMerge_86 (Or.inl rfl) ⟨h, rfl⟩
      · have h := h.2 c_15
        refine q_aload_n (j := 0) X dX10_canMerge_43 rfl rfl ?_
        refine q_iload_n (j := 1) X dX10_canMerge_44 rfl rfl ?_
        refine q_bipush (v := 7) X dX10_canMerge_45 (by decide) ?_
        refine q_calli (q_runV X hK hZ zo (gm (t := 30) (by decide) (ok1 (t := 30) (Nat.le_of_ble_eq_true rfl))) rfl rfl [.int p0, .int 7] [] rfl rfl (Nat.le_of_ble_eq_true rfl) dX10_canMerge_47 ⟨Nat.le_of_ble_eq_true rfl, Nat.le_of_ble_eq_true rfl⟩ (c_X10_of ax p0 7 mm _ h) rfl rfl (gV kw_7_95 kw_7_97 ks_88 kw_1_11 kw_7_98) hy_X10_of ⟨Nat.le_of_ble_eq_true rfl, Nat.le_of_ble_eq_true rfl⟩) (fun r_16 m_17 h => ?_)
        obtain ⟨h, hm⟩ := h
        subst hm
        refine q_aload_n (j := 0) X dX10_canMerge_50 rfl rfl ?_
        refine q_iload_n (j := 2) X dX10_canMerge_51 rfl rfl ?_
        refine q_bipush (v := 7) X dX10_canMerge_52 (by decide) ?_
        refine q_calli (q_runV X hK hZ zo (gm (t := 30) (by decide) (ok1 (t := 30) (Nat.le_of_ble_eq_true rfl))) rfl rfl [.int p1, .int 7] [.int r_16] rfl rfl (Nat.le_of_ble_eq_true rfl) dX10_canMerge_54 ⟨Nat.le_of_ble_eq_true rfl, Nat.le_of_ble_eq_true rfl⟩ (c_X10_of ax p1 7 mm _ h) rfl rfl (gV kw_7_95 kw_7_97 ks_88 kw_1_11 kw_7_98) hy_X10_of ⟨Nat.le_of_ble_eq_true rfl, Nat.le_of_ble_eq_true rfl⟩) (fun r_18 m_19 h => ?_)
        obtain ⟨h, hm⟩ := h
        subst hm
        refine q_iadd X dX10_canMerge_57 ?_
        refine q_iconst (v := 2) X dX10_canMerge_58 (by decide) ?_
        refine q_icmp_ne (tgt := 85) X dX10_canMerge_59 (by decide) (fun c_20 => ?_) (fun c_20 => ?_)
        · have h := h.1 c_20
          refine q_iconst (v := 0) X dX10_canMerge_85 (by decide) ?_
          exact hE _ _ _ _ dX10_canMerge_86 (Or.inl rfl) ⟨h, rfl⟩
        · have h := h.2 c_20
          refine q_aload_n (j := 0) X dX10_canMerge_62 rfl rfl ?_
          refine q_iload_n (j := 1) X dX10_canMerge_63 rfl rfl ?_
          refine q_iconst (v := 2) X dX10_canMerge_64 (by decide) ?_
          refine q_calli (q_runV X hK hZ zo (gm (t := 30) (by decide) (ok1 (t := 30) (Nat.le_of_ble_eq_true rfl))) rfl rfl [.int p0, .int 2] [] rfl rfl (Nat.le_of_ble_eq_true rfl) dX10_canMerge_65 ⟨Nat.le_of_ble_eq_true rfl, Nat.le_of_ble_eq_true rfl⟩ (c_X10_of ax p0 2 mm _ h) rfl rfl (gV kw_7_95 kw_7_97 ks_88 kw_1_11 kw_7_98) hy_X10_of ⟨Nat.le_of_ble_eq_true rfl, Nat.le_of_ble_eq_true rfl⟩) (fun r_21 m_22 h => ?_)
          obtain ⟨h, hm⟩ := h
          subst hm
          refine q_aload_n (j := 0) X dX10_canMerge_68 rfl rfl ?_
          refine q_iload_n (j := 2) X dX10_canMerge_69 rfl rfl ?_
          refine q_iconst (v := 2) X dX10_canMerge_70 (by decide) ?_
          refine q_calli (q_runV X hK hZ zo (gm (t := 30) (by decide) (ok1 (t := 30) (Nat.le_of_ble_eq_true rfl))) rfl rfl [.int p1, .int 2] [.int r_21] rfl rfl (Nat.le_of_ble_eq_true rfl) dX10_canMerge_71 ⟨Nat.le_of_ble_eq_true rfl, Nat.le_of_ble_eq_true rfl⟩ (c_X10_of ax p1 2 mm _ h) rfl rfl (gV kw_7_95 kw_7_97 ks_88 kw_1_11 kw_7_98) hy_X10_of ⟨Nat.le_of_ble_eq_true rfl, Nat.le_of_ble_eq_true rfl⟩) (fun r_23 m_24 h => ?_)
          obtain ⟨h, hm⟩ := h
          subst hm
          refine q_iadd X dX10_canMerge_74 ?_
          refine q_sipush (v := 999) X dX10_canMerge_75 (by decide) ?_
          refine q_icmp_gt (tgt := 85) X dX10_canMerge_78 (by decide) (fun c_25 => ?_) (fun c_25 => ?_)
          · have h := h.1 c_25
            refine q_iconst (v := 0) X dX10_canMerge_85 (by decide) ?_
            exact hE _ _ _ _ dX10_canMerge_86 (Or.inl rfl) ⟨h, rfl⟩
          · have h := h.2 c_25
            refine q_iconst (v := 1) X dX10_canMerge_81 (by decide) ?_
            refine q_goto (tgt := 86) X dX10_canMerge_82 (by decide) ?_
            exact hE _ _ _ _ dX10_canMerge_86 (Or.inr rfl) ⟨h, rfl⟩
