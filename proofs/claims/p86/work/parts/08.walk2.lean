theorem dX1_carryOver_0 : decode cX1_carryOver 0 = .ok (.aload_n 0, 1) := by decide +kernel
theorem dX1_carryOver_1 : decode cX1_carryOver 1 = .ok (.getfield 9, 3) := by decide +kernel
theorem dX1_carryOver_4 : decode cX1_carryOver 4 = .ok (.iload_n 1, 1) := by decide +kernel
theorem dX1_carryOver_5 : decode cX1_carryOver 5 = .ok (.invokevirtual 79, 3) := by decide +kernel
theorem dX1_carryOver_8 : decode cX1_carryOver 8 = .ok (.astore_n 3, 1) := by decide +kernel
theorem dX1_carryOver_9 : decode cX1_carryOver 9 = .ok (.aload_n 3, 1) := by decide +kernel
theorem dX1_carryOver_10 : decode cX1_carryOver 10 = .ok (.ifnull 12, 3) := by decide +kernel
theorem dX1_carryOver_13 : decode cX1_carryOver 13 = .ok (.iload_n 2, 1) := by decide +kernel
theorem dX1_carryOver_14 : decode cX1_carryOver 14 = .ok (.iconst 0, 1) := by decide +kernel
theorem dX1_carryOver_15 : decode cX1_carryOver 15 = .ok (.iconst 4, 1) := by decide +kernel
theorem dX1_carryOver_16 : decode cX1_carryOver 16 = .ok (.invokestatic 83, 3) := by decide +kernel
theorem dX1_carryOver_19 : decode cX1_carryOver 19 = .ok (.ifCond .ne 5, 3) := by decide +kernel
theorem dX1_carryOver_22 : decode cX1_carryOver 22 = .ok (.iconst (-1), 1) := by decide +kernel
theorem dX1_carryOver_23 : decode cX1_carryOver 23 = .ok (.ireturn, 1) := by decide +kernel
theorem dX1_carryOver_24 : decode cX1_carryOver 24 = .ok (.aload_n 0, 1) := by decide +kernel
theorem dX1_carryOver_25 : decode cX1_carryOver 25 = .ok (.getfield 9, 3) := by decide +kernel
theorem dX1_carryOver_28 : decode cX1_carryOver 28 = .ok (.aload_n 3, 1) := by decide +kernel
theorem dX1_carryOver_29 : decode cX1_carryOver 29 = .ok (.iload_n 2, 1) := by decide +kernel
theorem dX1_carryOver_30 : decode cX1_carryOver 30 = .ok (.invokevirtual 155, 3) := by decide +kernel
theorem dX1_carryOver_33 : decode cX1_carryOver 33 = .ok (.ifCond .eq 6, 3) := by decide +kernel
theorem dX1_carryOver_36 : decode cX1_carryOver 36 = .ok (.bipush (-3), 2) := by decide +kernel
theorem dX1_carryOver_38 : decode cX1_carryOver 38 = .ok (.ireturn, 1) := by decide +kernel
theorem dX1_carryOver_39 : decode cX1_carryOver 39 = .ok (.aload_n 0, 1) := by decide +kernel
theorem dX1_carryOver_40 : decode cX1_carryOver 40 = .ok (.getfield 15, 3) := by decide +kernel
theorem dX1_carryOver_43 : decode cX1_carryOver 43 = .ok (.aload_n 0, 1) := by decide +kernel
theorem dX1_carryOver_44 : decode cX1_carryOver 44 = .ok (.getfield 9, 3) := by decide +kernel
theorem dX1_carryOver_47 : decode cX1_carryOver 47 = .ok (.invokevirtual 29, 3) := by decide +kernel
theorem dX1_carryOver_50 : decode cX1_carryOver 50 = .ok (.aload_n 3, 1) := by decide +kernel
theorem dX1_carryOver_51 : decode cX1_carryOver 51 = .ok (.iload_n 2, 1) := by decide +kernel
theorem dX1_carryOver_52 : decode cX1_carryOver 52 = .ok (.putfield 51, 3) := by decide +kernel
theorem dX1_carryOver_55 : decode cX1_carryOver 55 = .ok (.aload_n 0, 1) := by decide +kernel
theorem dX1_carryOver_56 : decode cX1_carryOver 56 = .ok (.getfield 9, 3) := by decide +kernel
theorem dX1_carryOver_59 : decode cX1_carryOver 59 = .ok (.iload_n 2, 1) := by decide +kernel
theorem dX1_carryOver_60 : decode cX1_carryOver 60 = .ok (.invokevirtual 158, 3) := by decide +kernel
theorem dX1_carryOver_63 : decode cX1_carryOver 63 = .ok (.ireturn, 1) := by decide +kernel
def w_X1_carryOver (p0 : Int32) (p1 : Int32) (mm : Mm) (Q9 : Int32 → Mm → Prop) : Prop :=
  w_X8_findEntry 1 p0 mm (fun (r_1 : Nat) => ((r_1 = 0 → Q9 (-1) mm) ∧
  (¬ r_1 = 0 → w_X9_isWithin p1 0 4 mm (fun (r_4 : Int32) => ((¬ r_4 = 0 → ok 3 r_1 ∧ w_X8_reasonAgainstMove 1 r_1 p1 mm (fun (r_8 : Int32) => ((r_8 = 0 → w_X3_save 1 mm (fun (m_12 : Mm) => ∀ m_13 : Mm, m_13 = sI m_12 3 r_1 4 p1 → (w_X8_roomLeft 1 p1 m_13 (fun (r_14 : Int32) => Q9 r_14 m_13)))) ∧
  (¬ r_8 = 0 → Q9 (-3) mm)))) ∧
  (r_4 = 0 → Q9 (-1) mm))))))
def rm_X1_carryOver : Room := { frames := 3, cells := 0, slots := 0, locals := 64 }
theorem hy_X1_carryOver : yX1_carryOver.cls = RX1 ∧ yX1_carryOver.cls ≠ "java/lang/invoke/MethodHandle" ∧ yX1_carryOver.cls ≠ "java/lang/invoke/VarHandle" ∧ (parseMethodDescriptor yX1_carryOver.desc).map (fun d => d.parameters.length) = some 2 := by decide +kernel
set_option maxRecDepth 100000 in
set_option maxHeartbeats 4000000 in
theorem c_X1_carryOver {l : Launch} {D : va_G} {cA : Nat → ClassId} {ad : Nat → Nat → Nat} {A : Nat → Prop} (ax : Ax ad GC A) (p0 : Int32) (p1 : Int32) (mm : Mm) (Q9 : Int32 → Mm → Prop) (h : w_X1_carryOver p0 p1 mm Q9) : Met l yX1_carryOver (.code yX1_carryOver cX1_carryOver 4 (some .int) :: TG) rm_X1_carryOver (PcM TT D cA ad false GC (ZC ad A) [.ref (ad 16 1), .int p0, .int p1] mm) (AnsI TT D cA ad false GC A Q9) 0 0 A := by
  have zo := ZC_ok ad A
  unfold w_X1_carryOver at h
  refine enterI pl_X1 ⟨rfl, rfl⟩ rfl (Nat.le_of_ble_eq_true rfl) ?_
  intro p e s m args below meth c QQ X hK hZ hnm hE
  refine q_aload_n (j := 0) X dX1_carryOver_0 rfl rfl ?_
  refine q_get (k := 0) (v := .ref (ad 1 1)) X hK rfl rfl (Nat.le_of_ble_eq_true rfl) inTX1 (gc (t := 16) (by decide) (ok1 (t := 16) (Nat.le_of_ble_eq_true rfl))) kw_2_75 rfl (rv_nn (a := ad 1) (r := 1) (ok1 (t := 1) (Nat.le_of_ble_eq_true rfl)).1) dX1_carryOver_1 ?_
  refine q_iload_n (j := 1) X dX1_carryOver_4 rfl rfl ?_
  refine q_callr (q_runVN X hK hZ zo (gc (t := 1) (by decide) (ok1 (t := 1) (Nat.le_of_ble_eq_true rfl))) rfl rfl [.int p0] [] rfl rfl (Nat.le_of_ble_eq_true rfl) dX1_carryOver_5 ⟨Nat.le_of_ble_eq_true rfl, Nat.le_of_ble_eq_true rfl⟩ (c_X8_findEntry ax 1 (ok1 (t := 1) (Nat.le_of_ble_eq_true rfl)) p0 mm _ h) rfl rfl (List.mem_of_getElem? (i := 24) rfl) kw_1_2 kw_3_106 kw_3_105 ks_19 hy_X8_findEntry.2 ⟨Nat.le_of_ble_eq_true rfl, Nat.le_of_ble_eq_true rfl⟩) (fun r_1 m_2 h => ?_)
  obtain ⟨h, hm⟩ := h
  subst hm
  refine q_vstore_n (lv' := [(3, rv (ad 3) r_1), (0, .ref (ad 16 1)), (1, .int p0), (2, .int p1)]) X dX1_carryOver_8 rfl (by decide) rfl ?_
  refine q_vload_n (j := 0) X dX1_carryOver_9 rfl rfl ?_
  refine q_ifnull (tgt := 22) X dX1_carryOver_10 (by decide) (fun c_3 => ?_) (fun c_3 => ?_)
  · have h := h.1 c_3
    refine q_iconst (v := (-1)) X dX1_carryOver_22 (by decide) ?_
    exact hE _ _ _ _ dX1_carryOver_23 h
  · have h := h.2 c_3
    refine q_iload_n (j := 3) X dX1_carryOver_13 rfl rfl ?_
    refine q_iconst (v := 0) X dX1_carryOver_14 (by decide) ?_
    refine q_iconst (v := 4) X dX1_carryOver_15 (by decide) ?_
    refine q_calli (q_runSN X hK hZ zo [.int p1, .int 0, .int 4] [] rfl rfl (Nat.le_of_ble_eq_true rfl) dX1_carryOver_16 ⟨Nat.le_of_ble_eq_true rfl, Nat.le_of_ble_eq_true rfl⟩ (c_X9_isWithin ax p1 0 4 mm _ h) rfl rfl (List.mem_of_getElem? (i := 25) rfl) kw_1_1 kw_2_158 kw_2_157 hy_X9_isWithin.2 ⟨Nat.le_of_ble_eq_true rfl, Nat.le_of_ble_eq_true rfl⟩) (fun r_4 m_5 h => ?_)
    obtain ⟨h, hm⟩ := h
    subst hm
    refine q_if_ne (tgt := 24) X dX1_carryOver_19 (by decide) (fun c_6 => ?_) (fun c_6 => ?_)
    · have h := h.1 c_6
      refine q_aload_n (j := 1) X dX1_carryOver_24 rfl rfl ?_
      refine q_get (k := 0) (v := .ref (ad 1 1)) X hK rfl rfl (Nat.le_of_ble_eq_true rfl) inTX1 (gc (t := 16) (by decide) (ok1 (t := 16) (Nat.le_of_ble_eq_true rfl))) kw_2_75 rfl (rv_nn (a := ad 1) (r := 1) (ok1 (t := 1) (Nat.le_of_ble_eq_true rfl)).1) dX1_carryOver_25 ?_
      refine q_vload_n (j := 0) X dX1_carryOver_28 rfl rfl ?_
      refine q_iload_n (j := 3) X dX1_carryOver_29 rfl rfl ?_
      obtain ⟨k_7, h⟩ := h
      rw [rv_nn (a := ad 3) (r := r_1) k_7.1]
      refine q_calli (q_runVN X hK hZ zo (gc (t := 1) (by decide) (ok1 (t := 1) (Nat.le_of_ble_eq_true rfl))) rfl rfl [.ref (ad 3 r_1), .int p1] [] rfl rfl (Nat.le_of_ble_eq_true rfl) dX1_carryOver_30 ⟨Nat.le_of_ble_eq_true rfl, Nat.le_of_ble_eq_true rfl⟩ (c_X8_reasonAgainstMove ax 1 (ok1 (t := 1) (Nat.le_of_ble_eq_true rfl)) r_1 k_7 p1 mm _ h) rfl rfl (List.mem_of_getElem? (i := 43) rfl) kw_1_2 kw_3_210 kw_3_209 ks_37 hy_X8_reasonAgainstMove.2 ⟨Nat.le_of_ble_eq_true rfl, Nat.le_of_ble_eq_true rfl⟩) (fun r_8 m_9 h => ?_)
      obtain ⟨h, hm⟩ := h
      subst hm
      refine q_if_eq (tgt := 39) X dX1_carryOver_33 (by decide) (fun c_10 => ?_) (fun c_10 => ?_)
      · have h := h.1 c_10
        refine q_aload_n (j := 1) X dX1_carryOver_39 rfl rfl ?_
        refine q_get (k := 1) (v := .ref (ad 12 1)) X hK rfl rfl (Nat.le_of_ble_eq_true rfl) inTX1 (gc (t := 16) (by decide) (ok1 (t := 16) (Nat.le_of_ble_eq_true rfl))) kw_2_76 rfl (rv_nn (a := ad 12) (r := 1) (ok1 (t := 12) (Nat.le_of_ble_eq_true rfl)).1) dX1_carryOver_40 ?_
        refine q_aload_n (j := 1) X dX1_carryOver_43 rfl rfl ?_
        refine q_get (k := 0) (v := .ref (ad 1 1)) X hK rfl rfl (Nat.le_of_ble_eq_true rfl) inTX1 (gc (t := 16) (by decide) (ok1 (t := 16) (Nat.le_of_ble_eq_true rfl))) kw_2_75 rfl (rv_nn (a := ad 1) (r := 1) (ok1 (t := 1) (Nat.le_of_ble_eq_true rfl)).1) dX1_carryOver_44 ?_
        refine q_callv (q_runVN X hK hZ zo (gc (t := 12) (by decide) (ok1 (t := 12) (Nat.le_of_ble_eq_true rfl))) rfl rfl [.ref (ad 1 1)] [] rfl rfl (Nat.le_of_ble_eq_true rfl) dX1_carryOver_47 ⟨Nat.le_of_ble_eq_true rfl, Nat.le_of_ble_eq_true rfl⟩ (c_X3_save ax 1 (ok1 (t := 1) (Nat.le_of_ble_eq_true rfl)) mm _ h) rfl rfl (List.mem_of_getElem? (i := 15) rfl) kw_1_8 kw_2_194 kw_2_193 ks_9 hy_X3_save.2 ⟨Nat.le_of_ble_eq_true rfl, Nat.le_of_ble_eq_true rfl⟩) (fun m_12 h => ?_)
        refine q_aload_n (j := 0) X dX1_carryOver_50 rfl rfl ?_
        refine q_iload_n (j := 3) X dX1_carryOver_51 rfl rfl ?_
        refine q_putIN (k := 4) X ax hK rfl rfl (Nat.le_of_ble_eq_true rfl) inTX2 (gc (t := 3) (by decide) k_7) tyX2 tyX2_ok nmX2 (List.mem_of_getElem? (i := 24) rfl) rfl rfl (tyX2_ok 4 (Nat.le_of_ble_eq_true rfl)) rfl dX1_carryOver_52 ?_
        refine q_nmP (fun m_13 em_13 => ?_)
        have h := h m_13 em_13
        refine q_aload_n (j := 1) X dX1_carryOver_55 rfl rfl ?_
        refine q_get (k := 0) (v := .ref (ad 1 1)) X hK rfl rfl (Nat.le_of_ble_eq_true rfl) inTX1 (gc (t := 16) (by decide) (ok1 (t := 16) (Nat.le_of_ble_eq_true rfl))) kw_2_75 rfl (rv_nn (a := ad 1) (r := 1) (ok1 (t := 1) (Nat.le_of_ble_eq_true rfl)).1) dX1_carryOver_56 ?_
        refine q_iload_n (j := 3) X dX1_carryOver_59 rfl rfl ?_
        refine q_calli (q_runVN X hK hZ zo (gc (t := 1) (by decide) (ok1 (t := 1) (Nat.le_of_ble_eq_true rfl))) rfl rfl [.int p1] [] rfl rfl (Nat.le_of_ble_eq_true rfl) dX1_carryOver_60 ⟨Nat.le_of_ble_eq_true rfl, Nat.le_of_ble_eq_true rfl⟩ (c_X8_roomLeft ax 1 (ok1 (t := 1) (Nat.le_of_ble_eq_true rfl)) p1 m_13 _ h) rfl rfl (List.mem_of_getElem? (i := 44) rfl) kw_1_2 kw_2_170 kw_2_169 ks_3 hy_X8_roomLeft.2 ⟨Nat.le_of_ble_eq_true rfl, Nat.le_of_ble_eq_true rfl⟩) (fun r_14 m_15 h => ?_)
        obtain ⟨h, hm⟩ := h
        subst hm
        exact hE _ _ _ _ dX1_carryOver_63 h
      · have h := h.2 c_10
        refine q_bipush (v := (-3)) X dX1_carryOver_36 (by decide) ?_
        exact hE _ _ _ _ dX1_carryOver_38 h
    · have h := h.2 c_6
      refine q_iconst (v := (-1)) X dX1_carryOver_22 (by decide) ?_
      exact hE _ _ _ _ dX1_carryOver_23 h
theorem dX1_partOff_0 : decode cX1_partOff 0 = .ok (.aload_n 0, 1) := by decide +kernel
theorem dX1_partOff_1 : decode cX1_partOff 1 = .ok (.getfield 9, 3) := by decide +kernel
theorem dX1_partOff_4 : decode cX1_partOff 4 = .ok (.iload_n 1, 1) := by decide +kernel
theorem dX1_partOff_5 : decode cX1_partOff 5 = .ok (.invokevirtual 79, 3) := by decide +kernel
theorem dX1_partOff_8 : decode cX1_partOff 8 = .ok (.astore_n 3, 1) := by decide +kernel
theorem dX1_partOff_9 : decode cX1_partOff 9 = .ok (.aload_n 3, 1) := by decide +kernel
theorem dX1_partOff_10 : decode cX1_partOff 10 = .ok (.ifnonnull 5, 3) := by decide +kernel
theorem dX1_partOff_13 : decode cX1_partOff 13 = .ok (.iconst (-1), 1) := by decide +kernel
theorem dX1_partOff_14 : decode cX1_partOff 14 = .ok (.ireturn, 1) := by decide +kernel
theorem dX1_partOff_15 : decode cX1_partOff 15 = .ok (.iload_n 2, 1) := by decide +kernel
theorem dX1_partOff_16 : decode cX1_partOff 16 = .ok (.iconst 1, 1) := by decide +kernel
theorem dX1_partOff_17 : decode cX1_partOff 17 = .ok (.aload_n 3, 1) := by decide +kernel
theorem dX1_partOff_18 : decode cX1_partOff 18 = .ok (.getfield 45, 3) := by decide +kernel
theorem dX1_partOff_21 : decode cX1_partOff 21 = .ok (.iconst 1, 1) := by decide +kernel
theorem dX1_partOff_22 : decode cX1_partOff 22 = .ok (.isub, 1) := by decide +kernel
theorem dX1_partOff_23 : decode cX1_partOff 23 = .ok (.invokestatic 83, 3) := by decide +kernel
theorem dX1_partOff_26 : decode cX1_partOff 26 = .ok (.ifCond .ne 6, 3) := by decide +kernel
theorem dX1_partOff_29 : decode cX1_partOff 29 = .ok (.bipush (-2), 2) := by decide +kernel
theorem dX1_partOff_31 : decode cX1_partOff 31 = .ok (.ireturn, 1) := by decide +kernel
theorem dX1_partOff_32 : decode cX1_partOff 32 = .ok (.aload_n 0, 1) := by decide +kernel
theorem dX1_partOff_33 : decode cX1_partOff 33 = .ok (.getfield 9, 3) := by decide +kernel
theorem dX1_partOff_36 : decode cX1_partOff 36 = .ok (.getfield 161, 3) := by decide +kernel
theorem dX1_partOff_39 : decode cX1_partOff 39 = .ok (.aload_n 3, 1) := by decide +kernel
theorem dX1_partOff_40 : decode cX1_partOff 40 = .ok (.getfield 51, 3) := by decide +kernel
theorem dX1_partOff_43 : decode cX1_partOff 43 = .ok (.aaload, 1) := by decide +kernel
theorem dX1_partOff_44 : decode cX1_partOff 44 = .ok (.invokevirtual 165, 3) := by decide +kernel
theorem dX1_partOff_47 : decode cX1_partOff 47 = .ok (.ifCond .ne 13, 3) := by decide +kernel
theorem dX1_partOff_50 : decode cX1_partOff 50 = .ok (.aload_n 0, 1) := by decide +kernel
theorem dX1_partOff_51 : decode cX1_partOff 51 = .ok (.getfield 9, 3) := by decide +kernel
theorem dX1_partOff_54 : decode cX1_partOff 54 = .ok (.invokevirtual 171, 3) := by decide +kernel
theorem dX1_partOff_57 : decode cX1_partOff 57 = .ok (.ifCond .ne 6, 3) := by decide +kernel
theorem dX1_partOff_60 : decode cX1_partOff 60 = .ok (.bipush (-3), 2) := by decide +kernel
theorem dX1_partOff_62 : decode cX1_partOff 62 = .ok (.ireturn, 1) := by decide +kernel
theorem dX1_partOff_63 : decode cX1_partOff 63 = .ok (.aload_n 0, 1) := by decide +kernel
theorem dX1_partOff_64 : decode cX1_partOff 64 = .ok (.getfield 15, 3) := by decide +kernel
theorem dX1_partOff_67 : decode cX1_partOff 67 = .ok (.aload_n 0, 1) := by decide +kernel
theorem dX1_partOff_68 : decode cX1_partOff 68 = .ok (.getfield 9, 3) := by decide +kernel
theorem dX1_partOff_71 : decode cX1_partOff 71 = .ok (.invokevirtual 29, 3) := by decide +kernel
theorem dX1_partOff_74 : decode cX1_partOff 74 = .ok (.aload_n 0, 1) := by decide +kernel
theorem dX1_partOff_75 : decode cX1_partOff 75 = .ok (.getfield 9, 3) := by decide +kernel
theorem dX1_partOff_78 : decode cX1_partOff 78 = .ok (.invokevirtual 35, 3) := by decide +kernel
theorem dX1_partOff_81 : decode cX1_partOff 81 = .ok (.astore 4, 2) := by decide +kernel
theorem dX1_partOff_83 : decode cX1_partOff 83 = .ok (.aload 4, 2) := by decide +kernel
theorem dX1_partOff_85 : decode cX1_partOff 85 = .ok (.getfield 76, 3) := by decide +kernel
theorem dX1_partOff_88 : decode cX1_partOff 88 = .ok (.istore 5, 2) := by decide +kernel
theorem dX1_partOff_90 : decode cX1_partOff 90 = .ok (.aload 4, 2) := by decide +kernel
theorem dX1_partOff_92 : decode cX1_partOff 92 = .ok (.aload_n 3, 1) := by decide +kernel
theorem dX1_partOff_93 : decode cX1_partOff 93 = .ok (.invokevirtual 174, 3) := by decide +kernel
theorem dX1_partOff_96 : decode cX1_partOff 96 = .ok (.aload 4, 2) := by decide +kernel
theorem dX1_partOff_98 : decode cX1_partOff 98 = .ok (.iload 5, 2) := by decide +kernel
theorem dX1_partOff_100 : decode cX1_partOff 100 = .ok (.putfield 76, 3) := by decide +kernel
theorem dX1_partOff_103 : decode cX1_partOff 103 = .ok (.aload 4, 2) := by decide +kernel
theorem dX1_partOff_105 : decode cX1_partOff 105 = .ok (.iload_n 2, 1) := by decide +kernel
theorem dX1_partOff_106 : decode cX1_partOff 106 = .ok (.putfield 45, 3) := by decide +kernel
theorem dX1_partOff_109 : decode cX1_partOff 109 = .ok (.aload 4, 2) := by decide +kernel
theorem dX1_partOff_111 : decode cX1_partOff 111 = .ok (.aload_n 3, 1) := by decide +kernel
theorem dX1_partOff_112 : decode cX1_partOff 112 = .ok (.iload_n 2, 1) := by decide +kernel
theorem dX1_partOff_113 : decode cX1_partOff 113 = .ok (.invokevirtual 177, 3) := by decide +kernel
theorem dX1_partOff_116 : decode cX1_partOff 116 = .ok (.putfield 48, 3) := by decide +kernel
theorem dX1_partOff_119 : decode cX1_partOff 119 = .ok (.aload_n 3, 1) := by decide +kernel
theorem dX1_partOff_120 : decode cX1_partOff 120 = .ok (.iload_n 2, 1) := by decide +kernel
theorem dX1_partOff_121 : decode cX1_partOff 121 = .ok (.invokevirtual 121, 3) := by decide +kernel
theorem dX1_partOff_124 : decode cX1_partOff 124 = .ok (.iload 5, 2) := by decide +kernel
theorem dX1_partOff_126 : decode cX1_partOff 126 = .ok (.ireturn, 1) := by decide +kernel
def w_X1_partOff (p0 : Int32) (p1 : Int32) (mm : Mm) (Q9 : Int32 → Mm → Prop) : Prop :=
  w_X8_findEntry 1 p0 mm (fun (r_1 : Nat) => ((¬ r_1 = 0 → ok 3 r_1 ∧ (w_X9_isWithin p1 1 ((mm.1 3 r_1 2) - 1) mm (fun (r_5 : Int32) => ((¬ r_5 = 0 → vp_in (mm.1 3 r_1 4) 5 ∧ (w_X0_isSealed (5 * (1 - 1) + (mm.1 3 r_1 4).toNatClampNeg + 1) mm (fun (r_9 : Int32) => ((¬ r_9 = 0 → Q9 (-3) mm) ∧
  (r_9 = 0 → w_X8_hasPlace 1 mm (fun (r_12 : Int32) => ((¬ r_12 = 0 → w_X3_save 1 mm (fun (m_16 : Mm) => w_X8_addEntry 1 m_16 (fun (r_17 : Nat) (m_18 : Mm) => ok 3 r_17 ∧ (∀ x_20 : Int32, x_20 = (m_18.1 3 r_17 0) → (w_X2_copyFrom r_17 r_1 m_18 (fun (m_22 : Mm) => ∀ m_23 : Mm, m_23 = sI m_22 3 r_17 0 x_20 → (∀ m_24 : Mm, m_24 = sI m_23 3 r_17 2 p1 → (w_X2_shareOf r_1 p1 m_24 (fun (r_25 : Int32) => ∀ m_27 : Mm, m_27 = sI m_24 3 r_17 3 r_25 → (w_X2_losePart r_1 p1 m_27 (fun (m_29 : Mm) => Q9 x_20 m_29))))))))))) ∧
  (r_12 = 0 → Q9 (-3) mm)))))))) ∧
  (r_5 = 0 → Q9 (-2) mm))))) ∧
  (r_1 = 0 → Q9 (-1) mm)))
def rm_X1_partOff : Room := { frames := 3, cells := 0, slots := 0, locals := 64 }
theorem hy_X1_partOff : yX1_partOff.cls = RX1 ∧ yX1_partOff.cls ≠ "java/lang/invoke/MethodHandle" ∧ yX1_partOff.cls ≠ "java/lang/invoke/VarHandle" ∧ (parseMethodDescriptor yX1_partOff.desc).map (fun d => d.parameters.length) = some 2 := by decide +kernel
set_option maxRecDepth 100000 in
set_option maxHeartbeats 4000000 in
theorem c_X1_partOff {l : Launch} {D : va_G} {cA : Nat → ClassId} {ad : Nat → Nat → Nat} {A : Nat → Prop} (ax : Ax ad GC A) (p0 : Int32) (p1 : Int32) (mm : Mm) (Q9 : Int32 → Mm → Prop) (h : w_X1_partOff p0 p1 mm Q9) : Met l yX1_partOff (.code yX1_partOff cX1_partOff 6 (some .int) :: TG) rm_X1_partOff (PcM TT D cA ad false GC (ZC ad A) [.ref (ad 16 1), .int p0, .int p1] mm) (AnsI TT D cA ad false GC A Q9) 0 0 A := by
  have zo := ZC_ok ad A
  unfold w_X1_partOff at h
  refine enterI pl_X1 ⟨rfl, rfl⟩ rfl (Nat.le_of_ble_eq_true rfl) ?_
  intro p e s m args below meth c QQ X hK hZ hnm hE
  refine q_aload_n (j := 0) X dX1_partOff_0 rfl rfl ?_
  refine q_get (k := 0) (v := .ref (ad 1 1)) X hK rfl rfl (Nat.le_of_ble_eq_true rfl) inTX1 (gc (t := 16) (by decide) (ok1 (t := 16) (Nat.le_of_ble_eq_true rfl))) kw_2_75 rfl (rv_nn (a := ad 1) (r := 1) (ok1 (t := 1) (Nat.le_of_ble_eq_true rfl)).1) dX1_partOff_1 ?_
  refine q_iload_n (j := 1) X dX1_partOff_4 rfl rfl ?_
  refine q_callr (q_runVN X hK hZ zo (gc (t := 1) (by decide) (ok1 (t := 1) (Nat.le_of_ble_eq_true rfl))) rfl rfl [.int p0] [] rfl rfl (Nat.le_of_ble_eq_true rfl) dX1_partOff_5 ⟨Nat.le_of_ble_eq_true rfl, Nat.le_of_ble_eq_true rfl⟩ (c_X8_findEntry ax 1 (ok1 (t := 1) (Nat.le_of_ble_eq_true rfl)) p0 mm _ h) rfl rfl (List.mem_of_getElem? (i := 24) rfl) kw_1_2 kw_3_106 kw_3_105 ks_19 hy_X8_findEntry.2 ⟨Nat.le_of_ble_eq_true rfl, Nat.le_of_ble_eq_true rfl⟩) (fun r_1 m_2 h => ?_)
  obtain ⟨h, hm⟩ := h
  subst hm
  refine q_vstore_n (lv' := [(3, rv (ad 3) r_1), (0, .ref (ad 16 1)), (1, .int p0), (2, .int p1)]) X dX1_partOff_8 rfl (by decide) rfl ?_
  refine q_vload_n (j := 0) X dX1_partOff_9 rfl rfl ?_
  refine q_ifnonnull (tgt := 15) X dX1_partOff_10 (by decide) (fun c_3 => ?_) (fun c_3 => ?_)
  · have h := h.1 c_3
    refine q_iload_n (j := 3) X dX1_partOff_15 rfl rfl ?_
    refine q_iconst (v := 1) X dX1_partOff_16 (by decide) ?_
    refine q_vload_n (j := 0) X dX1_partOff_17 rfl rfl ?_
    obtain ⟨k_4, h⟩ := h
    rw [rv_nn (a := ad 3) (r := r_1) k_4.1]
    refine q_getN (k := 2) (v := .int (mm.1 3 r_1 2)) X hK rfl rfl (Nat.le_of_ble_eq_true rfl) inTX2 (gc (t := 3) (by decide) k_4) (List.mem_of_getElem? (i := 18) rfl) rfl rfl dX1_partOff_18 ?_
    refine q_iconst (v := 1) X dX1_partOff_21 (by decide) ?_
    refine q_isub X dX1_partOff_22 ?_
    refine q_calli (q_runSN X hK hZ zo [.int p1, .int 1, .int ((mm.1 3 r_1 2) - 1)] [] rfl rfl (Nat.le_of_ble_eq_true rfl) dX1_partOff_23 ⟨Nat.le_of_ble_eq_true rfl, Nat.le_of_ble_eq_true rfl⟩ (c_X9_isWithin ax p1 1 ((mm.1 3 r_1 2) - 1) mm _ h) rfl rfl (List.mem_of_getElem? (i := 25) rfl) kw_1_1 kw_2_158 kw_2_157 hy_X9_isWithin.2 ⟨Nat.le_of_ble_eq_true rfl, Nat.le_of_ble_eq_true rfl⟩) (fun r_5 m_6 h => ?_)
    obtain ⟨h, hm⟩ := h
    subst hm
    refine q_if_ne (tgt := 32) X dX1_partOff_26 (by decide) (fun c_7 => ?_) (fun c_7 => ?_)
    · have h := h.1 c_7
      refine q_aload_n (j := 1) X dX1_partOff_32 rfl rfl ?_
      refine q_get (k := 0) (v := .ref (ad 1 1)) X hK rfl rfl (Nat.le_of_ble_eq_true rfl) inTX1 (gc (t := 16) (by decide) (ok1 (t := 16) (Nat.le_of_ble_eq_true rfl))) kw_2_75 rfl (rv_nn (a := ad 1) (r := 1) (ok1 (t := 1) (Nat.le_of_ble_eq_true rfl)).1) dX1_partOff_33 ?_
      refine q_getN (k := 8) (v := .ref (ad 9 1)) X hK rfl rfl (Nat.le_of_ble_eq_true rfl) inTX8 (gc (t := 1) (by decide) (ok1 (t := 1) (Nat.le_of_ble_eq_true rfl))) (List.mem_of_getElem? (i := 77) rfl) rfl (rv_nn (a := ad 9) (r := 1) (ok1 (t := 9) (Nat.le_of_ble_eq_true rfl)).1) dX1_partOff_36 ?_
      refine q_aload_n (j := 0) X dX1_partOff_39 rfl rfl ?_
      refine q_getN (k := 4) (v := .int (mm.1 3 r_1 4)) X hK rfl rfl (Nat.le_of_ble_eq_true rfl) inTX2 (gc (t := 3) (by decide) k_4) (List.mem_of_getElem? (i := 24) rfl) rfl rfl dX1_partOff_40 ?_
      obtain ⟨b_8, h⟩ := h
      refine q_aald (t := 9) (i := 1) (jn := (mm.1 3 r_1 4).toNatClampNeg) (v := .ref (ad 5 (5 * (1 - 1) + (mm.1 3 r_1 4).toNatClampNeg + 1))) X hK rfl rfl (gc (t := 9) (by decide) (ok1 (t := 9) (Nat.le_of_ble_eq_true rfl))) rfl b_8 rfl (rv_nn (a := ad 5) (r := (5 * (1 - 1) + (mm.1 3 r_1 4).toNatClampNeg + 1)) (ok_ch (ok1 (t := 9) (Nat.le_of_ble_eq_true rfl)) b_8).1) dX1_partOff_43 ?_
      refine q_calli (q_runVN X hK hZ zo (gc (t := 5) (by decide) (ok_ch (ok1 (t := 9) (Nat.le_of_ble_eq_true rfl)) b_8)) rfl rfl [] [] rfl rfl (Nat.le_of_ble_eq_true rfl) dX1_partOff_44 ⟨Nat.le_of_ble_eq_true rfl, Nat.le_of_ble_eq_true rfl⟩ (c_X0_isSealed ax (5 * (1 - 1) + (mm.1 3 r_1 4).toNatClampNeg + 1) (ok_ch (ok1 (t := 9) (Nat.le_of_ble_eq_true rfl)) b_8) mm _ h) rfl rfl (List.mem_of_getElem? (i := 46) rfl) kw_1_6 kw_2_166 kw_2_165 ks_2 hy_X0_isSealed.2 ⟨Nat.le_of_ble_eq_true rfl, Nat.le_of_ble_eq_true rfl⟩) (fun r_9 m_10 h => ?_)
      obtain ⟨h, hm⟩ := h
      subst hm
      refine q_if_ne (tgt := 60) X dX1_partOff_47 (by decide) (fun c_11 => ?_) (fun c_11 => ?_)
      · have h := h.1 c_11
        refine q_bipush (v := (-3)) X dX1_partOff_60 (by decide) ?_
        exact hE _ _ _ _ dX1_partOff_62 h
      · have h := h.2 c_11
        refine q_aload_n (j := 1) X dX1_partOff_50 rfl rfl ?_
        refine q_get (k := 0) (v := .ref (ad 1 1)) X hK rfl rfl (Nat.le_of_ble_eq_true rfl) inTX1 (gc (t := 16) (by decide) (ok1 (t := 16) (Nat.le_of_ble_eq_true rfl))) kw_2_75 rfl (rv_nn (a := ad 1) (r := 1) (ok1 (t := 1) (Nat.le_of_ble_eq_true rfl)).1) dX1_partOff_51 ?_
        refine q_calli (q_runVN X hK hZ zo (gc (t := 1) (by decide) (ok1 (t := 1) (Nat.le_of_ble_eq_true rfl))) rfl rfl [] [] rfl rfl (Nat.le_of_ble_eq_true rfl) dX1_partOff_54 ⟨Nat.le_of_ble_eq_true rfl, Nat.le_of_ble_eq_true rfl⟩ (c_X8_hasPlace ax 1 (ok1 (t := 1) (Nat.le_of_ble_eq_true rfl)) mm _ h) rfl rfl (List.mem_of_getElem? (i := 47) rfl) kw_1_2 kw_2_174 kw_2_173 ks_4 hy_X8_hasPlace.2 ⟨Nat.le_of_ble_eq_true rfl, Nat.le_of_ble_eq_true rfl⟩) (fun r_12 m_13 h => ?_)
        obtain ⟨h, hm⟩ := h
        subst hm
        refine q_if_ne (tgt := 63) X dX1_partOff_57 (by decide) (fun c_14 => ?_) (fun c_14 => ?_)
        · have h := h.1 c_14
          refine q_aload_n (j := 1) X dX1_partOff_63 rfl rfl ?_
          refine q_get (k := 1) (v := .ref (ad 12 1)) X hK rfl rfl (Nat.le_of_ble_eq_true rfl) inTX1 (gc (t := 16) (by decide) (ok1 (t := 16) (Nat.le_of_ble_eq_true rfl))) kw_2_76 rfl (rv_nn (a := ad 12) (r := 1) (ok1 (t := 12) (Nat.le_of_ble_eq_true rfl)).1) dX1_partOff_64 ?_
          refine q_aload_n (j := 1) X dX1_partOff_67 rfl rfl ?_
          refine q_get (k := 0) (v := .ref (ad 1 1)) X hK rfl rfl (Nat.le_of_ble_eq_true rfl) inTX1 (gc (t := 16) (by decide) (ok1 (t := 16) (Nat.le_of_ble_eq_true rfl))) kw_2_75 rfl (rv_nn (a := ad 1) (r := 1) (ok1 (t := 1) (Nat.le_of_ble_eq_true rfl)).1) dX1_partOff_68 ?_
          refine q_callv (q_runVN X hK hZ zo (gc (t := 12) (by decide) (ok1 (t := 12) (Nat.le_of_ble_eq_true rfl))) rfl rfl [.ref (ad 1 1)] [] rfl rfl (Nat.le_of_ble_eq_true rfl) dX1_partOff_71 ⟨Nat.le_of_ble_eq_true rfl, Nat.le_of_ble_eq_true rfl⟩ (c_X3_save ax 1 (ok1 (t := 1) (Nat.le_of_ble_eq_true rfl)) mm _ h) rfl rfl (List.mem_of_getElem? (i := 15) rfl) kw_1_8 kw_2_194 kw_2_193 ks_9 hy_X3_save.2 ⟨Nat.le_of_ble_eq_true rfl, Nat.le_of_ble_eq_true rfl⟩) (fun m_16 h => ?_)
          refine q_aload_n (j := 1) X dX1_partOff_74 rfl rfl ?_
          refine q_get (k := 0) (v := .ref (ad 1 1)) X hK rfl rfl (Nat.le_of_ble_eq_true rfl) inTX1 (gc (t := 16) (by decide) (ok1 (t := 16) (Nat.le_of_ble_eq_true rfl))) kw_2_75 rfl (rv_nn (a := ad 1) (r := 1) (ok1 (t := 1) (Nat.le_of_ble_eq_true rfl)).1) dX1_partOff_75 ?_
          refine q_callr (q_runVN X hK hZ zo (gc (t := 1) (by decide) (ok1 (t := 1) (Nat.le_of_ble_eq_true rfl))) rfl rfl [] [] rfl rfl (Nat.le_of_ble_eq_true rfl) dX1_partOff_78 ⟨Nat.le_of_ble_eq_true rfl, Nat.le_of_ble_eq_true rfl⟩ (c_X8_addEntry ax 1 (ok1 (t := 1) (Nat.le_of_ble_eq_true rfl)) m_16 _ h) rfl rfl (List.mem_of_getElem? (i := 22) rfl) kw_1_2 kw_2_222 kw_2_221 ks_16 hy_X8_addEntry.2 ⟨Nat.le_of_ble_eq_true rfl, Nat.le_of_ble_eq_true rfl⟩) (fun r_17 m_18 h => ?_)
          refine q_vstore (lv' := [(4, rv (ad 3) r_17), (3, .ref (ad 3 r_1)), (0, .ref (ad 16 1)), (1, .int p0), (2, .int p1)]) X dX1_partOff_81 (by decide) rfl ?_
          refine q_vload (j := 0) X dX1_partOff_83 rfl ?_
          obtain ⟨k_19, h⟩ := h
          rw [rv_nn (a := ad 3) (r := r_17) k_19.1]
          refine q_getN (k := 0) (v := .int (m_18.1 3 r_17 0)) X hK rfl rfl (Nat.le_of_ble_eq_true rfl) inTX2 (gc (t := 3) (by decide) k_19) (List.mem_of_getElem? (i := 12) rfl) rfl rfl dX1_partOff_85 ?_
          refine q_topi (fun x_20 ex_20 => ?_)
          have h := h x_20 ex_20
          refine q_istore (lv' := [(5, .int x_20), (4, .ref (ad 3 r_17)), (3, .ref (ad 3 r_1)), (0, .ref (ad 16 1)), (1, .int p0), (2, .int p1)]) X dX1_partOff_88 (by decide) rfl ?_
          refine q_aload (j := 1) X dX1_partOff_90 rfl ?_
          refine q_aload_n (j := 2) X dX1_partOff_92 rfl rfl ?_
          refine q_callv (q_runVN X hK hZ zo (gc (t := 3) (by decide) k_19) rfl rfl [.ref (ad 3 r_1)] [] rfl rfl (Nat.le_of_ble_eq_true rfl) dX1_partOff_93 ⟨Nat.le_of_ble_eq_true rfl, Nat.le_of_ble_eq_true rfl⟩ (c_X2_copyFrom ax r_17 k_19 r_1 k_4 m_18 _ h) rfl rfl (List.mem_of_getElem? (i := 48) rfl) kw_1_4 kw_2_206 kw_2_205 ks_12 hy_X2_copyFrom.2 ⟨Nat.le_of_ble_eq_true rfl, Nat.le_of_ble_eq_true rfl⟩) (fun m_22 h => ?_)
          refine q_aload (j := 1) X dX1_partOff_96 rfl ?_
          refine q_iload (j := 0) X dX1_partOff_98 rfl ?_
          refine q_putIN (k := 0) X ax hK rfl rfl (Nat.le_of_ble_eq_true rfl) inTX2 (gc (t := 3) (by decide) k_19) tyX2 tyX2_ok nmX2 (List.mem_of_getElem? (i := 12) rfl) rfl rfl (tyX2_ok 0 (Nat.le_of_ble_eq_true rfl)) rfl dX1_partOff_100 ?_
          refine q_nmP (fun m_23 em_23 => ?_)
          have h := h m_23 em_23
          refine q_aload (j := 1) X dX1_partOff_103 rfl ?_
          refine q_iload_n (j := 5) X dX1_partOff_105 rfl rfl ?_
          refine q_putIN (k := 2) X ax hK rfl rfl (Nat.le_of_ble_eq_true rfl) inTX2 (gc (t := 3) (by decide) k_19) tyX2 tyX2_ok nmX2 (List.mem_of_getElem? (i := 18) rfl) rfl rfl (tyX2_ok 2 (Nat.le_of_ble_eq_true rfl)) rfl dX1_partOff_106 ?_
          refine q_nmP (fun m_24 em_24 => ?_)
          have h := h m_24 em_24
          refine q_aload (j := 1) X dX1_partOff_109 rfl ?_
          refine q_aload_n (j := 2) X dX1_partOff_111 rfl rfl ?_
          refine q_iload_n (j := 5) X dX1_partOff_112 rfl rfl ?_
          refine q_calli (q_runVN X hK hZ zo (gc (t := 3) (by decide) k_4) rfl rfl [.int p1] [.ref (ad 3 r_17)] rfl rfl (Nat.le_of_ble_eq_true rfl) dX1_partOff_113 ⟨Nat.le_of_ble_eq_true rfl, Nat.le_of_ble_eq_true rfl⟩ (c_X2_shareOf ax r_1 k_4 p1 m_24 _ h) rfl rfl (List.mem_of_getElem? (i := 49) rfl) kw_1_4 kw_3_123 kw_3_122 ks_23 hy_X2_shareOf.2 ⟨Nat.le_of_ble_eq_true rfl, Nat.le_of_ble_eq_true rfl⟩) (fun r_25 m_26 h => ?_)
          obtain ⟨h, hm⟩ := h
          subst hm
          refine q_putIN (k := 3) X ax hK rfl rfl (Nat.le_of_ble_eq_true rfl) inTX2 (gc (t := 3) (by decide) k_19) tyX2 tyX2_ok nmX2 (List.mem_of_getElem? (i := 21) rfl) rfl rfl (tyX2_ok 3 (Nat.le_of_ble_eq_true rfl)) rfl dX1_partOff_116 ?_
          refine q_nmP (fun m_27 em_27 => ?_)
          have h := h m_27 em_27
          refine q_aload_n (j := 2) X dX1_partOff_119 rfl rfl ?_
          refine q_iload_n (j := 5) X dX1_partOff_120 rfl rfl ?_
          refine q_callv (q_runVN X hK hZ zo (gc (t := 3) (by decide) k_4) rfl rfl [.int p1] [] rfl rfl (Nat.le_of_ble_eq_true rfl) dX1_partOff_121 ⟨Nat.le_of_ble_eq_true rfl, Nat.le_of_ble_eq_true rfl⟩ (c_X2_losePart ax r_1 k_4 p1 m_27 _ h) rfl rfl (List.mem_of_getElem? (i := 31) rfl) kw_1_4 kw_3_139 kw_3_138 ks_26 hy_X2_losePart.2 ⟨Nat.le_of_ble_eq_true rfl, Nat.le_of_ble_eq_true rfl⟩) (fun m_29 h => ?_)
          refine q_iload (j := 0) X dX1_partOff_124 rfl ?_
          exact hE _ _ _ _ dX1_partOff_126 h
        · have h := h.2 c_14
          refine q_bipush (v := (-3)) X dX1_partOff_60 (by decide) ?_
          exact hE _ _ _ _ dX1_partOff_62 h
    · have h := h.2 c_7
      refine q_bipush (v := (-2)) X dX1_partOff_29 (by decide) ?_
      exact hE _ _ _ _ dX1_partOff_31 h
  · have h := h.2 c_3
    refine q_iconst (v := (-1)) X dX1_partOff_13 (by decide) ?_
    exact hE _ _ _ _ dX1_partOff_14 h
theorem dX8_canJoin_0 : decode cX8_canJoin 0 = .ok (.aload_n 1, 1) := by decide +kernel
theorem dX8_canJoin_1 : decode cX8_canJoin 1 = .ok (.getfield 113, 3) := by decide +kernel
theorem dX8_canJoin_4 : decode cX8_canJoin 4 = .ok (.aload_n 2, 1) := by decide +kernel
theorem dX8_canJoin_5 : decode cX8_canJoin 5 = .ok (.getfield 113, 3) := by decide +kernel
theorem dX8_canJoin_8 : decode cX8_canJoin 8 = .ok (.if_icmp .ne 62, 3) := by decide +kernel
theorem dX8_canJoin_11 : decode cX8_canJoin 11 = .ok (.aload_n 1, 1) := by decide +kernel
theorem dX8_canJoin_12 : decode cX8_canJoin 12 = .ok (.getfield 150, 3) := by decide +kernel
theorem dX8_canJoin_15 : decode cX8_canJoin 15 = .ok (.aload_n 2, 1) := by decide +kernel
theorem dX8_canJoin_16 : decode cX8_canJoin 16 = .ok (.getfield 150, 3) := by decide +kernel
theorem dX8_canJoin_19 : decode cX8_canJoin 19 = .ok (.if_icmp .ne 51, 3) := by decide +kernel
theorem dX8_canJoin_22 : decode cX8_canJoin 22 = .ok (.aload_n 0, 1) := by decide +kernel
theorem dX8_canJoin_23 : decode cX8_canJoin 23 = .ok (.getfield 32, 3) := by decide +kernel
theorem dX8_canJoin_26 : decode cX8_canJoin 26 = .ok (.aload_n 1, 1) := by decide +kernel
theorem dX8_canJoin_27 : decode cX8_canJoin 27 = .ok (.getfield 150, 3) := by decide +kernel
theorem dX8_canJoin_30 : decode cX8_canJoin 30 = .ok (.aaload, 1) := by decide +kernel
theorem dX8_canJoin_31 : decode cX8_canJoin 31 = .ok (.invokevirtual 156, 3) := by decide +kernel
theorem dX8_canJoin_34 : decode cX8_canJoin 34 = .ok (.ifCond .ne 36, 3) := by decide +kernel
theorem dX8_canJoin_37 : decode cX8_canJoin 37 = .ok (.aload_n 1, 1) := by decide +kernel
theorem dX8_canJoin_38 : decode cX8_canJoin 38 = .ok (.getfield 146, 3) := by decide +kernel
theorem dX8_canJoin_41 : decode cX8_canJoin 41 = .ok (.ifCond .eq 29, 3) := by decide +kernel
theorem dX8_canJoin_44 : decode cX8_canJoin 44 = .ok (.aload_n 2, 1) := by decide +kernel
theorem dX8_canJoin_45 : decode cX8_canJoin 45 = .ok (.getfield 146, 3) := by decide +kernel
theorem dX8_canJoin_48 : decode cX8_canJoin 48 = .ok (.ifCond .eq 22, 3) := by decide +kernel
theorem dX8_canJoin_51 : decode cX8_canJoin 51 = .ok (.aload_n 1, 1) := by decide +kernel
theorem dX8_canJoin_52 : decode cX8_canJoin 52 = .ok (.getfield 97, 3) := by decide +kernel
theorem dX8_canJoin_55 : decode cX8_canJoin 55 = .ok (.aload_n 2, 1) := by decide +kernel
theorem dX8_canJoin_56 : decode cX8_canJoin 56 = .ok (.getfield 97, 3) := by decide +kernel
theorem dX8_canJoin_59 : decode cX8_canJoin 59 = .ok (.iadd, 1) := by decide +kernel
theorem dX8_canJoin_60 : decode cX8_canJoin 60 = .ok (.sipush 999, 3) := by decide +kernel
theorem dX8_canJoin_63 : decode cX8_canJoin 63 = .ok (.if_icmp .gt 7, 3) := by decide +kernel
theorem dX8_canJoin_66 : decode cX8_canJoin 66 = .ok (.iconst 1, 1) := by decide +kernel
theorem dX8_canJoin_67 : decode cX8_canJoin 67 = .ok (.goto 4, 3) := by decide +kernel
theorem dX8_canJoin_70 : decode cX8_canJoin 70 = .ok (.iconst 0, 1) := by decide +kernel
theorem dX8_canJoin_71 : decode cX8_canJoin 71 = .ok (.ireturn, 1) := by decide +kernel
def w_X8_canJoin (i : Nat) (p0 : Nat) (p1 : Nat) (mm : Mm) (Q9 : Int32 → Prop) : Prop :=
  ((¬ (mm.1 3 p0 1) = (mm.1 3 p1 1) → Q9 0) ∧
  ((mm.1 3 p0 1) = (mm.1 3 p1 1) → ((¬ (mm.1 3 p0 4) = (mm.1 3 p1 4) → Q9 0) ∧
  ((mm.1 3 p0 4) = (mm.1 3 p1 4) → vp_in (mm.1 3 p0 4) 5 ∧ (w_X0_isSealed (5 * (i - 1) + (mm.1 3 p0 4).toNatClampNeg + 1) mm (fun (r_4 : Int32) => ((¬ r_4 = 0 → Q9 0) ∧
  (r_4 = 0 → (((mm.1 3 p0 7) = 0 → Q9 0) ∧
  (¬ (mm.1 3 p0 7) = 0 → (((mm.1 3 p1 7) = 0 → Q9 0) ∧
  (¬ (mm.1 3 p1 7) = 0 → ((999 < ((mm.1 3 p0 2) + (mm.1 3 p1 2)) → Q9 0) ∧
  (¬ 999 < ((mm.1 3 p0 2) + (mm.1 3 p1 2)) → Q9 1))))))))))))))
def rm_X8_canJoin : Room := { frames := 1, cells := 0, slots := 0, locals := 20 }
theorem hy_X8_canJoin : yX8_canJoin.cls = RX8 ∧ yX8_canJoin.cls ≠ "java/lang/invoke/MethodHandle" ∧ yX8_canJoin.cls ≠ "java/lang/invoke/VarHandle" ∧ (parseMethodDescriptor yX8_canJoin.desc).map (fun d => d.parameters.length) = some 2 := by decide +kernel
set_option maxRecDepth 100000 in
set_option maxHeartbeats 4000000 in
theorem c_X8_canJoin {l : Launch} {D : va_G} {cA : Nat → ClassId} {ad : Nat → Nat → Nat} {A : Nat → Prop} (ax : Ax ad GC A) (i : Nat) (hi : ok 1 i) (p0 : Nat) (hp0 : ok 3 p0) (p1 : Nat) (hp1 : ok 3 p1) (mm : Mm) (Q9 : Int32 → Prop) (h : w_X8_canJoin i p0 p1 mm Q9) : Met l yX8_canJoin (.code yX8_canJoin cX8_canJoin 3 (some .boolean) :: TG) rm_X8_canJoin (PcM TT D cA ad false GC (ZC ad A) [.ref (ad 1 i), .ref (ad 3 p0), .ref (ad 3 p1)] mm) (AnsI TT D cA ad false GC A (fun r mm' => Q9 r ∧ mm = mm')) 0 0 A := by
  have zo := ZC_ok ad A
  unfold w_X8_canJoin at h
  refine enterZ pl_X8 ⟨rfl, rfl⟩ rfl (Nat.le_of_ble_eq_true rfl) ?_
  intro p e s m args below meth c QQ X hK hZ hnm hE
  refine q_aload_n (j := 1) X dX8_canJoin_0 rfl rfl ?_
  refine q_getN (k := 1) (v := .int (mm.1 3 p0 1)) X hK rfl rfl (Nat.le_of_ble_eq_true rfl) inTX2 (gc (t := 3) (by decide) hp0) (List.mem_of_getElem? (i := 16) rfl) rfl rfl dX8_canJoin_1 ?_
  refine q_aload_n (j := 2) X dX8_canJoin_4 rfl rfl ?_
  refine q_getN (k := 1) (v := .int (mm.1 3 p1 1)) X hK rfl rfl (Nat.le_of_ble_eq_true rfl) inTX2 (gc (t := 3) (by decide) hp1) (List.mem_of_getElem? (i := 16) rfl) rfl rfl dX8_canJoin_5 ?_
  refine q_icmp_ne (tgt := 70) X dX8_canJoin_8 (by decide) (fun c_1 => ?_) (fun c_1 => ?_)
  · have h := h.1 c_1
    refine q_iconst (v := 0) X dX8_canJoin_70 (by decide) ?_
    exact hE _ _ _ _ dX8_canJoin_71 (Or.inl rfl) ⟨h, rfl⟩
  · have h := h.2 c_1
    refine q_aload_n (j := 1) X dX8_canJoin_11 rfl rfl ?_
    refine q_getN (k := 4) (v := .int (mm.1 3 p0 4)) X hK rfl rfl (Nat.le_of_ble_eq_true rfl) inTX2 (gc (t := 3) (by decide) hp0) (List.mem_of_getElem? (i := 25) rfl) rfl rfl dX8_canJoin_12 ?_
    refine q_aload_n (j := 2) X dX8_canJoin_15 rfl rfl ?_
    refine q_getN (k := 4) (v := .int (mm.1 3 p1 4)) X hK rfl rfl (Nat.le_of_ble_eq_true rfl) inTX2 (gc (t := 3) (by decide) hp1) (List.mem_of_getElem? (i := 25) rfl) rfl rfl dX8_canJoin_16 ?_
    refine q_icmp_ne (tgt := 70) X dX8_canJoin_19 (by decide) (fun c_2 => ?_) (fun c_2 => ?_)
    · have h := h.1 c_2
      refine q_iconst (v := 0) X dX8_canJoin_70 (by decide) ?_
      exact hE _ _ _ _ dX8_canJoin_71 (Or.inl rfl) ⟨h, rfl⟩
    · have h := h.2 c_2
      refine q_aload_n (j := 0) X dX8_canJoin_22 rfl rfl ?_
      refine q_get (k := 8) (v := .ref (ad 9 i)) X hK rfl rfl (Nat.le_of_ble_eq_true rfl) inTX8 (gc (t := 1) (by decide) hi) kw_2_6 rfl (rv_nn (a := ad 9) (r := i) hi.1) dX8_canJoin_23 ?_
      refine q_aload_n (j := 1) X dX8_canJoin_26 rfl rfl ?_
      refine q_getN (k := 4) (v := .int (mm.1 3 p0 4)) X hK rfl rfl (Nat.le_of_ble_eq_true rfl) inTX2 (gc (t := 3) (by decide) hp0) (List.mem_of_getElem? (i := 25) rfl) rfl rfl dX8_canJoin_27 ?_
      obtain ⟨b_3, h⟩ := h
      refine q_aald (t := 9) (i := i) (jn := (mm.1 3 p0 4).toNatClampNeg) (v := .ref (ad 5 (5 * (i - 1) + (mm.1 3 p0 4).toNatClampNeg + 1))) X hK rfl rfl (gc (t := 9) (by decide) hi) rfl b_3 rfl (rv_nn (a := ad 5) (r := (5 * (i - 1) + (mm.1 3 p0 4).toNatClampNeg + 1)) (ok_ch hi b_3).1) dX8_canJoin_30 ?_
      refine q_calli (q_runVN X hK hZ zo (gc (t := 5) (by decide) (ok_ch hi b_3)) rfl rfl [] [] rfl rfl (Nat.le_of_ble_eq_true rfl) dX8_canJoin_31 ⟨Nat.le_of_ble_eq_true rfl, Nat.le_of_ble_eq_true rfl⟩ (c_X0_isSealed ax (5 * (i - 1) + (mm.1 3 p0 4).toNatClampNeg + 1) (ok_ch hi b_3) mm _ h) rfl rfl (List.mem_of_getElem? (i := 13) rfl) kw_1_6 kw_2_166 kw_2_165 ks_2 hy_X0_isSealed.2 ⟨Nat.le_of_ble_eq_true rfl, Nat.le_of_ble_eq_true rfl⟩) (fun r_4 m_5 h => ?_)
      obtain ⟨h, hm⟩ := h
      subst hm
      refine q_if_ne (tgt := 70) X dX8_canJoin_34 (by decide) (fun c_6 => ?_) (fun c_6 => ?_)
      · have h := h.1 c_6
        refine q_iconst (v := 0) X dX8_canJoin_70 (by decide) ?_
        exact hE _ _ _ _ dX8_canJoin_71 (Or.inl rfl) ⟨h, rfl⟩
      · have h := h.2 c_6
        refine q_aload_n (j := 1) X dX8_canJoin_37 rfl rfl ?_
        refine q_getN (k := 7) (v := .int (mm.1 3 p0 7)) X hK rfl rfl (Nat.le_of_ble_eq_true rfl) inTX2 (gc (t := 3) (by decide) hp0) (List.mem_of_getElem? (i := 32) rfl) rfl rfl dX8_canJoin_38 ?_
        refine q_if_eq (tgt := 70) X dX8_canJoin_41 (by decide) (fun c_7 => ?_) (fun c_7 => ?_)
        · have h := h.1 c_7
          refine q_iconst (v := 0) X dX8_canJoin_70 (by decide) ?_
          exact hE _ _ _ _ dX8_canJoin_71 (Or.inl rfl) ⟨h, rfl⟩
        · have h := h.2 c_7
          refine q_aload_n (j := 2) X dX8_canJoin_44 rfl rfl ?_
          refine q_getN (k := 7) (v := .int (mm.1 3 p1 7)) X hK rfl rfl (Nat.le_of_ble_eq_true rfl) inTX2 (gc (t := 3) (by decide) hp1) (List.mem_of_getElem? (i := 32) rfl) rfl rfl dX8_canJoin_45 ?_
          refine q_if_eq (tgt := 70) X dX8_canJoin_48 (by decide) (fun c_8 => ?_) (fun c_8 => ?_)
          · have h := h.1 c_8
            refine q_iconst (v := 0) X dX8_canJoin_70 (by decide) ?_
            exact hE _ _ _ _ dX8_canJoin_71 (Or.inl rfl) ⟨h, rfl⟩
          · have h := h.2 c_8
            refine q_aload_n (j := 1) X dX8_canJoin_51 rfl rfl ?_
            refine q_getN (k := 2) (v := .int (mm.1 3 p0 2)) X hK rfl rfl (Nat.le_of_ble_eq_true rfl) inTX2 (gc (t := 3) (by decide) hp0) (List.mem_of_getElem? (i := 19) rfl) rfl rfl dX8_canJoin_52 ?_
            refine q_aload_n (j := 2) X dX8_canJoin_55 rfl rfl ?_
            refine q_getN (k := 2) (v := .int (mm.1 3 p1 2)) X hK rfl rfl (Nat.le_of_ble_eq_true rfl) inTX2 (gc (t := 3) (by decide) hp1) (List.mem_of_getElem? (i := 19) rfl) rfl rfl dX8_canJoin_56 ?_
            refine q_iadd X dX8_canJoin_59 ?_
            refine q_sipush (v := 999) X dX8_canJoin_60 (by decide) ?_
            refine q_icmp_gt (tgt := 70) X dX8_canJoin_63 (by decide) (fun c_9 => ?_) (fun c_9 => ?_)
            · have h := h.1 c_9
              refine q_iconst (v := 0) X dX8_canJoin_70 (by decide) ?_
              exact hE _ _ _ _ dX8_canJoin_71 (Or.inl rfl) ⟨h, rfl⟩
            · have h := h.2 c_9
              refine q_iconst (v := 1) X dX8_canJoin_66 (by decide) ?_
              refine q_goto (tgt := 71) X dX8_canJoin_67 (by decide) ?_
              exact hE _ _ _ _ dX8_canJoin_71 (Or.inr rfl) ⟨h, rfl⟩
theorem dX2_takeIn_0 : decode cX2_takeIn 0 = .ok (.aload_n 0, 1) := by decide +kernel
theorem dX2_takeIn_1 : decode cX2_takeIn 1 = .ok (.aload_n 0, 1) := by decide +kernel
theorem dX2_takeIn_2 : decode cX2_takeIn 2 = .ok (.getfield 16, 3) := by decide +kernel
theorem dX2_takeIn_5 : decode cX2_takeIn 5 = .ok (.aload_n 1, 1) := by decide +kernel
theorem dX2_takeIn_6 : decode cX2_takeIn 6 = .ok (.getfield 16, 3) := by decide +kernel
theorem dX2_takeIn_9 : decode cX2_takeIn 9 = .ok (.iadd, 1) := by decide +kernel
theorem dX2_takeIn_10 : decode cX2_takeIn 10 = .ok (.putfield 16, 3) := by decide +kernel
theorem dX2_takeIn_13 : decode cX2_takeIn 13 = .ok (.aload_n 0, 1) := by decide +kernel
theorem dX2_takeIn_14 : decode cX2_takeIn 14 = .ok (.aload_n 0, 1) := by decide +kernel
theorem dX2_takeIn_15 : decode cX2_takeIn 15 = .ok (.getfield 19, 3) := by decide +kernel
theorem dX2_takeIn_18 : decode cX2_takeIn 18 = .ok (.aload_n 1, 1) := by decide +kernel
theorem dX2_takeIn_19 : decode cX2_takeIn 19 = .ok (.getfield 19, 3) := by decide +kernel
theorem dX2_takeIn_22 : decode cX2_takeIn 22 = .ok (.iadd, 1) := by decide +kernel
theorem dX2_takeIn_23 : decode cX2_takeIn 23 = .ok (.putfield 19, 3) := by decide +kernel
theorem dX2_takeIn_26 : decode cX2_takeIn 26 = .ok (.aload_n 0, 1) := by decide +kernel
theorem dX2_takeIn_27 : decode cX2_takeIn 27 = .ok (.aload_n 0, 1) := by decide +kernel
theorem dX2_takeIn_28 : decode cX2_takeIn 28 = .ok (.getfield 25, 3) := by decide +kernel
theorem dX2_takeIn_31 : decode cX2_takeIn 31 = .ok (.aload_n 1, 1) := by decide +kernel
theorem dX2_takeIn_32 : decode cX2_takeIn 32 = .ok (.getfield 25, 3) := by decide +kernel
theorem dX2_takeIn_35 : decode cX2_takeIn 35 = .ok (.invokestatic 39, 3) := by decide +kernel
theorem dX2_takeIn_38 : decode cX2_takeIn 38 = .ok (.putfield 25, 3) := by decide +kernel
theorem dX2_takeIn_41 : decode cX2_takeIn 41 = .ok (.aload_n 0, 1) := by decide +kernel
theorem dX2_takeIn_42 : decode cX2_takeIn 42 = .ok (.aload_n 0, 1) := by decide +kernel
theorem dX2_takeIn_43 : decode cX2_takeIn 43 = .ok (.getfield 28, 3) := by decide +kernel
theorem dX2_takeIn_46 : decode cX2_takeIn 46 = .ok (.aload_n 1, 1) := by decide +kernel
theorem dX2_takeIn_47 : decode cX2_takeIn 47 = .ok (.getfield 28, 3) := by decide +kernel
theorem dX2_takeIn_50 : decode cX2_takeIn 50 = .ok (.invokestatic 45, 3) := by decide +kernel
theorem dX2_takeIn_53 : decode cX2_takeIn 53 = .ok (.putfield 28, 3) := by decide +kernel
theorem dX2_takeIn_56 : decode cX2_takeIn 56 = .ok (.aload_n 1, 1) := by decide +kernel
theorem dX2_takeIn_57 : decode cX2_takeIn 57 = .ok (.iconst 0, 1) := by decide +kernel
theorem dX2_takeIn_58 : decode cX2_takeIn 58 = .ok (.putfield 16, 3) := by decide +kernel
theorem dX2_takeIn_61 : decode cX2_takeIn 61 = .ok (.return_, 1) := by decide +kernel
def w_X2_takeIn (i : Nat) (p0 : Nat) (mm : Mm) (Q9 : Mm → Prop) : Prop :=
  ∀ m_1 : Mm, m_1 = sI mm 3 i 2 ((mm.1 3 i 2) + (mm.1 3 p0 2)) → (∀ m_2 : Mm, m_2 = sI m_1 3 i 3 ((m_1.1 3 i 3) + (m_1.1 3 p0 3)) → (∀ m_3 : Mm, m_3 = sI m_2 3 i 5 (if (m_2.1 3 p0 5) < (m_2.1 3 i 5) then (m_2.1 3 p0 5) else (m_2.1 3 i 5)) → (∀ m_4 : Mm, m_4 = sI m_3 3 i 6 (if (m_3.1 3 i 6) < (m_3.1 3 p0 6) then (m_3.1 3 p0 6) else (m_3.1 3 i 6)) → (∀ m_5 : Mm, m_5 = sI m_4 3 p0 2 0 → (Q9 m_5)))))
def rm_X2_takeIn : Room := { frames := 1, cells := 0, slots := 0, locals := 21 }
theorem hy_X2_takeIn : yX2_takeIn.cls = RX2 ∧ yX2_takeIn.cls ≠ "java/lang/invoke/MethodHandle" ∧ yX2_takeIn.cls ≠ "java/lang/invoke/VarHandle" ∧ (parseMethodDescriptor yX2_takeIn.desc).map (fun d => d.parameters.length) = some 1 := by decide +kernel
set_option maxRecDepth 100000 in
set_option maxHeartbeats 4000000 in
theorem c_X2_takeIn {l : Launch} {D : va_G} {cA : Nat → ClassId} {ad : Nat → Nat → Nat} {A : Nat → Prop} (ax : Ax ad GC A) (i : Nat) (hi : ok 3 i) (p0 : Nat) (hp0 : ok 3 p0) (mm : Mm) (Q9 : Mm → Prop) (h : w_X2_takeIn i p0 mm Q9) : Met l yX2_takeIn (.code yX2_takeIn cX2_takeIn 2 none :: TG) rm_X2_takeIn (PcM TT D cA ad false GC (ZC ad A) [.ref (ad 3 i), .ref (ad 3 p0)] mm) (AnsV TT D cA ad false GC A Q9) 0 0 A := by
  have zo := ZC_ok ad A
  unfold w_X2_takeIn at h
  refine enterV pl_X2 ⟨rfl, rfl⟩ rfl (Nat.le_of_ble_eq_true rfl) ?_
  intro p e s m args below meth c QQ X hK hZ hnm hE
  refine q_aload_n (j := 0) X dX2_takeIn_0 rfl rfl ?_
  refine q_aload_n (j := 0) X dX2_takeIn_1 rfl rfl ?_
  refine q_get (k := 2) (v := .int (mm.1 3 i 2)) X hK rfl rfl (Nat.le_of_ble_eq_true rfl) inTX2 (gc (t := 3) (by decide) hi) kw_1_93 rfl rfl dX2_takeIn_2 ?_
  refine q_aload_n (j := 1) X dX2_takeIn_5 rfl rfl ?_
  refine q_get (k := 2) (v := .int (mm.1 3 p0 2)) X hK rfl rfl (Nat.le_of_ble_eq_true rfl) inTX2 (gc (t := 3) (by decide) hp0) kw_1_93 rfl rfl dX2_takeIn_6 ?_
  refine q_iadd X dX2_takeIn_9 ?_
  refine q_putI (k := 2) X ax hK rfl rfl (Nat.le_of_ble_eq_true rfl) inTX2 (gc (t := 3) (by decide) hi) tyX2 tyX2_ok nmX2 kw_1_93 rfl rfl (tyX2_ok 2 (Nat.le_of_ble_eq_true rfl)) rfl dX2_takeIn_10 ?_
  refine q_nmP (fun m_1 em_1 => ?_)
  have h := h m_1 em_1
  refine q_aload_n (j := 0) X dX2_takeIn_13 rfl rfl ?_
  refine q_aload_n (j := 0) X dX2_takeIn_14 rfl rfl ?_
  refine q_get (k := 3) (v := .int (m_1.1 3 i 3)) X hK rfl rfl (Nat.le_of_ble_eq_true rfl) inTX2 (gc (t := 3) (by decide) hi) kw_1_97 rfl rfl dX2_takeIn_15 ?_
  refine q_aload_n (j := 1) X dX2_takeIn_18 rfl rfl ?_
  refine q_get (k := 3) (v := .int (m_1.1 3 p0 3)) X hK rfl rfl (Nat.le_of_ble_eq_true rfl) inTX2 (gc (t := 3) (by decide) hp0) kw_1_97 rfl rfl dX2_takeIn_19 ?_
  refine q_iadd X dX2_takeIn_22 ?_
  refine q_putI (k := 3) X ax hK rfl rfl (Nat.le_of_ble_eq_true rfl) inTX2 (gc (t := 3) (by decide) hi) tyX2 tyX2_ok nmX2 kw_1_97 rfl rfl (tyX2_ok 3 (Nat.le_of_ble_eq_true rfl)) rfl dX2_takeIn_23 ?_
  refine q_nmP (fun m_2 em_2 => ?_)
  have h := h m_2 em_2
  refine q_aload_n (j := 0) X dX2_takeIn_26 rfl rfl ?_
  refine q_aload_n (j := 0) X dX2_takeIn_27 rfl rfl ?_
  refine q_get (k := 5) (v := .int (m_2.1 3 i 5)) X hK rfl rfl (Nat.le_of_ble_eq_true rfl) inTX2 (gc (t := 3) (by decide) hi) kw_1_105 rfl rfl dX2_takeIn_28 ?_
  refine q_aload_n (j := 1) X dX2_takeIn_31 rfl rfl ?_
  refine q_get (k := 5) (v := .int (m_2.1 3 p0 5)) X hK rfl rfl (Nat.le_of_ble_eq_true rfl) inTX2 (gc (t := 3) (by decide) hp0) kw_1_105 rfl rfl dX2_takeIn_32 ?_
  refine q_min X kw_4_6 kw_3_134 kw_1_11 kw_3_135 (Nat.le_of_ble_eq_true rfl) (Nat.le_of_ble_eq_true rfl) ⟨Nat.le_of_ble_eq_true rfl, Nat.le_of_ble_eq_true rfl⟩ dX2_takeIn_35 ?_
  refine q_putI (k := 5) X ax hK rfl rfl (Nat.le_of_ble_eq_true rfl) inTX2 (gc (t := 3) (by decide) hi) tyX2 tyX2_ok nmX2 kw_1_105 rfl rfl (tyX2_ok 5 (Nat.le_of_ble_eq_true rfl)) rfl dX2_takeIn_38 ?_
  refine q_nmP (fun m_3 em_3 => ?_)
  have h := h m_3 em_3
  refine q_aload_n (j := 0) X dX2_takeIn_41 rfl rfl ?_
  refine q_aload_n (j := 0) X dX2_takeIn_42 rfl rfl ?_
  refine q_get (k := 6) (v := .int (m_3.1 3 i 6)) X hK rfl rfl (Nat.le_of_ble_eq_true rfl) inTX2 (gc (t := 3) (by decide) hi) kw_1_108 rfl rfl dX2_takeIn_43 ?_
  refine q_aload_n (j := 1) X dX2_takeIn_46 rfl rfl ?_
  refine q_get (k := 6) (v := .int (m_3.1 3 p0 6)) X hK rfl rfl (Nat.le_of_ble_eq_true rfl) inTX2 (gc (t := 3) (by decide) hp0) kw_1_108 rfl rfl dX2_takeIn_47 ?_
  refine q_max X kw_4_7 kw_4_8 kw_1_11 kw_4_9 (Nat.le_of_ble_eq_true rfl) (Nat.le_of_ble_eq_true rfl) ⟨Nat.le_of_ble_eq_true rfl, Nat.le_of_ble_eq_true rfl⟩ dX2_takeIn_50 ?_
  refine q_putI (k := 6) X ax hK rfl rfl (Nat.le_of_ble_eq_true rfl) inTX2 (gc (t := 3) (by decide) hi) tyX2 tyX2_ok nmX2 kw_1_108 rfl rfl (tyX2_ok 6 (Nat.le_of_ble_eq_true rfl)) rfl dX2_takeIn_53 ?_
  refine q_nmP (fun m_4 em_4 => ?_)
  have h := h m_4 em_4
  refine q_aload_n (j := 1) X dX2_takeIn_56 rfl rfl ?_
  refine q_iconst (v := 0) X dX2_takeIn_57 (by decide) ?_
  refine q_putI (k := 2) X ax hK rfl rfl (Nat.le_of_ble_eq_true rfl) inTX2 (gc (t := 3) (by decide) hp0) tyX2 tyX2_ok nmX2 kw_1_93 rfl rfl (tyX2_ok 2 (Nat.le_of_ble_eq_true rfl)) rfl dX2_takeIn_58 ?_
  refine q_nmP (fun m_5 em_5 => ?_)
  have h := h m_5 em_5
  exact hE _ _ _ dX2_takeIn_61 h
theorem dX1_join_0 : decode cX1_join 0 = .ok (.aload_n 0, 1) := by decide +kernel
theorem dX1_join_1 : decode cX1_join 1 = .ok (.getfield 9, 3) := by decide +kernel
theorem dX1_join_4 : decode cX1_join 4 = .ok (.iload_n 1, 1) := by decide +kernel
theorem dX1_join_5 : decode cX1_join 5 = .ok (.invokevirtual 79, 3) := by decide +kernel
theorem dX1_join_8 : decode cX1_join 8 = .ok (.astore_n 3, 1) := by decide +kernel
theorem dX1_join_9 : decode cX1_join 9 = .ok (.aload_n 0, 1) := by decide +kernel
theorem dX1_join_10 : decode cX1_join 10 = .ok (.getfield 9, 3) := by decide +kernel
theorem dX1_join_13 : decode cX1_join 13 = .ok (.iload_n 2, 1) := by decide +kernel
theorem dX1_join_14 : decode cX1_join 14 = .ok (.invokevirtual 79, 3) := by decide +kernel
theorem dX1_join_17 : decode cX1_join 17 = .ok (.astore 4, 2) := by decide +kernel
theorem dX1_join_19 : decode cX1_join 19 = .ok (.aload_n 3, 1) := by decide +kernel
theorem dX1_join_20 : decode cX1_join 20 = .ok (.ifnull 8, 3) := by decide +kernel
theorem dX1_join_23 : decode cX1_join 23 = .ok (.aload 4, 2) := by decide +kernel
theorem dX1_join_25 : decode cX1_join 25 = .ok (.ifnonnull 5, 3) := by decide +kernel
theorem dX1_join_28 : decode cX1_join 28 = .ok (.iconst (-1), 1) := by decide +kernel
theorem dX1_join_29 : decode cX1_join 29 = .ok (.ireturn, 1) := by decide +kernel
theorem dX1_join_30 : decode cX1_join 30 = .ok (.iload_n 1, 1) := by decide +kernel
theorem dX1_join_31 : decode cX1_join 31 = .ok (.iload_n 2, 1) := by decide +kernel
theorem dX1_join_32 : decode cX1_join 32 = .ok (.if_icmp .ne 6, 3) := by decide +kernel
theorem dX1_join_35 : decode cX1_join 35 = .ok (.bipush (-2), 2) := by decide +kernel
theorem dX1_join_37 : decode cX1_join 37 = .ok (.ireturn, 1) := by decide +kernel
theorem dX1_join_38 : decode cX1_join 38 = .ok (.aload_n 0, 1) := by decide +kernel
theorem dX1_join_39 : decode cX1_join 39 = .ok (.getfield 9, 3) := by decide +kernel
theorem dX1_join_42 : decode cX1_join 42 = .ok (.aload_n 3, 1) := by decide +kernel
theorem dX1_join_43 : decode cX1_join 43 = .ok (.aload 4, 2) := by decide +kernel
theorem dX1_join_45 : decode cX1_join 45 = .ok (.invokevirtual 180, 3) := by decide +kernel
theorem dX1_join_48 : decode cX1_join 48 = .ok (.ifCond .ne 6, 3) := by decide +kernel
theorem dX1_join_51 : decode cX1_join 51 = .ok (.bipush (-3), 2) := by decide +kernel
theorem dX1_join_53 : decode cX1_join 53 = .ok (.ireturn, 1) := by decide +kernel
theorem dX1_join_54 : decode cX1_join 54 = .ok (.aload_n 0, 1) := by decide +kernel
theorem dX1_join_55 : decode cX1_join 55 = .ok (.getfield 15, 3) := by decide +kernel
theorem dX1_join_58 : decode cX1_join 58 = .ok (.aload_n 0, 1) := by decide +kernel
theorem dX1_join_59 : decode cX1_join 59 = .ok (.getfield 9, 3) := by decide +kernel
theorem dX1_join_62 : decode cX1_join 62 = .ok (.invokevirtual 29, 3) := by decide +kernel
theorem dX1_join_65 : decode cX1_join 65 = .ok (.aload_n 3, 1) := by decide +kernel
theorem dX1_join_66 : decode cX1_join 66 = .ok (.aload 4, 2) := by decide +kernel
theorem dX1_join_68 : decode cX1_join 68 = .ok (.invokevirtual 184, 3) := by decide +kernel
theorem dX1_join_71 : decode cX1_join 71 = .ok (.aload_n 0, 1) := by decide +kernel
theorem dX1_join_72 : decode cX1_join 72 = .ok (.getfield 9, 3) := by decide +kernel
theorem dX1_join_75 : decode cX1_join 75 = .ok (.aload 4, 2) := by decide +kernel
theorem dX1_join_77 : decode cX1_join 77 = .ok (.invokevirtual 124, 3) := by decide +kernel
theorem dX1_join_80 : decode cX1_join 80 = .ok (.aload_n 3, 1) := by decide +kernel
theorem dX1_join_81 : decode cX1_join 81 = .ok (.getfield 45, 3) := by decide +kernel
theorem dX1_join_84 : decode cX1_join 84 = .ok (.ireturn, 1) := by decide +kernel
def w_X1_join (p0 : Int32) (p1 : Int32) (mm : Mm) (Q9 : Int32 → Mm → Prop) : Prop :=
  w_X8_findEntry 1 p0 mm (fun (r_1 : Nat) => w_X8_findEntry 1 p1 mm (fun (r_3 : Nat) => ((r_1 = 0 → Q9 (-1) mm) ∧
  (¬ r_1 = 0 → ((¬ r_3 = 0 → ((¬ p0 = p1 → ok 3 r_3 ∧ ok 3 r_1 ∧ w_X8_canJoin 1 r_1 r_3 mm (fun (r_10 : Int32) => ((¬ r_10 = 0 → w_X3_save 1 mm (fun (m_14 : Mm) => w_X2_takeIn r_1 r_3 m_14 (fun (m_16 : Mm) => w_X8_closeIfEmpty 1 r_3 m_16 (fun (m_18 : Mm) => Q9 (m_18.1 3 r_1 2) m_18)))) ∧
  (r_10 = 0 → Q9 (-3) mm)))) ∧
  (p0 = p1 → Q9 (-2) mm))) ∧
  (r_3 = 0 → Q9 (-1) mm))))))
def rm_X1_join : Room := { frames := 3, cells := 0, slots := 0, locals := 64 }
theorem hy_X1_join : yX1_join.cls = RX1 ∧ yX1_join.cls ≠ "java/lang/invoke/MethodHandle" ∧ yX1_join.cls ≠ "java/lang/invoke/VarHandle" ∧ (parseMethodDescriptor yX1_join.desc).map (fun d => d.parameters.length) = some 2 := by decide +kernel
set_option maxRecDepth 100000 in
set_option maxHeartbeats 4000000 in
theorem c_X1_join {l : Launch} {D : va_G} {cA : Nat → ClassId} {ad : Nat → Nat → Nat} {A : Nat → Prop} (ax : Ax ad GC A) (p0 : Int32) (p1 : Int32) (mm : Mm) (Q9 : Int32 → Mm → Prop) (h : w_X1_join p0 p1 mm Q9) : Met l yX1_join (.code yX1_join cX1_join 5 (some .int) :: TG) rm_X1_join (PcM TT D cA ad false GC (ZC ad A) [.ref (ad 16 1), .int p0, .int p1] mm) (AnsI TT D cA ad false GC A Q9) 0 0 A := by
  have zo := ZC_ok ad A
  unfold w_X1_join at h
  refine enterI pl_X1 ⟨rfl, rfl⟩ rfl (Nat.le_of_ble_eq_true rfl) ?_
  intro p e s m args below meth c QQ X hK hZ hnm hE
  refine q_aload_n (j := 0) X dX1_join_0 rfl rfl ?_
  refine q_get (k := 0) (v := .ref (ad 1 1)) X hK rfl rfl (Nat.le_of_ble_eq_true rfl) inTX1 (gc (t := 16) (by decide) (ok1 (t := 16) (Nat.le_of_ble_eq_true rfl))) kw_2_75 rfl (rv_nn (a := ad 1) (r := 1) (ok1 (t := 1) (Nat.le_of_ble_eq_true rfl)).1) dX1_join_1 ?_
  refine q_iload_n (j := 1) X dX1_join_4 rfl rfl ?_
  refine q_callr (q_runVN X hK hZ zo (gc (t := 1) (by decide) (ok1 (t := 1) (Nat.le_of_ble_eq_true rfl))) rfl rfl [.int p0] [] rfl rfl (Nat.le_of_ble_eq_true rfl) dX1_join_5 ⟨Nat.le_of_ble_eq_true rfl, Nat.le_of_ble_eq_true rfl⟩ (c_X8_findEntry ax 1 (ok1 (t := 1) (Nat.le_of_ble_eq_true rfl)) p0 mm _ h) rfl rfl (List.mem_of_getElem? (i := 24) rfl) kw_1_2 kw_3_106 kw_3_105 ks_19 hy_X8_findEntry.2 ⟨Nat.le_of_ble_eq_true rfl, Nat.le_of_ble_eq_true rfl⟩) (fun r_1 m_2 h => ?_)
  obtain ⟨h, hm⟩ := h
  subst hm
  refine q_vstore_n (lv' := [(3, rv (ad 3) r_1), (0, .ref (ad 16 1)), (1, .int p0), (2, .int p1)]) X dX1_join_8 rfl (by decide) rfl ?_
  refine q_aload_n (j := 1) X dX1_join_9 rfl rfl ?_
  refine q_get (k := 0) (v := .ref (ad 1 1)) X hK rfl rfl (Nat.le_of_ble_eq_true rfl) inTX1 (gc (t := 16) (by decide) (ok1 (t := 16) (Nat.le_of_ble_eq_true rfl))) kw_2_75 rfl (rv_nn (a := ad 1) (r := 1) (ok1 (t := 1) (Nat.le_of_ble_eq_true rfl)).1) dX1_join_10 ?_
  refine q_iload_n (j := 3) X dX1_join_13 rfl rfl ?_
  refine q_callr (q_runVN X hK hZ zo (gc (t := 1) (by decide) (ok1 (t := 1) (Nat.le_of_ble_eq_true rfl))) rfl rfl [.int p1] [] rfl rfl (Nat.le_of_ble_eq_true rfl) dX1_join_14 ⟨Nat.le_of_ble_eq_true rfl, Nat.le_of_ble_eq_true rfl⟩ (c_X8_findEntry ax 1 (ok1 (t := 1) (Nat.le_of_ble_eq_true rfl)) p1 mm _ h) rfl rfl (List.mem_of_getElem? (i := 24) rfl) kw_1_2 kw_3_106 kw_3_105 ks_19 hy_X8_findEntry.2 ⟨Nat.le_of_ble_eq_true rfl, Nat.le_of_ble_eq_true rfl⟩) (fun r_3 m_4 h => ?_)
  obtain ⟨h, hm⟩ := h
  subst hm
  refine q_vstore (lv' := [(4, rv (ad 3) r_3), (3, rv (ad 3) r_1), (0, .ref (ad 16 1)), (1, .int p0), (2, .int p1)]) X dX1_join_17 (by decide) (by simp [rv_cat]) ?_
  refine q_vload_n (j := 1) X dX1_join_19 rfl rfl ?_
  refine q_ifnull (tgt := 28) X dX1_join_20 (by decide) (fun c_5 => ?_) (fun c_5 => ?_)
  · have h := h.1 c_5
    refine q_iconst (v := (-1)) X dX1_join_28 (by decide) ?_
    exact hE _ _ _ _ dX1_join_29 h
  · have h := h.2 c_5
    refine q_vload (j := 0) X dX1_join_23 rfl ?_
    refine q_ifnonnull (tgt := 30) X dX1_join_25 (by decide) (fun c_6 => ?_) (fun c_6 => ?_)
    · have h := h.1 c_6
      refine q_iload_n (j := 3) X dX1_join_30 rfl rfl ?_
      refine q_iload_n (j := 4) X dX1_join_31 rfl rfl ?_
      refine q_icmp_ne (tgt := 38) X dX1_join_32 (by decide) (fun c_7 => ?_) (fun c_7 => ?_)
      · have h := h.1 c_7
        refine q_aload_n (j := 2) X dX1_join_38 rfl rfl ?_
        refine q_get (k := 0) (v := .ref (ad 1 1)) X hK rfl rfl (Nat.le_of_ble_eq_true rfl) inTX1 (gc (t := 16) (by decide) (ok1 (t := 16) (Nat.le_of_ble_eq_true rfl))) kw_2_75 rfl (rv_nn (a := ad 1) (r := 1) (ok1 (t := 1) (Nat.le_of_ble_eq_true rfl)).1) dX1_join_39 ?_
        refine q_vload_n (j := 1) X dX1_join_42 rfl rfl ?_
        refine q_vload (j := 0) X dX1_join_43 rfl ?_
        obtain ⟨k_8, h⟩ := h
        rw [rv_nn (a := ad 3) (r := r_3) k_8.1]
        obtain ⟨k_9, h⟩ := h
        rw [rv_nn (a := ad 3) (r := r_1) k_9.1]
        refine q_calli (q_runVN X hK hZ zo (gc (t := 1) (by decide) (ok1 (t := 1) (Nat.le_of_ble_eq_true rfl))) rfl rfl [.ref (ad 3 r_1), .ref (ad 3 r_3)] [] rfl rfl (Nat.le_of_ble_eq_true rfl) dX1_join_45 ⟨Nat.le_of_ble_eq_true rfl, Nat.le_of_ble_eq_true rfl⟩ (c_X8_canJoin ax 1 (ok1 (t := 1) (Nat.le_of_ble_eq_true rfl)) r_1 k_9 r_3 k_8 mm _ h) rfl rfl (List.mem_of_getElem? (i := 51) rfl) kw_1_2 kw_4_1 kw_4_0 ks_40 hy_X8_canJoin.2 ⟨Nat.le_of_ble_eq_true rfl, Nat.le_of_ble_eq_true rfl⟩) (fun r_10 m_11 h => ?_)
        obtain ⟨h, hm⟩ := h
        subst hm
        refine q_if_ne (tgt := 54) X dX1_join_48 (by decide) (fun c_12 => ?_) (fun c_12 => ?_)
        · have h := h.1 c_12
          refine q_aload_n (j := 2) X dX1_join_54 rfl rfl ?_
          refine q_get (k := 1) (v := .ref (ad 12 1)) X hK rfl rfl (Nat.le_of_ble_eq_true rfl) inTX1 (gc (t := 16) (by decide) (ok1 (t := 16) (Nat.le_of_ble_eq_true rfl))) kw_2_76 rfl (rv_nn (a := ad 12) (r := 1) (ok1 (t := 12) (Nat.le_of_ble_eq_true rfl)).1) dX1_join_55 ?_
          refine q_aload_n (j := 2) X dX1_join_58 rfl rfl ?_
          refine q_get (k := 0) (v := .ref (ad 1 1)) X hK rfl rfl (Nat.le_of_ble_eq_true rfl) inTX1 (gc (t := 16) (by decide) (ok1 (t := 16) (Nat.le_of_ble_eq_true rfl))) kw_2_75 rfl (rv_nn (a := ad 1) (r := 1) (ok1 (t := 1) (Nat.le_of_ble_eq_true rfl)).1) dX1_join_59 ?_
          refine q_callv (q_runVN X hK hZ zo (gc (t := 12) (by decide) (ok1 (t := 12) (Nat.le_of_ble_eq_true rfl))) rfl rfl [.ref (ad 1 1)] [] rfl rfl (Nat.le_of_ble_eq_true rfl) dX1_join_62 ⟨Nat.le_of_ble_eq_true rfl, Nat.le_of_ble_eq_true rfl⟩ (c_X3_save ax 1 (ok1 (t := 1) (Nat.le_of_ble_eq_true rfl)) mm _ h) rfl rfl (List.mem_of_getElem? (i := 15) rfl) kw_1_8 kw_2_194 kw_2_193 ks_9 hy_X3_save.2 ⟨Nat.le_of_ble_eq_true rfl, Nat.le_of_ble_eq_true rfl⟩) (fun m_14 h => ?_)
          refine q_aload_n (j := 1) X dX1_join_65 rfl rfl ?_
          refine q_aload (j := 0) X dX1_join_66 rfl ?_
          refine q_callv (q_runVN X hK hZ zo (gc (t := 3) (by decide) k_9) rfl rfl [.ref (ad 3 r_3)] [] rfl rfl (Nat.le_of_ble_eq_true rfl) dX1_join_68 ⟨Nat.le_of_ble_eq_true rfl, Nat.le_of_ble_eq_true rfl⟩ (c_X2_takeIn ax r_1 k_9 r_3 k_8 m_14 _ h) rfl rfl (List.mem_of_getElem? (i := 52) rfl) kw_1_4 kw_4_5 kw_4_4 ks_41 hy_X2_takeIn.2 ⟨Nat.le_of_ble_eq_true rfl, Nat.le_of_ble_eq_true rfl⟩) (fun m_16 h => ?_)
          refine q_aload_n (j := 2) X dX1_join_71 rfl rfl ?_
          refine q_get (k := 0) (v := .ref (ad 1 1)) X hK rfl rfl (Nat.le_of_ble_eq_true rfl) inTX1 (gc (t := 16) (by decide) (ok1 (t := 16) (Nat.le_of_ble_eq_true rfl))) kw_2_75 rfl (rv_nn (a := ad 1) (r := 1) (ok1 (t := 1) (Nat.le_of_ble_eq_true rfl)).1) dX1_join_72 ?_
          refine q_aload (j := 0) X dX1_join_75 rfl ?_
          refine q_callv (q_runVN X hK hZ zo (gc (t := 1) (by decide) (ok1 (t := 1) (Nat.le_of_ble_eq_true rfl))) rfl rfl [.ref (ad 3 r_3)] [] rfl rfl (Nat.le_of_ble_eq_true rfl) dX1_join_77 ⟨Nat.le_of_ble_eq_true rfl, Nat.le_of_ble_eq_true rfl⟩ (c_X8_closeIfEmpty ax 1 (ok1 (t := 1) (Nat.le_of_ble_eq_true rfl)) r_3 k_8 m_16 _ h) rfl rfl (List.mem_of_getElem? (i := 32) rfl) kw_1_2 kw_3_144 kw_3_143 ks_27 hy_X8_closeIfEmpty.2 ⟨Nat.le_of_ble_eq_true rfl, Nat.le_of_ble_eq_true rfl⟩) (fun m_18 h => ?_)
          refine q_aload_n (j := 1) X dX1_join_80 rfl rfl ?_
          refine q_getN (k := 2) (v := .int (m_18.1 3 r_1 2)) X hK rfl rfl (Nat.le_of_ble_eq_true rfl) inTX2 (gc (t := 3) (by decide) k_9) (List.mem_of_getElem? (i := 18) rfl) rfl rfl dX1_join_81 ?_
          exact hE _ _ _ _ dX1_join_84 h
        · have h := h.2 c_12
          refine q_bipush (v := (-3)) X dX1_join_51 (by decide) ?_
          exact hE _ _ _ _ dX1_join_53 h
      · have h := h.2 c_7
        refine q_bipush (v := (-2)) X dX1_join_35 (by decide) ?_
        exact hE _ _ _ _ dX1_join_37 h
    · have h := h.2 c_6
      refine q_iconst (v := (-1)) X dX1_join_28 (by decide) ?_
      exact hE _ _ _ _ dX1_join_29 h
theorem dX8_wasteAllowedNow_0 : decode cX8_wasteAllowedNow 0 = .ok (.aload_n 0, 1) := by decide +kernel
theorem dX8_wasteAllowedNow_1 : decode cX8_wasteAllowedNow 1 = .ok (.getfield 58, 3) := by decide +kernel
theorem dX8_wasteAllowedNow_4 : decode cX8_wasteAllowedNow 4 = .ok (.aload_n 1, 1) := by decide +kernel
theorem dX8_wasteAllowedNow_5 : decode cX8_wasteAllowedNow 5 = .ok (.getfield 131, 3) := by decide +kernel
theorem dX8_wasteAllowedNow_8 : decode cX8_wasteAllowedNow 8 = .ok (.isub, 1) := by decide +kernel
theorem dX8_wasteAllowedNow_9 : decode cX8_wasteAllowedNow 9 = .ok (.bipush 10, 2) := by decide +kernel
theorem dX8_wasteAllowedNow_11 : decode cX8_wasteAllowedNow 11 = .ok (.idiv, 1) := by decide +kernel
theorem dX8_wasteAllowedNow_12 : decode cX8_wasteAllowedNow 12 = .ok (.istore_n 2, 1) := by decide +kernel
theorem dX8_wasteAllowedNow_13 : decode cX8_wasteAllowedNow 13 = .ok (.aload_n 1, 1) := by decide +kernel
theorem dX8_wasteAllowedNow_14 : decode cX8_wasteAllowedNow 14 = .ok (.getfield 97, 3) := by decide +kernel
theorem dX8_wasteAllowedNow_17 : decode cX8_wasteAllowedNow 17 = .ok (.aload_n 1, 1) := by decide +kernel
theorem dX8_wasteAllowedNow_18 : decode cX8_wasteAllowedNow 18 = .ok (.getfield 97, 3) := by decide +kernel
theorem dX8_wasteAllowedNow_21 : decode cX8_wasteAllowedNow 21 = .ok (.getstatic 134, 3) := by decide +kernel
theorem dX8_wasteAllowedNow_24 : decode cX8_wasteAllowedNow 24 = .ok (.aload_n 1, 1) := by decide +kernel
theorem dX8_wasteAllowedNow_25 : decode cX8_wasteAllowedNow 25 = .ok (.getfield 113, 3) := by decide +kernel
theorem dX8_wasteAllowedNow_28 : decode cX8_wasteAllowedNow 28 = .ok (.iaload, 1) := by decide +kernel
theorem dX8_wasteAllowedNow_29 : decode cX8_wasteAllowedNow 29 = .ok (.imul, 1) := by decide +kernel
theorem dX8_wasteAllowedNow_30 : decode cX8_wasteAllowedNow 30 = .ok (.iload_n 2, 1) := by decide +kernel
theorem dX8_wasteAllowedNow_31 : decode cX8_wasteAllowedNow 31 = .ok (.imul, 1) := by decide +kernel
theorem dX8_wasteAllowedNow_32 : decode cX8_wasteAllowedNow 32 = .ok (.sipush 1000, 3) := by decide +kernel
theorem dX8_wasteAllowedNow_35 : decode cX8_wasteAllowedNow 35 = .ok (.idiv, 1) := by decide +kernel
theorem dX8_wasteAllowedNow_36 : decode cX8_wasteAllowedNow 36 = .ok (.invokestatic 100, 3) := by decide +kernel
theorem dX8_wasteAllowedNow_39 : decode cX8_wasteAllowedNow 39 = .ok (.ireturn, 1) := by decide +kernel
def w_X8_wasteAllowedNow (i : Nat) (p0 : Nat) (mm : Mm) (Q9 : Int32 → Prop) : Prop :=
  ∀ x_1 : Int32, x_1 = (((mm.1 1 i 0) - (mm.1 3 p0 6)) / 10) → (vp_in (mm.1 3 p0 1) (slen 3) ∧ (Q9 (if ((((mm.1 3 p0 2) * (stv 3 (mm.1 3 p0 1).toNatClampNeg)) * x_1) / 1000) < (mm.1 3 p0 2) then ((((mm.1 3 p0 2) * (stv 3 (mm.1 3 p0 1).toNatClampNeg)) * x_1) / 1000) else (mm.1 3 p0 2))))
def rm_X8_wasteAllowedNow : Room := { frames := 1, cells := 0, slots := 0, locals := 21 }
theorem hy_X8_wasteAllowedNow : yX8_wasteAllowedNow.cls = RX8 ∧ yX8_wasteAllowedNow.cls ≠ "java/lang/invoke/MethodHandle" ∧ yX8_wasteAllowedNow.cls ≠ "java/lang/invoke/VarHandle" ∧ (parseMethodDescriptor yX8_wasteAllowedNow.desc).map (fun d => d.parameters.length) = some 1 := by decide +kernel
set_option maxRecDepth 100000 in
set_option maxHeartbeats 4000000 in
theorem c_X8_wasteAllowedNow {l : Launch} {D : va_G} {cA : Nat → ClassId} {ad : Nat → Nat → Nat} {A : Nat → Prop} (ax : Ax ad GC A) (i : Nat) (hi : ok 1 i) (p0 : Nat) (hp0 : ok 3 p0) (mm : Mm) (Q9 : Int32 → Prop) (h : w_X8_wasteAllowedNow i p0 mm Q9) : Met l yX8_wasteAllowedNow (.code yX8_wasteAllowedNow cX8_wasteAllowedNow 3 (some .int) :: TG) rm_X8_wasteAllowedNow (PcM TT D cA ad false GC (ZC ad A) [.ref (ad 1 i), .ref (ad 3 p0)] mm) (AnsI TT D cA ad false GC A (fun r mm' => Q9 r ∧ mm = mm')) 0 0 A := by
  have zo := ZC_ok ad A
  unfold w_X8_wasteAllowedNow at h
  refine enterI pl_X8 ⟨rfl, rfl⟩ rfl (Nat.le_of_ble_eq_true rfl) ?_
  intro p e s m args below meth c QQ X hK hZ hnm hE
  refine q_aload_n (j := 0) X dX8_wasteAllowedNow_0 rfl rfl ?_
  refine q_get (k := 0) (v := .int (mm.1 1 i 0)) X hK rfl rfl (Nat.le_of_ble_eq_true rfl) inTX8 (gc (t := 1) (by decide) hi) kw_1_227 rfl rfl dX8_wasteAllowedNow_1 ?_
  refine q_aload_n (j := 1) X dX8_wasteAllowedNow_4 rfl rfl ?_
  refine q_getN (k := 6) (v := .int (mm.1 3 p0 6)) X hK rfl rfl (Nat.le_of_ble_eq_true rfl) inTX2 (gc (t := 3) (by decide) hp0) (List.mem_of_getElem? (i := 30) rfl) rfl rfl dX8_wasteAllowedNow_5 ?_
  refine q_isub X dX8_wasteAllowedNow_8 ?_
  refine q_bipush (v := 10) X dX8_wasteAllowedNow_9 (by decide) ?_
  refine q_idiv X dX8_wasteAllowedNow_11 (by decide) ?_
  refine q_topi (fun x_1 ex_1 => ?_)
  have h := h x_1 ex_1
  refine q_istore_n (lv' := [(2, .int x_1), (0, .ref (ad 1 i)), (1, .ref (ad 3 p0))]) X dX8_wasteAllowedNow_12 rfl (by decide) rfl ?_
  refine q_aload_n (j := 2) X dX8_wasteAllowedNow_13 rfl rfl ?_
  refine q_getN (k := 2) (v := .int (mm.1 3 p0 2)) X hK rfl rfl (Nat.le_of_ble_eq_true rfl) inTX2 (gc (t := 3) (by decide) hp0) (List.mem_of_getElem? (i := 19) rfl) rfl rfl dX8_wasteAllowedNow_14 ?_
  refine q_aload_n (j := 2) X dX8_wasteAllowedNow_17 rfl rfl ?_
  refine q_getN (k := 2) (v := .int (mm.1 3 p0 2)) X hK rfl rfl (Nat.le_of_ble_eq_true rfl) inTX2 (gc (t := 3) (by decide) hp0) (List.mem_of_getElem? (i := 19) rfl) rfl rfl dX8_wasteAllowedNow_18 ?_
  refine q_getsN X hK (hZ.1 3 (okc (t := 20) 3 (by decide))).1 (List.mem_of_getElem? (i := 89) rfl) dX8_wasteAllowedNow_21 ?_
  refine q_aload_n (j := 2) X dX8_wasteAllowedNow_24 rfl rfl ?_
  refine q_getN (k := 1) (v := .int (mm.1 3 p0 1)) X hK rfl rfl (Nat.le_of_ble_eq_true rfl) inTX2 (gc (t := 3) (by decide) hp0) (List.mem_of_getElem? (i := 16) rfl) rfl rfl dX8_wasteAllowedNow_25 ?_
  obtain ⟨b_2, h⟩ := h
  refine q_tiald (jn := (mm.1 3 p0 1).toNatClampNeg) (v := .int (stv 3 (mm.1 3 p0 1).toNatClampNeg)) X (hZ.1 _ (okc (t := 20) 3 (by decide))).2 b_2 rfl rfl dX8_wasteAllowedNow_28 ?_
  refine q_imul X dX8_wasteAllowedNow_29 ?_
  refine q_iload_n (j := 0) X dX8_wasteAllowedNow_30 rfl rfl ?_
  refine q_imul X dX8_wasteAllowedNow_31 ?_
  refine q_sipush (v := 1000) X dX8_wasteAllowedNow_32 (by decide) ?_
  refine q_idiv X dX8_wasteAllowedNow_35 (by decide) ?_
  refine q_min X kw_3_133 kw_3_134 kw_1_11 kw_3_135 (Nat.le_of_ble_eq_true rfl) (Nat.le_of_ble_eq_true rfl) ⟨Nat.le_of_ble_eq_true rfl, Nat.le_of_ble_eq_true rfl⟩ dX8_wasteAllowedNow_36 ?_
  exact hE _ _ _ _ dX8_wasteAllowedNow_39 ⟨h, rfl⟩
theorem dX8_lossIf_0 : decode cX8_lossIf 0 = .ok (.iconst 0, 1) := by decide +kernel
theorem dX8_lossIf_1 : decode cX8_lossIf 1 = .ok (.aload_n 1, 1) := by decide +kernel
theorem dX8_lossIf_2 : decode cX8_lossIf 2 = .ok (.getfield 97, 3) := by decide +kernel
theorem dX8_lossIf_5 : decode cX8_lossIf 5 = .ok (.iload_n 2, 1) := by decide +kernel
theorem dX8_lossIf_6 : decode cX8_lossIf 6 = .ok (.isub, 1) := by decide +kernel
theorem dX8_lossIf_7 : decode cX8_lossIf 7 = .ok (.aload_n 0, 1) := by decide +kernel
theorem dX8_lossIf_8 : decode cX8_lossIf 8 = .ok (.aload_n 1, 1) := by decide +kernel
theorem dX8_lossIf_9 : decode cX8_lossIf 9 = .ok (.invokevirtual 137, 3) := by decide +kernel
theorem dX8_lossIf_12 : decode cX8_lossIf 12 = .ok (.isub, 1) := by decide +kernel
theorem dX8_lossIf_13 : decode cX8_lossIf 13 = .ok (.invokestatic 140, 3) := by decide +kernel
theorem dX8_lossIf_16 : decode cX8_lossIf 16 = .ok (.ireturn, 1) := by decide +kernel
def w_X8_lossIf (i : Nat) (p0 : Nat) (p1 : Int32) (mm : Mm) (Q9 : Int32 → Prop) : Prop :=
  w_X8_wasteAllowedNow i p0 mm (fun (r_1 : Int32) => Q9 (if (0 : Int32) < (((mm.1 3 p0 2) - p1) - r_1) then (((mm.1 3 p0 2) - p1) - r_1) else 0))
def rm_X8_lossIf : Room := { frames := 2, cells := 0, slots := 0, locals := 43 }
theorem hy_X8_lossIf : yX8_lossIf.cls = RX8 ∧ yX8_lossIf.cls ≠ "java/lang/invoke/MethodHandle" ∧ yX8_lossIf.cls ≠ "java/lang/invoke/VarHandle" ∧ (parseMethodDescriptor yX8_lossIf.desc).map (fun d => d.parameters.length) = some 2 := by decide +kernel
set_option maxRecDepth 100000 in
set_option maxHeartbeats 4000000 in
theorem c_X8_lossIf {l : Launch} {D : va_G} {cA : Nat → ClassId} {ad : Nat → Nat → Nat} {A : Nat → Prop} (ax : Ax ad GC A) (i : Nat) (hi : ok 1 i) (p0 : Nat) (hp0 : ok 3 p0) (p1 : Int32) (mm : Mm) (Q9 : Int32 → Prop) (h : w_X8_lossIf i p0 p1 mm Q9) : Met l yX8_lossIf (.code yX8_lossIf cX8_lossIf 3 (some .int) :: TG) rm_X8_lossIf (PcM TT D cA ad false GC (ZC ad A) [.ref (ad 1 i), .ref (ad 3 p0), .int p1] mm) (AnsI TT D cA ad false GC A (fun r mm' => Q9 r ∧ mm = mm')) 0 0 A := by
  have zo := ZC_ok ad A
  unfold w_X8_lossIf at h
  refine enterI pl_X8 ⟨rfl, rfl⟩ rfl (Nat.le_of_ble_eq_true rfl) ?_
  intro p e s m args below meth c QQ X hK hZ hnm hE
  refine q_iconst (v := 0) X dX8_lossIf_0 (by decide) ?_
  refine q_aload_n (j := 1) X dX8_lossIf_1 rfl rfl ?_
  refine q_getN (k := 2) (v := .int (mm.1 3 p0 2)) X hK rfl rfl (Nat.le_of_ble_eq_true rfl) inTX2 (gc (t := 3) (by decide) hp0) (List.mem_of_getElem? (i := 19) rfl) rfl rfl dX8_lossIf_2 ?_
  refine q_iload_n (j := 2) X dX8_lossIf_5 rfl rfl ?_
  refine q_isub X dX8_lossIf_6 ?_
  refine q_aload_n (j := 0) X dX8_lossIf_7 rfl rfl ?_
  refine q_aload_n (j := 1) X dX8_lossIf_8 rfl rfl ?_
  refine q_calli (q_runV X hK hZ zo (gc (t := 1) (by decide) hi) rfl rfl [.ref (ad 3 p0)] [.int ((mm.1 3 p0 2) - p1), .int 0] rfl rfl (Nat.le_of_ble_eq_true rfl) dX8_lossIf_9 ⟨Nat.le_of_ble_eq_true rfl, Nat.le_of_ble_eq_true rfl⟩ (c_X8_wasteAllowedNow ax i hi p0 hp0 mm _ h) rfl rfl (gV kw_4_25 kw_4_27 ks_44 kw_1_2 kw_4_28) hy_X8_wasteAllowedNow ⟨Nat.le_of_ble_eq_true rfl, Nat.le_of_ble_eq_true rfl⟩) (fun r_1 m_2 h => ?_)
  obtain ⟨h, hm⟩ := h
  subst hm
  refine q_isub X dX8_lossIf_12 ?_
  refine q_max X kw_4_31 kw_4_8 kw_1_11 kw_4_9 (Nat.le_of_ble_eq_true rfl) (Nat.le_of_ble_eq_true rfl) ⟨Nat.le_of_ble_eq_true rfl, Nat.le_of_ble_eq_true rfl⟩ dX8_lossIf_13 ?_
  exact hE _ _ _ _ dX8_lossIf_16 ⟨h, rfl⟩
theorem dX8_chargeFor_0 : decode cX8_chargeFor 0 = .ok (.aload_n 0, 1) := by decide +kernel
theorem dX8_chargeFor_1 : decode cX8_chargeFor 1 = .ok (.aload_n 1, 1) := by decide +kernel
theorem dX8_chargeFor_2 : decode cX8_chargeFor 2 = .ok (.iload_n 2, 1) := by decide +kernel
theorem dX8_chargeFor_3 : decode cX8_chargeFor 3 = .ok (.invokevirtual 143, 3) := by decide +kernel
theorem dX8_chargeFor_6 : decode cX8_chargeFor 6 = .ok (.istore_n 3, 1) := by decide +kernel
theorem dX8_chargeFor_7 : decode cX8_chargeFor 7 = .ok (.aload_n 1, 1) := by decide +kernel
theorem dX8_chargeFor_8 : decode cX8_chargeFor 8 = .ok (.getfield 146, 3) := by decide +kernel
theorem dX8_chargeFor_11 : decode cX8_chargeFor 11 = .ok (.ifCond .eq 7, 3) := by decide +kernel
theorem dX8_chargeFor_14 : decode cX8_chargeFor 14 = .ok (.iload_n 3, 1) := by decide +kernel
theorem dX8_chargeFor_15 : decode cX8_chargeFor 15 = .ok (.goto 6, 3) := by decide +kernel
theorem dX8_chargeFor_18 : decode cX8_chargeFor 18 = .ok (.iconst 2, 1) := by decide +kernel
theorem dX8_chargeFor_19 : decode cX8_chargeFor 19 = .ok (.iload_n 3, 1) := by decide +kernel
theorem dX8_chargeFor_20 : decode cX8_chargeFor 20 = .ok (.imul, 1) := by decide +kernel
theorem dX8_chargeFor_21 : decode cX8_chargeFor 21 = .ok (.ireturn, 1) := by decide +kernel
def w_X8_chargeFor (i : Nat) (p0 : Nat) (p1 : Int32) (mm : Mm) (Q9 : Int32 → Prop) : Prop :=
  w_X8_dutyNow i p0 p1 mm (fun (r_1 : Int32) => (((mm.1 3 p0 7) = 0 → Q9 (2 * r_1)) ∧
  (¬ (mm.1 3 p0 7) = 0 → Q9 r_1)))
def rm_X8_chargeFor : Room := { frames := 2, cells := 0, slots := 0, locals := 46 }
theorem hy_X8_chargeFor : yX8_chargeFor.cls = RX8 ∧ yX8_chargeFor.cls ≠ "java/lang/invoke/MethodHandle" ∧ yX8_chargeFor.cls ≠ "java/lang/invoke/VarHandle" ∧ (parseMethodDescriptor yX8_chargeFor.desc).map (fun d => d.parameters.length) = some 2 := by decide +kernel
set_option maxRecDepth 100000 in
set_option maxHeartbeats 4000000 in
theorem c_X8_chargeFor {l : Launch} {D : va_G} {cA : Nat → ClassId} {ad : Nat → Nat → Nat} {A : Nat → Prop} (ax : Ax ad GC A) (i : Nat) (hi : ok 1 i) (p0 : Nat) (hp0 : ok 3 p0) (p1 : Int32) (mm : Mm) (Q9 : Int32 → Prop) (h : w_X8_chargeFor i p0 p1 mm Q9) : Met l yX8_chargeFor (.code yX8_chargeFor cX8_chargeFor 4 (some .int) :: TG) rm_X8_chargeFor (PcM TT D cA ad false GC (ZC ad A) [.ref (ad 1 i), .ref (ad 3 p0), .int p1] mm) (AnsI TT D cA ad false GC A (fun r mm' => Q9 r ∧ mm = mm')) 0 0 A := by
  have zo := ZC_ok ad A
  unfold w_X8_chargeFor at h
  refine enterI pl_X8 ⟨rfl, rfl⟩ rfl (Nat.le_of_ble_eq_true rfl) ?_
  intro p e s m args below meth c QQ X hK hZ hnm hE
  refine q_aload_n (j := 0) X dX8_chargeFor_0 rfl rfl ?_
  refine q_aload_n (j := 1) X dX8_chargeFor_1 rfl rfl ?_
  refine q_iload_n (j := 2) X dX8_chargeFor_2 rfl rfl ?_
  refine q_calli (q_runV X hK hZ zo (gc (t := 1) (by decide) hi) rfl rfl [.ref (ad 3 p0), .int p1] [] rfl rfl (Nat.le_of_ble_eq_true rfl) dX8_chargeFor_3 ⟨Nat.le_of_ble_eq_true rfl, Nat.le_of_ble_eq_true rfl⟩ (c_X8_dutyNow ax i hi p0 hp0 p1 mm _ h) rfl rfl (gV kw_3_116 kw_3_118 ks_22 kw_1_2 kw_3_119) hy_X8_dutyNow ⟨Nat.le_of_ble_eq_true rfl, Nat.le_of_ble_eq_true rfl⟩) (fun r_1 m_2 h => ?_)
  obtain ⟨h, hm⟩ := h
  subst hm
  refine q_istore_n (lv' := [(3, .int r_1), (0, .ref (ad 1 i)), (1, .ref (ad 3 p0)), (2, .int p1)]) X dX8_chargeFor_6 rfl (by decide) rfl ?_
  refine q_aload_n (j := 2) X dX8_chargeFor_7 rfl rfl ?_
  refine q_getN (k := 7) (v := .int (mm.1 3 p0 7)) X hK rfl rfl (Nat.le_of_ble_eq_true rfl) inTX2 (gc (t := 3) (by decide) hp0) (List.mem_of_getElem? (i := 32) rfl) rfl rfl dX8_chargeFor_8 ?_
  refine q_if_eq (tgt := 18) X dX8_chargeFor_11 (by decide) (fun c_3 => ?_) (fun c_3 => ?_)
  · have h := h.1 c_3
    refine q_iconst (v := 2) X dX8_chargeFor_18 (by decide) ?_
    refine q_iload_n (j := 0) X dX8_chargeFor_19 rfl rfl ?_
    refine q_imul X dX8_chargeFor_20 ?_
    exact hE _ _ _ _ dX8_chargeFor_21 ⟨h, rfl⟩
  · have h := h.2 c_3
    refine q_iload_n (j := 0) X dX8_chargeFor_14 rfl rfl ?_
    refine q_goto (tgt := 21) X dX8_chargeFor_15 (by decide) ?_
    exact hE _ _ _ _ dX8_chargeFor_21 ⟨h, rfl⟩
theorem dX6_takeCharge_0 : decode cX6_takeCharge 0 = .ok (.aload_n 0, 1) := by decide +kernel
theorem dX6_takeCharge_1 : decode cX6_takeCharge 1 = .ok (.getfield 13, 3) := by decide +kernel
theorem dX6_takeCharge_4 : decode cX6_takeCharge 4 = .ok (.iload_n 1, 1) := by decide +kernel
theorem dX6_takeCharge_5 : decode cX6_takeCharge 5 = .ok (.invokestatic 31, 3) := by decide +kernel
theorem dX6_takeCharge_8 : decode cX6_takeCharge 8 = .ok (.istore_n 2, 1) := by decide +kernel
theorem dX6_takeCharge_9 : decode cX6_takeCharge 9 = .ok (.aload_n 0, 1) := by decide +kernel
theorem dX6_takeCharge_10 : decode cX6_takeCharge 10 = .ok (.aload_n 0, 1) := by decide +kernel
theorem dX6_takeCharge_11 : decode cX6_takeCharge 11 = .ok (.getfield 13, 3) := by decide +kernel
theorem dX6_takeCharge_14 : decode cX6_takeCharge 14 = .ok (.iload_n 2, 1) := by decide +kernel
theorem dX6_takeCharge_15 : decode cX6_takeCharge 15 = .ok (.isub, 1) := by decide +kernel
theorem dX6_takeCharge_16 : decode cX6_takeCharge 16 = .ok (.putfield 13, 3) := by decide +kernel
theorem dX6_takeCharge_19 : decode cX6_takeCharge 19 = .ok (.aload_n 0, 1) := by decide +kernel
theorem dX6_takeCharge_20 : decode cX6_takeCharge 20 = .ok (.aload_n 0, 1) := by decide +kernel
theorem dX6_takeCharge_21 : decode cX6_takeCharge 21 = .ok (.getfield 16, 3) := by decide +kernel
theorem dX6_takeCharge_24 : decode cX6_takeCharge 24 = .ok (.iload_n 1, 1) := by decide +kernel
theorem dX6_takeCharge_25 : decode cX6_takeCharge 25 = .ok (.iadd, 1) := by decide +kernel
theorem dX6_takeCharge_26 : decode cX6_takeCharge 26 = .ok (.iload_n 2, 1) := by decide +kernel
theorem dX6_takeCharge_27 : decode cX6_takeCharge 27 = .ok (.isub, 1) := by decide +kernel
theorem dX6_takeCharge_28 : decode cX6_takeCharge 28 = .ok (.putfield 16, 3) := by decide +kernel
theorem dX6_takeCharge_31 : decode cX6_takeCharge 31 = .ok (.aload_n 0, 1) := by decide +kernel
theorem dX6_takeCharge_32 : decode cX6_takeCharge 32 = .ok (.aload_n 0, 1) := by decide +kernel
theorem dX6_takeCharge_33 : decode cX6_takeCharge 33 = .ok (.getfield 25, 3) := by decide +kernel
theorem dX6_takeCharge_36 : decode cX6_takeCharge 36 = .ok (.iload_n 1, 1) := by decide +kernel
theorem dX6_takeCharge_37 : decode cX6_takeCharge 37 = .ok (.iadd, 1) := by decide +kernel
theorem dX6_takeCharge_38 : decode cX6_takeCharge 38 = .ok (.putfield 25, 3) := by decide +kernel
theorem dX6_takeCharge_41 : decode cX6_takeCharge 41 = .ok (.return_, 1) := by decide +kernel
def w_X6_takeCharge (i : Nat) (p0 : Int32) (mm : Mm) (Q9 : Mm → Prop) : Prop :=
  ∀ x_1 : Int32, x_1 = (if p0 < (mm.1 2 i 1) then p0 else (mm.1 2 i 1)) → (∀ m_2 : Mm, m_2 = sI mm 2 i 1 ((mm.1 2 i 1) - x_1) → (∀ m_3 : Mm, m_3 = sI m_2 2 i 2 (((m_2.1 2 i 2) + p0) - x_1) → (∀ m_4 : Mm, m_4 = sI m_3 2 i 5 ((m_3.1 2 i 5) + p0) → (Q9 m_4))))
def rm_X6_takeCharge : Room := { frames := 1, cells := 0, slots := 0, locals := 21 }
theorem hy_X6_takeCharge : yX6_takeCharge.cls = RX6 ∧ yX6_takeCharge.cls ≠ "java/lang/invoke/MethodHandle" ∧ yX6_takeCharge.cls ≠ "java/lang/invoke/VarHandle" ∧ (parseMethodDescriptor yX6_takeCharge.desc).map (fun d => d.parameters.length) = some 1 := by decide +kernel
set_option maxRecDepth 100000 in
set_option maxHeartbeats 4000000 in
theorem c_X6_takeCharge {l : Launch} {D : va_G} {cA : Nat → ClassId} {ad : Nat → Nat → Nat} {A : Nat → Prop} (ax : Ax ad GC A) (i : Nat) (hi : ok 2 i) (p0 : Int32) (mm : Mm) (Q9 : Mm → Prop) (h : w_X6_takeCharge i p0 mm Q9) : Met l yX6_takeCharge (.code yX6_takeCharge cX6_takeCharge 3 none :: TG) rm_X6_takeCharge (PcM TT D cA ad false GC (ZC ad A) [.ref (ad 2 i), .int p0] mm) (AnsV TT D cA ad false GC A Q9) 0 0 A := by
  have zo := ZC_ok ad A
  unfold w_X6_takeCharge at h
  refine enterV pl_X6 ⟨rfl, rfl⟩ rfl (Nat.le_of_ble_eq_true rfl) ?_
  intro p e s m args below meth c QQ X hK hZ hnm hE
  refine q_aload_n (j := 0) X dX6_takeCharge_0 rfl rfl ?_
  refine q_get (k := 1) (v := .int (mm.1 2 i 1)) X hK rfl rfl (Nat.le_of_ble_eq_true rfl) inTX6 (gc (t := 2) (by decide) hi) kw_1_42 rfl rfl dX6_takeCharge_1 ?_
  refine q_iload_n (j := 1) X dX6_takeCharge_4 rfl rfl ?_
  refine q_min X kw_4_40 kw_3_134 kw_1_11 kw_3_135 (Nat.le_of_ble_eq_true rfl) (Nat.le_of_ble_eq_true rfl) ⟨Nat.le_of_ble_eq_true rfl, Nat.le_of_ble_eq_true rfl⟩ dX6_takeCharge_5 ?_
  refine q_topi (fun x_1 ex_1 => ?_)
  have h := h x_1 ex_1
  refine q_istore_n (lv' := [(2, .int x_1), (0, .ref (ad 2 i)), (1, .int p0)]) X dX6_takeCharge_8 rfl (by decide) rfl ?_
  refine q_aload_n (j := 1) X dX6_takeCharge_9 rfl rfl ?_
  refine q_aload_n (j := 1) X dX6_takeCharge_10 rfl rfl ?_
  refine q_get (k := 1) (v := .int (mm.1 2 i 1)) X hK rfl rfl (Nat.le_of_ble_eq_true rfl) inTX6 (gc (t := 2) (by decide) hi) kw_1_42 rfl rfl dX6_takeCharge_11 ?_
  refine q_iload_n (j := 0) X dX6_takeCharge_14 rfl rfl ?_
  refine q_isub X dX6_takeCharge_15 ?_
  refine q_putI (k := 1) X ax hK rfl rfl (Nat.le_of_ble_eq_true rfl) inTX6 (gc (t := 2) (by decide) hi) tyX6 tyX6_ok nmX6 kw_1_42 rfl rfl (tyX6_ok 1 (Nat.le_of_ble_eq_true rfl)) rfl dX6_takeCharge_16 ?_
  refine q_nmP (fun m_2 em_2 => ?_)
  have h := h m_2 em_2
  refine q_aload_n (j := 1) X dX6_takeCharge_19 rfl rfl ?_
  refine q_aload_n (j := 1) X dX6_takeCharge_20 rfl rfl ?_
  refine q_get (k := 2) (v := .int (m_2.1 2 i 2)) X hK rfl rfl (Nat.le_of_ble_eq_true rfl) inTX6 (gc (t := 2) (by decide) hi) kw_1_46 rfl rfl dX6_takeCharge_21 ?_
  refine q_iload_n (j := 2) X dX6_takeCharge_24 rfl rfl ?_
  refine q_iadd X dX6_takeCharge_25 ?_
  refine q_iload_n (j := 0) X dX6_takeCharge_26 rfl rfl ?_
  refine q_isub X dX6_takeCharge_27 ?_
  refine q_putI (k := 2) X ax hK rfl rfl (Nat.le_of_ble_eq_true rfl) inTX6 (gc (t := 2) (by decide) hi) tyX6 tyX6_ok nmX6 kw_1_46 rfl rfl (tyX6_ok 2 (Nat.le_of_ble_eq_true rfl)) rfl dX6_takeCharge_28 ?_
  refine q_nmP (fun m_3 em_3 => ?_)
  have h := h m_3 em_3
  refine q_aload_n (j := 1) X dX6_takeCharge_31 rfl rfl ?_
  refine q_aload_n (j := 1) X dX6_takeCharge_32 rfl rfl ?_
  refine q_get (k := 5) (v := .int (m_3.1 2 i 5)) X hK rfl rfl (Nat.le_of_ble_eq_true rfl) inTX6 (gc (t := 2) (by decide) hi) kw_1_53 rfl rfl dX6_takeCharge_33 ?_
  refine q_iload_n (j := 2) X dX6_takeCharge_36 rfl rfl ?_
  refine q_iadd X dX6_takeCharge_37 ?_
  refine q_putI (k := 5) X ax hK rfl rfl (Nat.le_of_ble_eq_true rfl) inTX6 (gc (t := 2) (by decide) hi) tyX6 tyX6_ok nmX6 kw_1_53 rfl rfl (tyX6_ok 5 (Nat.le_of_ble_eq_true rfl)) rfl dX6_takeCharge_38 ?_
  refine q_nmP (fun m_4 em_4 => ?_)
  have h := h m_4 em_4
  exact hE _ _ _ dX6_takeCharge_41 h
theorem dX1_putOnScales_0 : decode cX1_putOnScales 0 = .ok (.aload_n 0, 1) := by decide +kernel
theorem dX1_putOnScales_1 : decode cX1_putOnScales 1 = .ok (.getfield 9, 3) := by decide +kernel
theorem dX1_putOnScales_4 : decode cX1_putOnScales 4 = .ok (.iload_n 1, 1) := by decide +kernel
theorem dX1_putOnScales_5 : decode cX1_putOnScales 5 = .ok (.invokevirtual 79, 3) := by decide +kernel
theorem dX1_putOnScales_8 : decode cX1_putOnScales 8 = .ok (.astore_n 3, 1) := by decide +kernel
theorem dX1_putOnScales_9 : decode cX1_putOnScales 9 = .ok (.aload_n 3, 1) := by decide +kernel
theorem dX1_putOnScales_10 : decode cX1_putOnScales 10 = .ok (.ifnonnull 5, 3) := by decide +kernel
theorem dX1_putOnScales_13 : decode cX1_putOnScales 13 = .ok (.iconst (-1), 1) := by decide +kernel
theorem dX1_putOnScales_14 : decode cX1_putOnScales 14 = .ok (.ireturn, 1) := by decide +kernel
theorem dX1_putOnScales_15 : decode cX1_putOnScales 15 = .ok (.iload_n 2, 1) := by decide +kernel
theorem dX1_putOnScales_16 : decode cX1_putOnScales 16 = .ok (.iconst 0, 1) := by decide +kernel
theorem dX1_putOnScales_17 : decode cX1_putOnScales 17 = .ok (.aload_n 3, 1) := by decide +kernel
theorem dX1_putOnScales_18 : decode cX1_putOnScales 18 = .ok (.getfield 45, 3) := by decide +kernel
theorem dX1_putOnScales_21 : decode cX1_putOnScales 21 = .ok (.invokestatic 83, 3) := by decide +kernel
theorem dX1_putOnScales_24 : decode cX1_putOnScales 24 = .ok (.ifCond .ne 6, 3) := by decide +kernel
theorem dX1_putOnScales_27 : decode cX1_putOnScales 27 = .ok (.bipush (-2), 2) := by decide +kernel
theorem dX1_putOnScales_29 : decode cX1_putOnScales 29 = .ok (.ireturn, 1) := by decide +kernel
theorem dX1_putOnScales_30 : decode cX1_putOnScales 30 = .ok (.aload_n 0, 1) := by decide +kernel
theorem dX1_putOnScales_31 : decode cX1_putOnScales 31 = .ok (.getfield 9, 3) := by decide +kernel
theorem dX1_putOnScales_34 : decode cX1_putOnScales 34 = .ok (.getfield 161, 3) := by decide +kernel
theorem dX1_putOnScales_37 : decode cX1_putOnScales 37 = .ok (.aload_n 3, 1) := by decide +kernel
theorem dX1_putOnScales_38 : decode cX1_putOnScales 38 = .ok (.getfield 51, 3) := by decide +kernel
theorem dX1_putOnScales_41 : decode cX1_putOnScales 41 = .ok (.aaload, 1) := by decide +kernel
theorem dX1_putOnScales_42 : decode cX1_putOnScales 42 = .ok (.invokevirtual 165, 3) := by decide +kernel
theorem dX1_putOnScales_45 : decode cX1_putOnScales 45 = .ok (.ifCond .eq 6, 3) := by decide +kernel
theorem dX1_putOnScales_48 : decode cX1_putOnScales 48 = .ok (.bipush (-3), 2) := by decide +kernel
theorem dX1_putOnScales_50 : decode cX1_putOnScales 50 = .ok (.ireturn, 1) := by decide +kernel
theorem dX1_putOnScales_51 : decode cX1_putOnScales 51 = .ok (.aload_n 0, 1) := by decide +kernel
theorem dX1_putOnScales_52 : decode cX1_putOnScales 52 = .ok (.getfield 15, 3) := by decide +kernel
theorem dX1_putOnScales_55 : decode cX1_putOnScales 55 = .ok (.aload_n 0, 1) := by decide +kernel
theorem dX1_putOnScales_56 : decode cX1_putOnScales 56 = .ok (.getfield 9, 3) := by decide +kernel
theorem dX1_putOnScales_59 : decode cX1_putOnScales 59 = .ok (.invokevirtual 29, 3) := by decide +kernel
theorem dX1_putOnScales_62 : decode cX1_putOnScales 62 = .ok (.aload_n 3, 1) := by decide +kernel
theorem dX1_putOnScales_63 : decode cX1_putOnScales 63 = .ok (.getfield 45, 3) := by decide +kernel
theorem dX1_putOnScales_66 : decode cX1_putOnScales 66 = .ok (.iload_n 2, 1) := by decide +kernel
theorem dX1_putOnScales_67 : decode cX1_putOnScales 67 = .ok (.isub, 1) := by decide +kernel
theorem dX1_putOnScales_68 : decode cX1_putOnScales 68 = .ok (.istore 4, 2) := by decide +kernel
theorem dX1_putOnScales_70 : decode cX1_putOnScales 70 = .ok (.aload_n 0, 1) := by decide +kernel
theorem dX1_putOnScales_71 : decode cX1_putOnScales 71 = .ok (.getfield 9, 3) := by decide +kernel
theorem dX1_putOnScales_74 : decode cX1_putOnScales 74 = .ok (.aload_n 3, 1) := by decide +kernel
theorem dX1_putOnScales_75 : decode cX1_putOnScales 75 = .ok (.iload_n 2, 1) := by decide +kernel
theorem dX1_putOnScales_76 : decode cX1_putOnScales 76 = .ok (.invokevirtual 187, 3) := by decide +kernel
theorem dX1_putOnScales_79 : decode cX1_putOnScales 79 = .ok (.istore 5, 2) := by decide +kernel
theorem dX1_putOnScales_81 : decode cX1_putOnScales 81 = .ok (.aload_n 0, 1) := by decide +kernel
theorem dX1_putOnScales_82 : decode cX1_putOnScales 82 = .ok (.getfield 9, 3) := by decide +kernel
theorem dX1_putOnScales_85 : decode cX1_putOnScales 85 = .ok (.aload_n 3, 1) := by decide +kernel
theorem dX1_putOnScales_86 : decode cX1_putOnScales 86 = .ok (.iload 5, 2) := by decide +kernel
theorem dX1_putOnScales_88 : decode cX1_putOnScales 88 = .ok (.invokevirtual 190, 3) := by decide +kernel
theorem dX1_putOnScales_91 : decode cX1_putOnScales 91 = .ok (.istore 6, 2) := by decide +kernel
theorem dX1_putOnScales_93 : decode cX1_putOnScales 93 = .ok (.aload_n 0, 1) := by decide +kernel
theorem dX1_putOnScales_94 : decode cX1_putOnScales 94 = .ok (.getfield 9, 3) := by decide +kernel
theorem dX1_putOnScales_97 : decode cX1_putOnScales 97 = .ok (.getfield 94, 3) := by decide +kernel
theorem dX1_putOnScales_100 : decode cX1_putOnScales 100 = .ok (.iload 6, 2) := by decide +kernel
theorem dX1_putOnScales_102 : decode cX1_putOnScales 102 = .ok (.invokevirtual 193, 3) := by decide +kernel
theorem dX1_putOnScales_105 : decode cX1_putOnScales 105 = .ok (.aload_n 0, 1) := by decide +kernel
theorem dX1_putOnScales_106 : decode cX1_putOnScales 106 = .ok (.getfield 9, 3) := by decide +kernel
theorem dX1_putOnScales_109 : decode cX1_putOnScales 109 = .ok (.getfield 67, 3) := by decide +kernel
theorem dX1_putOnScales_112 : decode cX1_putOnScales 112 = .ok (.aload_n 3, 1) := by decide +kernel
theorem dX1_putOnScales_113 : decode cX1_putOnScales 113 = .ok (.getfield 39, 3) := by decide +kernel
theorem dX1_putOnScales_116 : decode cX1_putOnScales 116 = .ok (.aaload, 1) := by decide +kernel
theorem dX1_putOnScales_117 : decode cX1_putOnScales 117 = .ok (.dup, 1) := by decide +kernel
theorem dX1_putOnScales_118 : decode cX1_putOnScales 118 = .ok (.getfield 196, 3) := by decide +kernel
theorem dX1_putOnScales_121 : decode cX1_putOnScales 121 = .ok (.iload 5, 2) := by decide +kernel
theorem dX1_putOnScales_123 : decode cX1_putOnScales 123 = .ok (.iadd, 1) := by decide +kernel
theorem dX1_putOnScales_124 : decode cX1_putOnScales 124 = .ok (.putfield 196, 3) := by decide +kernel
theorem dX1_putOnScales_127 : decode cX1_putOnScales 127 = .ok (.aload_n 0, 1) := by decide +kernel
theorem dX1_putOnScales_128 : decode cX1_putOnScales 128 = .ok (.getfield 9, 3) := by decide +kernel
theorem dX1_putOnScales_131 : decode cX1_putOnScales 131 = .ok (.getfield 67, 3) := by decide +kernel
theorem dX1_putOnScales_134 : decode cX1_putOnScales 134 = .ok (.aload_n 3, 1) := by decide +kernel
theorem dX1_putOnScales_135 : decode cX1_putOnScales 135 = .ok (.getfield 39, 3) := by decide +kernel
theorem dX1_putOnScales_138 : decode cX1_putOnScales 138 = .ok (.aaload, 1) := by decide +kernel
theorem dX1_putOnScales_139 : decode cX1_putOnScales 139 = .ok (.dup, 1) := by decide +kernel
theorem dX1_putOnScales_140 : decode cX1_putOnScales 140 = .ok (.getfield 199, 3) := by decide +kernel
theorem dX1_putOnScales_143 : decode cX1_putOnScales 143 = .ok (.iload 4, 2) := by decide +kernel
theorem dX1_putOnScales_145 : decode cX1_putOnScales 145 = .ok (.iload 5, 2) := by decide +kernel
theorem dX1_putOnScales_147 : decode cX1_putOnScales 147 = .ok (.isub, 1) := by decide +kernel
theorem dX1_putOnScales_148 : decode cX1_putOnScales 148 = .ok (.iadd, 1) := by decide +kernel
theorem dX1_putOnScales_149 : decode cX1_putOnScales 149 = .ok (.putfield 199, 3) := by decide +kernel
theorem dX1_putOnScales_152 : decode cX1_putOnScales 152 = .ok (.aload_n 3, 1) := by decide +kernel
theorem dX1_putOnScales_153 : decode cX1_putOnScales 153 = .ok (.iload 4, 2) := by decide +kernel
theorem dX1_putOnScales_155 : decode cX1_putOnScales 155 = .ok (.invokevirtual 121, 3) := by decide +kernel
theorem dX1_putOnScales_158 : decode cX1_putOnScales 158 = .ok (.aload_n 3, 1) := by decide +kernel
theorem dX1_putOnScales_159 : decode cX1_putOnScales 159 = .ok (.iconst 1, 1) := by decide +kernel
theorem dX1_putOnScales_160 : decode cX1_putOnScales 160 = .ok (.putfield 63, 3) := by decide +kernel
theorem dX1_putOnScales_163 : decode cX1_putOnScales 163 = .ok (.aload_n 3, 1) := by decide +kernel
theorem dX1_putOnScales_164 : decode cX1_putOnScales 164 = .ok (.aload_n 0, 1) := by decide +kernel
theorem dX1_putOnScales_165 : decode cX1_putOnScales 165 = .ok (.getfield 9, 3) := by decide +kernel
theorem dX1_putOnScales_168 : decode cX1_putOnScales 168 = .ok (.getfield 54, 3) := by decide +kernel
theorem dX1_putOnScales_171 : decode cX1_putOnScales 171 = .ok (.putfield 60, 3) := by decide +kernel
theorem dX1_putOnScales_174 : decode cX1_putOnScales 174 = .ok (.aload_n 0, 1) := by decide +kernel
theorem dX1_putOnScales_175 : decode cX1_putOnScales 175 = .ok (.getfield 9, 3) := by decide +kernel
theorem dX1_putOnScales_178 : decode cX1_putOnScales 178 = .ok (.aload_n 3, 1) := by decide +kernel
theorem dX1_putOnScales_179 : decode cX1_putOnScales 179 = .ok (.invokevirtual 124, 3) := by decide +kernel
theorem dX1_putOnScales_182 : decode cX1_putOnScales 182 = .ok (.iload 6, 2) := by decide +kernel
theorem dX1_putOnScales_184 : decode cX1_putOnScales 184 = .ok (.ireturn, 1) := by decide +kernel
def w_X1_putOnScales (p0 : Int32) (p1 : Int32) (mm : Mm) (Q9 : Int32 → Mm → Prop) : Prop :=
  w_X8_findEntry 1 p0 mm (fun (r_1 : Nat) => ((¬ r_1 = 0 → ok 3 r_1 ∧ (w_X9_isWithin p1 0 (mm.1 3 r_1 2) mm (fun (r_5 : Int32) => ((¬ r_5 = 0 → vp_in (mm.1 3 r_1 4) 5 ∧ (w_X0_isSealed (5 * (1 - 1) + (mm.1 3 r_1 4).toNatClampNeg + 1) mm (fun (r_9 : Int32) => ((r_9 = 0 → w_X3_save 1 mm (fun (m_13 : Mm) => ∀ x_14 : Int32, x_14 = ((m_13.1 3 r_1 2) - p1) → (w_X8_lossIf 1 r_1 p1 m_13 (fun (r_15 : Int32) => w_X8_chargeFor 1 r_1 r_15 m_13 (fun (r_17 : Int32) => w_X6_takeCharge 1 r_17 m_13 (fun (m_20 : Mm) => vp_in (m_20.1 3 r_1 1) 6 ∧ (∀ m_22 : Mm, m_22 = sI m_20 6 (6 * (1 - 1) + (m_20.1 3 r_1 1).toNatClampNeg + 1) 6 ((m_20.1 6 (6 * (1 - 1) + (m_20.1 3 r_1 1).toNatClampNeg + 1) 6) + r_15) → (vp_in (m_22.1 3 r_1 1) 6 ∧ (∀ m_24 : Mm, m_24 = sI m_22 6 (6 * (1 - 1) + (m_22.1 3 r_1 1).toNatClampNeg + 1) 5 ((m_22.1 6 (6 * (1 - 1) + (m_22.1 3 r_1 1).toNatClampNeg + 1) 5) + (x_14 - r_15)) → (w_X2_losePart r_1 x_14 m_24 (fun (m_26 : Mm) => ∀ m_27 : Mm, m_27 = sI m_26 3 r_1 7 1 → (∀ m_28 : Mm, m_28 = sI m_27 3 r_1 6 (m_27.1 1 1 0) → (w_X8_closeIfEmpty 1 r_1 m_28 (fun (m_30 : Mm) => Q9 r_17 m_30)))))))))))))) ∧
  (¬ r_9 = 0 → Q9 (-3) mm))))) ∧
  (r_5 = 0 → Q9 (-2) mm))))) ∧
  (r_1 = 0 → Q9 (-1) mm)))
def rm_X1_putOnScales : Room := { frames := 3, cells := 0, slots := 0, locals := 69 }
theorem hy_X1_putOnScales : yX1_putOnScales.cls = RX1 ∧ yX1_putOnScales.cls ≠ "java/lang/invoke/MethodHandle" ∧ yX1_putOnScales.cls ≠ "java/lang/invoke/VarHandle" ∧ (parseMethodDescriptor yX1_putOnScales.desc).map (fun d => d.parameters.length) = some 2 := by decide +kernel
set_option maxRecDepth 100000 in
set_option maxHeartbeats 4000000 in
theorem c_X1_putOnScales {l : Launch} {D : va_G} {cA : Nat → ClassId} {ad : Nat → Nat → Nat} {A : Nat → Prop} (ax : Ax ad GC A) (p0 : Int32) (p1 : Int32) (mm : Mm) (Q9 : Int32 → Mm → Prop) (h : w_X1_putOnScales p0 p1 mm Q9) : Met l yX1_putOnScales (.code yX1_putOnScales cX1_putOnScales 7 (some .int) :: TG) rm_X1_putOnScales (PcM TT D cA ad false GC (ZC ad A) [.ref (ad 16 1), .int p0, .int p1] mm) (AnsI TT D cA ad false GC A Q9) 0 0 A := by
  have zo := ZC_ok ad A
  unfold w_X1_putOnScales at h
  refine enterI pl_X1 ⟨rfl, rfl⟩ rfl (Nat.le_of_ble_eq_true rfl) ?_
  intro p e s m args below meth c QQ X hK hZ hnm hE
  refine q_aload_n (j := 0) X dX1_putOnScales_0 rfl rfl ?_
  refine q_get (k := 0) (v := .ref (ad 1 1)) X hK rfl rfl (Nat.le_of_ble_eq_true rfl) inTX1 (gc (t := 16) (by decide) (ok1 (t := 16) (Nat.le_of_ble_eq_true rfl))) kw_2_75 rfl (rv_nn (a := ad 1) (r := 1) (ok1 (t := 1) (Nat.le_of_ble_eq_true rfl)).1) dX1_putOnScales_1 ?_
  refine q_iload_n (j := 1) X dX1_putOnScales_4 rfl rfl ?_
  refine q_callr (q_runVN X hK hZ zo (gc (t := 1) (by decide) (ok1 (t := 1) (Nat.le_of_ble_eq_true rfl))) rfl rfl [.int p0] [] rfl rfl (Nat.le_of_ble_eq_true rfl) dX1_putOnScales_5 ⟨Nat.le_of_ble_eq_true rfl, Nat.le_of_ble_eq_true rfl⟩ (c_X8_findEntry ax 1 (ok1 (t := 1) (Nat.le_of_ble_eq_true rfl)) p0 mm _ h) rfl rfl (List.mem_of_getElem? (i := 24) rfl) kw_1_2 kw_3_106 kw_3_105 ks_19 hy_X8_findEntry.2 ⟨Nat.le_of_ble_eq_true rfl, Nat.le_of_ble_eq_true rfl⟩) (fun r_1 m_2 h => ?_)
  obtain ⟨h, hm⟩ := h
  subst hm
  refine q_vstore_n (lv' := [(3, rv (ad 3) r_1), (0, .ref (ad 16 1)), (1, .int p0), (2, .int p1)]) X dX1_putOnScales_8 rfl (by decide) rfl ?_
  refine q_vload_n (j := 0) X dX1_putOnScales_9 rfl rfl ?_
  refine q_ifnonnull (tgt := 15) X dX1_putOnScales_10 (by decide) (fun c_3 => ?_) (fun c_3 => ?_)
  · have h := h.1 c_3
    refine q_iload_n (j := 3) X dX1_putOnScales_15 rfl rfl ?_
    refine q_iconst (v := 0) X dX1_putOnScales_16 (by decide) ?_
    refine q_vload_n (j := 0) X dX1_putOnScales_17 rfl rfl ?_
    obtain ⟨k_4, h⟩ := h
    rw [rv_nn (a := ad 3) (r := r_1) k_4.1]
    refine q_getN (k := 2) (v := .int (mm.1 3 r_1 2)) X hK rfl rfl (Nat.le_of_ble_eq_true rfl) inTX2 (gc (t := 3) (by decide) k_4) (List.mem_of_getElem? (i := 18) rfl) rfl rfl dX1_putOnScales_18 ?_
    refine q_calli (q_runSN X hK hZ zo [.int p1, .int 0, .int (mm.1 3 r_1 2)] [] rfl rfl (Nat.le_of_ble_eq_true rfl) dX1_putOnScales_21 ⟨Nat.le_of_ble_eq_true rfl, Nat.le_of_ble_eq_true rfl⟩ (c_X9_isWithin ax p1 0 (mm.1 3 r_1 2) mm _ h) rfl rfl (List.mem_of_getElem? (i := 25) rfl) kw_1_1 kw_2_158 kw_2_157 hy_X9_isWithin.2 ⟨Nat.le_of_ble_eq_true rfl, Nat.le_of_ble_eq_true rfl⟩) (fun r_5 m_6 h => ?_)
    obtain ⟨h, hm⟩ := h
    subst hm
    refine q_if_ne (tgt := 30) X dX1_putOnScales_24 (by decide) (fun c_7 => ?_) (fun c_7 => ?_)
    · have h := h.1 c_7
      refine q_aload_n (j := 1) X dX1_putOnScales_30 rfl rfl ?_
      refine q_get (k := 0) (v := .ref (ad 1 1)) X hK rfl rfl (Nat.le_of_ble_eq_true rfl) inTX1 (gc (t := 16) (by decide) (ok1 (t := 16) (Nat.le_of_ble_eq_true rfl))) kw_2_75 rfl (rv_nn (a := ad 1) (r := 1) (ok1 (t := 1) (Nat.le_of_ble_eq_true rfl)).1) dX1_putOnScales_31 ?_
      refine q_getN (k := 8) (v := .ref (ad 9 1)) X hK rfl rfl (Nat.le_of_ble_eq_true rfl) inTX8 (gc (t := 1) (by decide) (ok1 (t := 1) (Nat.le_of_ble_eq_true rfl))) (List.mem_of_getElem? (i := 77) rfl) rfl (rv_nn (a := ad 9) (r := 1) (ok1 (t := 9) (Nat.le_of_ble_eq_true rfl)).1) dX1_putOnScales_34 ?_
      refine q_aload_n (j := 0) X dX1_putOnScales_37 rfl rfl ?_
      refine q_getN (k := 4) (v := .int (mm.1 3 r_1 4)) X hK rfl rfl (Nat.le_of_ble_eq_true rfl) inTX2 (gc (t := 3) (by decide) k_4) (List.mem_of_getElem? (i := 24) rfl) rfl rfl dX1_putOnScales_38 ?_
      obtain ⟨b_8, h⟩ := h
      refine q_aald (t := 9) (i := 1) (jn := (mm.1 3 r_1 4).toNatClampNeg) (v := .ref (ad 5 (5 * (1 - 1) + (mm.1 3 r_1 4).toNatClampNeg + 1))) X hK rfl rfl (gc (t := 9) (by decide) (ok1 (t := 9) (Nat.le_of_ble_eq_true rfl))) rfl b_8 rfl (rv_nn (a := ad 5) (r := (5 * (1 - 1) + (mm.1 3 r_1 4).toNatClampNeg + 1)) (ok_ch (ok1 (t := 9) (Nat.le_of_ble_eq_true rfl)) b_8).1) dX1_putOnScales_41 ?_
      refine q_calli (q_runVN X hK hZ zo (gc (t := 5) (by decide) (ok_ch (ok1 (t := 9) (Nat.le_of_ble_eq_true rfl)) b_8)) rfl rfl [] [] rfl rfl (Nat.le_of_ble_eq_true rfl) dX1_putOnScales_42 ⟨Nat.le_of_ble_eq_true rfl, Nat.le_of_ble_eq_true rfl⟩ (c_X0_isSealed ax (5 * (1 - 1) + (mm.1 3 r_1 4).toNatClampNeg + 1) (ok_ch (ok1 (t := 9) (Nat.le_of_ble_eq_true rfl)) b_8) mm _ h) rfl rfl (List.mem_of_getElem? (i := 46) rfl) kw_1_6 kw_2_166 kw_2_165 ks_2 hy_X0_isSealed.2 ⟨Nat.le_of_ble_eq_true rfl, Nat.le_of_ble_eq_true rfl⟩) (fun r_9 m_10 h => ?_)
      obtain ⟨h, hm⟩ := h
      subst hm
      refine q_if_eq (tgt := 51) X dX1_putOnScales_45 (by decide) (fun c_11 => ?_) (fun c_11 => ?_)
      · have h := h.1 c_11
        refine q_aload_n (j := 1) X dX1_putOnScales_51 rfl rfl ?_
        refine q_get (k := 1) (v := .ref (ad 12 1)) X hK rfl rfl (Nat.le_of_ble_eq_true rfl) inTX1 (gc (t := 16) (by decide) (ok1 (t := 16) (Nat.le_of_ble_eq_true rfl))) kw_2_76 rfl (rv_nn (a := ad 12) (r := 1) (ok1 (t := 12) (Nat.le_of_ble_eq_true rfl)).1) dX1_putOnScales_52 ?_
        refine q_aload_n (j := 1) X dX1_putOnScales_55 rfl rfl ?_
        refine q_get (k := 0) (v := .ref (ad 1 1)) X hK rfl rfl (Nat.le_of_ble_eq_true rfl) inTX1 (gc (t := 16) (by decide) (ok1 (t := 16) (Nat.le_of_ble_eq_true rfl))) kw_2_75 rfl (rv_nn (a := ad 1) (r := 1) (ok1 (t := 1) (Nat.le_of_ble_eq_true rfl)).1) dX1_putOnScales_56 ?_
        refine q_callv (q_runVN X hK hZ zo (gc (t := 12) (by decide) (ok1 (t := 12) (Nat.le_of_ble_eq_true rfl))) rfl rfl [.ref (ad 1 1)] [] rfl rfl (Nat.le_of_ble_eq_true rfl) dX1_putOnScales_59 ⟨Nat.le_of_ble_eq_true rfl, Nat.le_of_ble_eq_true rfl⟩ (c_X3_save ax 1 (ok1 (t := 1) (Nat.le_of_ble_eq_true rfl)) mm _ h) rfl rfl (List.mem_of_getElem? (i := 15) rfl) kw_1_8 kw_2_194 kw_2_193 ks_9 hy_X3_save.2 ⟨Nat.le_of_ble_eq_true rfl, Nat.le_of_ble_eq_true rfl⟩) (fun m_13 h => ?_)
        refine q_aload_n (j := 0) X dX1_putOnScales_62 rfl rfl ?_
        refine q_getN (k := 2) (v := .int (m_13.1 3 r_1 2)) X hK rfl rfl (Nat.le_of_ble_eq_true rfl) inTX2 (gc (t := 3) (by decide) k_4) (List.mem_of_getElem? (i := 18) rfl) rfl rfl dX1_putOnScales_63 ?_
        refine q_iload_n (j := 3) X dX1_putOnScales_66 rfl rfl ?_
        refine q_isub X dX1_putOnScales_67 ?_
        refine q_topi (fun x_14 ex_14 => ?_)
        have h := h x_14 ex_14
        refine q_istore (lv' := [(4, .int x_14), (3, .ref (ad 3 r_1)), (0, .ref (ad 16 1)), (1, .int p0), (2, .int p1)]) X dX1_putOnScales_68 (by decide) rfl ?_
        refine q_aload_n (j := 2) X dX1_putOnScales_70 rfl rfl ?_
        refine q_get (k := 0) (v := .ref (ad 1 1)) X hK rfl rfl (Nat.le_of_ble_eq_true rfl) inTX1 (gc (t := 16) (by decide) (ok1 (t := 16) (Nat.le_of_ble_eq_true rfl))) kw_2_75 rfl (rv_nn (a := ad 1) (r := 1) (ok1 (t := 1) (Nat.le_of_ble_eq_true rfl)).1) dX1_putOnScales_71 ?_
        refine q_aload_n (j := 1) X dX1_putOnScales_74 rfl rfl ?_
        refine q_iload_n (j := 4) X dX1_putOnScales_75 rfl rfl ?_
        refine q_calli (q_runVN X hK hZ zo (gc (t := 1) (by decide) (ok1 (t := 1) (Nat.le_of_ble_eq_true rfl))) rfl rfl [.ref (ad 3 r_1), .int p1] [] rfl rfl (Nat.le_of_ble_eq_true rfl) dX1_putOnScales_76 ⟨Nat.le_of_ble_eq_true rfl, Nat.le_of_ble_eq_true rfl⟩ (c_X8_lossIf ax 1 (ok1 (t := 1) (Nat.le_of_ble_eq_true rfl)) r_1 k_4 p1 m_13 _ h) rfl rfl (List.mem_of_getElem? (i := 54) rfl) kw_1_2 kw_4_24 kw_4_23 ks_43 hy_X8_lossIf.2 ⟨Nat.le_of_ble_eq_true rfl, Nat.le_of_ble_eq_true rfl⟩) (fun r_15 m_16 h => ?_)
        obtain ⟨h, hm⟩ := h
        subst hm
        refine q_istore (lv' := [(5, .int r_15), (4, .int x_14), (3, .ref (ad 3 r_1)), (0, .ref (ad 16 1)), (1, .int p0), (2, .int p1)]) X dX1_putOnScales_79 (by decide) rfl ?_
        refine q_aload_n (j := 3) X dX1_putOnScales_81 rfl rfl ?_
        refine q_get (k := 0) (v := .ref (ad 1 1)) X hK rfl rfl (Nat.le_of_ble_eq_true rfl) inTX1 (gc (t := 16) (by decide) (ok1 (t := 16) (Nat.le_of_ble_eq_true rfl))) kw_2_75 rfl (rv_nn (a := ad 1) (r := 1) (ok1 (t := 1) (Nat.le_of_ble_eq_true rfl)).1) dX1_putOnScales_82 ?_
        refine q_aload_n (j := 2) X dX1_putOnScales_85 rfl rfl ?_
        refine q_iload (j := 0) X dX1_putOnScales_86 rfl ?_
        refine q_calli (q_runVN X hK hZ zo (gc (t := 1) (by decide) (ok1 (t := 1) (Nat.le_of_ble_eq_true rfl))) rfl rfl [.ref (ad 3 r_1), .int r_15] [] rfl rfl (Nat.le_of_ble_eq_true rfl) dX1_putOnScales_88 ⟨Nat.le_of_ble_eq_true rfl, Nat.le_of_ble_eq_true rfl⟩ (c_X8_chargeFor ax 1 (ok1 (t := 1) (Nat.le_of_ble_eq_true rfl)) r_1 k_4 r_15 m_13 _ h) rfl rfl (List.mem_of_getElem? (i := 55) rfl) kw_1_2 kw_4_35 kw_4_34 ks_45 hy_X8_chargeFor.2 ⟨Nat.le_of_ble_eq_true rfl, Nat.le_of_ble_eq_true rfl⟩) (fun r_17 m_18 h => ?_)
        obtain ⟨h, hm⟩ := h
        subst hm
        refine q_istore (lv' := [(6, .int r_17), (5, .int r_15), (4, .int x_14), (3, .ref (ad 3 r_1)), (0, .ref (ad 16 1)), (1, .int p0), (2, .int p1)]) X dX1_putOnScales_91 (by decide) rfl ?_
        refine q_aload_n (j := 4) X dX1_putOnScales_93 rfl rfl ?_
        refine q_get (k := 0) (v := .ref (ad 1 1)) X hK rfl rfl (Nat.le_of_ble_eq_true rfl) inTX1 (gc (t := 16) (by decide) (ok1 (t := 16) (Nat.le_of_ble_eq_true rfl))) kw_2_75 rfl (rv_nn (a := ad 1) (r := 1) (ok1 (t := 1) (Nat.le_of_ble_eq_true rfl)).1) dX1_putOnScales_94 ?_
        refine q_getN (k := 5) (v := .ref (ad 2 1)) X hK rfl rfl (Nat.le_of_ble_eq_true rfl) inTX8 (gc (t := 1) (by decide) (ok1 (t := 1) (Nat.le_of_ble_eq_true rfl))) (List.mem_of_getElem? (i := 73) rfl) rfl (rv_nn (a := ad 2) (r := 1) (ok1 (t := 2) (Nat.le_of_ble_eq_true rfl)).1) dX1_putOnScales_97 ?_
        refine q_iload (j := 0) X dX1_putOnScales_100 rfl ?_
        refine q_callv (q_runVN X hK hZ zo (gc (t := 2) (by decide) (ok1 (t := 2) (Nat.le_of_ble_eq_true rfl))) rfl rfl [.int r_17] [] rfl rfl (Nat.le_of_ble_eq_true rfl) dX1_putOnScales_102 ⟨Nat.le_of_ble_eq_true rfl, Nat.le_of_ble_eq_true rfl⟩ (c_X6_takeCharge ax 1 (ok1 (t := 2) (Nat.le_of_ble_eq_true rfl)) r_17 m_13 _ h) rfl rfl (List.mem_of_getElem? (i := 56) rfl) kw_1_3 kw_4_39 kw_4_38 ks_46 hy_X6_takeCharge.2 ⟨Nat.le_of_ble_eq_true rfl, Nat.le_of_ble_eq_true rfl⟩) (fun m_20 h => ?_)
        refine q_aload_n (j := 4) X dX1_putOnScales_105 rfl rfl ?_
        refine q_get (k := 0) (v := .ref (ad 1 1)) X hK rfl rfl (Nat.le_of_ble_eq_true rfl) inTX1 (gc (t := 16) (by decide) (ok1 (t := 16) (Nat.le_of_ble_eq_true rfl))) kw_2_75 rfl (rv_nn (a := ad 1) (r := 1) (ok1 (t := 1) (Nat.le_of_ble_eq_true rfl)).1) dX1_putOnScales_106 ?_
        refine q_getN (k := 9) (v := .ref (ad 10 1)) X hK rfl rfl (Nat.le_of_ble_eq_true rfl) inTX8 (gc (t := 1) (by decide) (ok1 (t := 1) (Nat.le_of_ble_eq_true rfl))) (List.mem_of_getElem? (i := 79) rfl) rfl (rv_nn (a := ad 10) (r := 1) (ok1 (t := 10) (Nat.le_of_ble_eq_true rfl)).1) dX1_putOnScales_109 ?_
        refine q_aload_n (j := 3) X dX1_putOnScales_112 rfl rfl ?_
        refine q_getN (k := 1) (v := .int (m_20.1 3 r_1 1)) X hK rfl rfl (Nat.le_of_ble_eq_true rfl) inTX2 (gc (t := 3) (by decide) k_4) (List.mem_of_getElem? (i := 15) rfl) rfl rfl dX1_putOnScales_113 ?_
        obtain ⟨b_21, h⟩ := h
        refine q_aald (t := 10) (i := 1) (jn := (m_20.1 3 r_1 1).toNatClampNeg) (v := .ref (ad 6 (6 * (1 - 1) + (m_20.1 3 r_1 1).toNatClampNeg + 1))) X hK rfl rfl (gc (t := 10) (by decide) (ok1 (t := 10) (Nat.le_of_ble_eq_true rfl))) rfl b_21 rfl (rv_nn (a := ad 6) (r := (6 * (1 - 1) + (m_20.1 3 r_1 1).toNatClampNeg + 1)) (ok_ki (ok1 (t := 10) (Nat.le_of_ble_eq_true rfl)) b_21).1) dX1_putOnScales_116 ?_
        refine q_dup X dX1_putOnScales_117 rfl ?_
        refine q_getN (k := 6) (v := .int (m_20.1 6 (6 * (1 - 1) + (m_20.1 3 r_1 1).toNatClampNeg + 1) 6)) X hK rfl rfl (Nat.le_of_ble_eq_true rfl) inTX5 (gc (t := 6) (by decide) (ok_ki (ok1 (t := 10) (Nat.le_of_ble_eq_true rfl)) b_21)) (List.mem_of_getElem? (i := 62) rfl) rfl rfl dX1_putOnScales_118 ?_
        refine q_iload (j := 1) X dX1_putOnScales_121 rfl ?_
        refine q_iadd X dX1_putOnScales_123 ?_
        refine q_putIN (k := 6) X ax hK rfl rfl (Nat.le_of_ble_eq_true rfl) inTX5 (gc (t := 6) (by decide) (ok_ki (ok1 (t := 10) (Nat.le_of_ble_eq_true rfl)) b_21)) tyX5 tyX5_ok nmX5 (List.mem_of_getElem? (i := 62) rfl) rfl rfl (tyX5_ok 6 (Nat.le_of_ble_eq_true rfl)) rfl dX1_putOnScales_124 ?_
        refine q_nmP (fun m_22 em_22 => ?_)
        have h := h m_22 em_22
        refine q_aload_n (j := 4) X dX1_putOnScales_127 rfl rfl ?_
        refine q_get (k := 0) (v := .ref (ad 1 1)) X hK rfl rfl (Nat.le_of_ble_eq_true rfl) inTX1 (gc (t := 16) (by decide) (ok1 (t := 16) (Nat.le_of_ble_eq_true rfl))) kw_2_75 rfl (rv_nn (a := ad 1) (r := 1) (ok1 (t := 1) (Nat.le_of_ble_eq_true rfl)).1) dX1_putOnScales_128 ?_
        refine q_getN (k := 9) (v := .ref (ad 10 1)) X hK rfl rfl (Nat.le_of_ble_eq_true rfl) inTX8 (gc (t := 1) (by decide) (ok1 (t := 1) (Nat.le_of_ble_eq_true rfl))) (List.mem_of_getElem? (i := 79) rfl) rfl (rv_nn (a := ad 10) (r := 1) (ok1 (t := 10) (Nat.le_of_ble_eq_true rfl)).1) dX1_putOnScales_131 ?_
        refine q_aload_n (j := 3) X dX1_putOnScales_134 rfl rfl ?_
        refine q_getN (k := 1) (v := .int (m_22.1 3 r_1 1)) X hK rfl rfl (Nat.le_of_ble_eq_true rfl) inTX2 (gc (t := 3) (by decide) k_4) (List.mem_of_getElem? (i := 15) rfl) rfl rfl dX1_putOnScales_135 ?_
        obtain ⟨b_23, h⟩ := h
        refine q_aald (t := 10) (i := 1) (jn := (m_22.1 3 r_1 1).toNatClampNeg) (v := .ref (ad 6 (6 * (1 - 1) + (m_22.1 3 r_1 1).toNatClampNeg + 1))) X hK rfl rfl (gc (t := 10) (by decide) (ok1 (t := 10) (Nat.le_of_ble_eq_true rfl))) rfl b_23 rfl (rv_nn (a := ad 6) (r := (6 * (1 - 1) + (m_22.1 3 r_1 1).toNatClampNeg + 1)) (ok_ki (ok1 (t := 10) (Nat.le_of_ble_eq_true rfl)) b_23).1) dX1_putOnScales_138 ?_
        refine q_dup X dX1_putOnScales_139 rfl ?_
        refine q_getN (k := 5) (v := .int (m_22.1 6 (6 * (1 - 1) + (m_22.1 3 r_1 1).toNatClampNeg + 1) 5)) X hK rfl rfl (Nat.le_of_ble_eq_true rfl) inTX5 (gc (t := 6) (by decide) (ok_ki (ok1 (t := 10) (Nat.le_of_ble_eq_true rfl)) b_23)) (List.mem_of_getElem? (i := 60) rfl) rfl rfl dX1_putOnScales_140 ?_
        refine q_iload (j := 2) X dX1_putOnScales_143 rfl ?_
        refine q_iload (j := 1) X dX1_putOnScales_145 rfl ?_
        refine q_isub X dX1_putOnScales_147 ?_
        refine q_iadd X dX1_putOnScales_148 ?_
        refine q_putIN (k := 5) X ax hK rfl rfl (Nat.le_of_ble_eq_true rfl) inTX5 (gc (t := 6) (by decide) (ok_ki (ok1 (t := 10) (Nat.le_of_ble_eq_true rfl)) b_23)) tyX5 tyX5_ok nmX5 (List.mem_of_getElem? (i := 60) rfl) rfl rfl (tyX5_ok 5 (Nat.le_of_ble_eq_true rfl)) rfl dX1_putOnScales_149 ?_
        refine q_nmP (fun m_24 em_24 => ?_)
        have h := h m_24 em_24
        refine q_aload_n (j := 3) X dX1_putOnScales_152 rfl rfl ?_
        refine q_iload (j := 2) X dX1_putOnScales_153 rfl ?_
        refine q_callv (q_runVN X hK hZ zo (gc (t := 3) (by decide) k_4) rfl rfl [.int x_14] [] rfl rfl (Nat.le_of_ble_eq_true rfl) dX1_putOnScales_155 ⟨Nat.le_of_ble_eq_true rfl, Nat.le_of_ble_eq_true rfl⟩ (c_X2_losePart ax r_1 k_4 x_14 m_24 _ h) rfl rfl (List.mem_of_getElem? (i := 31) rfl) kw_1_4 kw_3_139 kw_3_138 ks_26 hy_X2_losePart.2 ⟨Nat.le_of_ble_eq_true rfl, Nat.le_of_ble_eq_true rfl⟩) (fun m_26 h => ?_)
        refine q_aload_n (j := 3) X dX1_putOnScales_158 rfl rfl ?_
        refine q_iconst (v := 1) X dX1_putOnScales_159 (by decide) ?_
        refine q_putBN (k := 7) X ax hK rfl rfl (Nat.le_of_ble_eq_true rfl) inTX2 (gc (t := 3) (by decide) k_4) tyX2 tyX2_ok nmX2 (List.mem_of_getElem? (i := 31) rfl) rfl rfl (tyX2_ok 7 (Nat.le_of_ble_eq_true rfl)) (Or.inr rfl) rfl dX1_putOnScales_160 ?_
        refine q_nmP (fun m_27 em_27 => ?_)
        have h := h m_27 em_27
        refine q_aload_n (j := 3) X dX1_putOnScales_163 rfl rfl ?_
        refine q_aload_n (j := 4) X dX1_putOnScales_164 rfl rfl ?_
        refine q_get (k := 0) (v := .ref (ad 1 1)) X hK rfl rfl (Nat.le_of_ble_eq_true rfl) inTX1 (gc (t := 16) (by decide) (ok1 (t := 16) (Nat.le_of_ble_eq_true rfl))) kw_2_75 rfl (rv_nn (a := ad 1) (r := 1) (ok1 (t := 1) (Nat.le_of_ble_eq_true rfl)).1) dX1_putOnScales_165 ?_
        refine q_getN (k := 0) (v := .int (m_27.1 1 1 0)) X hK rfl rfl (Nat.le_of_ble_eq_true rfl) inTX8 (gc (t := 1) (by decide) (ok1 (t := 1) (Nat.le_of_ble_eq_true rfl))) (List.mem_of_getElem? (i := 66) rfl) rfl rfl dX1_putOnScales_168 ?_
        refine q_putIN (k := 6) X ax hK rfl rfl (Nat.le_of_ble_eq_true rfl) inTX2 (gc (t := 3) (by decide) k_4) tyX2 tyX2_ok nmX2 (List.mem_of_getElem? (i := 29) rfl) rfl rfl (tyX2_ok 6 (Nat.le_of_ble_eq_true rfl)) rfl dX1_putOnScales_171 ?_
        refine q_nmP (fun m_28 em_28 => ?_)
        have h := h m_28 em_28
        refine q_aload_n (j := 4) X dX1_putOnScales_174 rfl rfl ?_
        refine q_get (k := 0) (v := .ref (ad 1 1)) X hK rfl rfl (Nat.le_of_ble_eq_true rfl) inTX1 (gc (t := 16) (by decide) (ok1 (t := 16) (Nat.le_of_ble_eq_true rfl))) kw_2_75 rfl (rv_nn (a := ad 1) (r := 1) (ok1 (t := 1) (Nat.le_of_ble_eq_true rfl)).1) dX1_putOnScales_175 ?_
        refine q_aload_n (j := 3) X dX1_putOnScales_178 rfl rfl ?_
        refine q_callv (q_runVN X hK hZ zo (gc (t := 1) (by decide) (ok1 (t := 1) (Nat.le_of_ble_eq_true rfl))) rfl rfl [.ref (ad 3 r_1)] [] rfl rfl (Nat.le_of_ble_eq_true rfl) dX1_putOnScales_179 ⟨Nat.le_of_ble_eq_true rfl, Nat.le_of_ble_eq_true rfl⟩ (c_X8_closeIfEmpty ax 1 (ok1 (t := 1) (Nat.le_of_ble_eq_true rfl)) r_1 k_4 m_28 _ h) rfl rfl (List.mem_of_getElem? (i := 32) rfl) kw_1_2 kw_3_144 kw_3_143 ks_27 hy_X8_closeIfEmpty.2 ⟨Nat.le_of_ble_eq_true rfl, Nat.le_of_ble_eq_true rfl⟩) (fun m_30 h => ?_)
        refine q_iload (j := 0) X dX1_putOnScales_182 rfl ?_
        exact hE _ _ _ _ dX1_putOnScales_184 h
      · have h := h.2 c_11
        refine q_bipush (v := (-3)) X dX1_putOnScales_48 (by decide) ?_
        exact hE _ _ _ _ dX1_putOnScales_50 h
    · have h := h.2 c_7
      refine q_bipush (v := (-2)) X dX1_putOnScales_27 (by decide) ?_
      exact hE _ _ _ _ dX1_putOnScales_29 h
  · have h := h.2 c_3
    refine q_iconst (v := (-1)) X dX1_putOnScales_13 (by decide) ?_
    exact hE _ _ _ _ dX1_putOnScales_14 h
theorem dX1_putSeal_0 : decode cX1_putSeal 0 = .ok (.iload_n 1, 1) := by decide +kernel
theorem dX1_putSeal_1 : decode cX1_putSeal 1 = .ok (.iconst 0, 1) := by decide +kernel
theorem dX1_putSeal_2 : decode cX1_putSeal 2 = .ok (.iconst 4, 1) := by decide +kernel
theorem dX1_putSeal_3 : decode cX1_putSeal 3 = .ok (.invokestatic 83, 3) := by decide +kernel
theorem dX1_putSeal_6 : decode cX1_putSeal 6 = .ok (.ifCond .ne 5, 3) := by decide +kernel
theorem dX1_putSeal_9 : decode cX1_putSeal 9 = .ok (.iconst (-1), 1) := by decide +kernel
theorem dX1_putSeal_10 : decode cX1_putSeal 10 = .ok (.ireturn, 1) := by decide +kernel
theorem dX1_putSeal_11 : decode cX1_putSeal 11 = .ok (.aload_n 0, 1) := by decide +kernel
theorem dX1_putSeal_12 : decode cX1_putSeal 12 = .ok (.getfield 9, 3) := by decide +kernel
theorem dX1_putSeal_15 : decode cX1_putSeal 15 = .ok (.getfield 161, 3) := by decide +kernel
theorem dX1_putSeal_18 : decode cX1_putSeal 18 = .ok (.iload_n 1, 1) := by decide +kernel
theorem dX1_putSeal_19 : decode cX1_putSeal 19 = .ok (.aaload, 1) := by decide +kernel
theorem dX1_putSeal_20 : decode cX1_putSeal 20 = .ok (.astore_n 2, 1) := by decide +kernel
theorem dX1_putSeal_21 : decode cX1_putSeal 21 = .ok (.aload_n 2, 1) := by decide +kernel
theorem dX1_putSeal_22 : decode cX1_putSeal 22 = .ok (.invokevirtual 165, 3) := by decide +kernel
theorem dX1_putSeal_25 : decode cX1_putSeal 25 = .ok (.ifCond .eq 6, 3) := by decide +kernel
theorem dX1_putSeal_28 : decode cX1_putSeal 28 = .ok (.bipush (-3), 2) := by decide +kernel
theorem dX1_putSeal_30 : decode cX1_putSeal 30 = .ok (.ireturn, 1) := by decide +kernel
theorem dX1_putSeal_31 : decode cX1_putSeal 31 = .ok (.aload_n 0, 1) := by decide +kernel
theorem dX1_putSeal_32 : decode cX1_putSeal 32 = .ok (.getfield 15, 3) := by decide +kernel
theorem dX1_putSeal_35 : decode cX1_putSeal 35 = .ok (.aload_n 0, 1) := by decide +kernel
theorem dX1_putSeal_36 : decode cX1_putSeal 36 = .ok (.getfield 9, 3) := by decide +kernel
theorem dX1_putSeal_39 : decode cX1_putSeal 39 = .ok (.invokevirtual 29, 3) := by decide +kernel
theorem dX1_putSeal_42 : decode cX1_putSeal 42 = .ok (.aload_n 0, 1) := by decide +kernel
theorem dX1_putSeal_43 : decode cX1_putSeal 43 = .ok (.getfield 9, 3) := by decide +kernel
theorem dX1_putSeal_46 : decode cX1_putSeal 46 = .ok (.aload_n 0, 1) := by decide +kernel
theorem dX1_putSeal_47 : decode cX1_putSeal 47 = .ok (.getfield 9, 3) := by decide +kernel
theorem dX1_putSeal_50 : decode cX1_putSeal 50 = .ok (.getfield 202, 3) := by decide +kernel
theorem dX1_putSeal_53 : decode cX1_putSeal 53 = .ok (.iconst 1, 1) := by decide +kernel
theorem dX1_putSeal_54 : decode cX1_putSeal 54 = .ok (.iadd, 1) := by decide +kernel
theorem dX1_putSeal_55 : decode cX1_putSeal 55 = .ok (.putfield 202, 3) := by decide +kernel
theorem dX1_putSeal_58 : decode cX1_putSeal 58 = .ok (.aload_n 2, 1) := by decide +kernel
theorem dX1_putSeal_59 : decode cX1_putSeal 59 = .ok (.aload_n 0, 1) := by decide +kernel
theorem dX1_putSeal_60 : decode cX1_putSeal 60 = .ok (.getfield 9, 3) := by decide +kernel
theorem dX1_putSeal_63 : decode cX1_putSeal 63 = .ok (.getfield 202, 3) := by decide +kernel
theorem dX1_putSeal_66 : decode cX1_putSeal 66 = .ok (.putfield 205, 3) := by decide +kernel
theorem dX1_putSeal_69 : decode cX1_putSeal 69 = .ok (.aload_n 2, 1) := by decide +kernel
theorem dX1_putSeal_70 : decode cX1_putSeal 70 = .ok (.getfield 205, 3) := by decide +kernel
theorem dX1_putSeal_73 : decode cX1_putSeal 73 = .ok (.ireturn, 1) := by decide +kernel
def w_X1_putSeal (p0 : Int32) (mm : Mm) (Q9 : Int32 → Mm → Prop) : Prop :=
  w_X9_isWithin p0 0 4 mm (fun (r_1 : Int32) => ((¬ r_1 = 0 → vp_in p0 5 ∧ (w_X0_isSealed (5 * (1 - 1) + p0.toNatClampNeg + 1) mm (fun (r_5 : Int32) => ((r_5 = 0 → w_X3_save 1 mm (fun (m_9 : Mm) => ∀ m_10 : Mm, m_10 = sI m_9 1 1 3 ((m_9.1 1 1 3) + 1) → (∀ m_11 : Mm, m_11 = sI m_10 5 (5 * (1 - 1) + p0.toNatClampNeg + 1) 0 (m_10.1 1 1 3) → (Q9 (m_11.1 5 (5 * (1 - 1) + p0.toNatClampNeg + 1) 0) m_11)))) ∧
  (¬ r_5 = 0 → Q9 (-3) mm))))) ∧
  (r_1 = 0 → Q9 (-1) mm)))
def rm_X1_putSeal : Room := { frames := 3, cells := 0, slots := 0, locals := 64 }
theorem hy_X1_putSeal : yX1_putSeal.cls = RX1 ∧ yX1_putSeal.cls ≠ "java/lang/invoke/MethodHandle" ∧ yX1_putSeal.cls ≠ "java/lang/invoke/VarHandle" ∧ (parseMethodDescriptor yX1_putSeal.desc).map (fun d => d.parameters.length) = some 1 := by decide +kernel
set_option maxRecDepth 100000 in
set_option maxHeartbeats 4000000 in
theorem c_X1_putSeal {l : Launch} {D : va_G} {cA : Nat → ClassId} {ad : Nat → Nat → Nat} {A : Nat → Prop} (ax : Ax ad GC A) (p0 : Int32) (mm : Mm) (Q9 : Int32 → Mm → Prop) (h : w_X1_putSeal p0 mm Q9) : Met l yX1_putSeal (.code yX1_putSeal cX1_putSeal 3 (some .int) :: TG) rm_X1_putSeal (PcM TT D cA ad false GC (ZC ad A) [.ref (ad 16 1), .int p0] mm) (AnsI TT D cA ad false GC A Q9) 0 0 A := by
  have zo := ZC_ok ad A
  unfold w_X1_putSeal at h
  refine enterI pl_X1 ⟨rfl, rfl⟩ rfl (Nat.le_of_ble_eq_true rfl) ?_
  intro p e s m args below meth c QQ X hK hZ hnm hE
  refine q_iload_n (j := 1) X dX1_putSeal_0 rfl rfl ?_
  refine q_iconst (v := 0) X dX1_putSeal_1 (by decide) ?_
  refine q_iconst (v := 4) X dX1_putSeal_2 (by decide) ?_
  refine q_calli (q_runSN X hK hZ zo [.int p0, .int 0, .int 4] [] rfl rfl (Nat.le_of_ble_eq_true rfl) dX1_putSeal_3 ⟨Nat.le_of_ble_eq_true rfl, Nat.le_of_ble_eq_true rfl⟩ (c_X9_isWithin ax p0 0 4 mm _ h) rfl rfl (List.mem_of_getElem? (i := 25) rfl) kw_1_1 kw_2_158 kw_2_157 hy_X9_isWithin.2 ⟨Nat.le_of_ble_eq_true rfl, Nat.le_of_ble_eq_true rfl⟩) (fun r_1 m_2 h => ?_)
  obtain ⟨h, hm⟩ := h
  subst hm
  refine q_if_ne (tgt := 11) X dX1_putSeal_6 (by decide) (fun c_3 => ?_) (fun c_3 => ?_)
  · have h := h.1 c_3
    refine q_aload_n (j := 0) X dX1_putSeal_11 rfl rfl ?_
    refine q_get (k := 0) (v := .ref (ad 1 1)) X hK rfl rfl (Nat.le_of_ble_eq_true rfl) inTX1 (gc (t := 16) (by decide) (ok1 (t := 16) (Nat.le_of_ble_eq_true rfl))) kw_2_75 rfl (rv_nn (a := ad 1) (r := 1) (ok1 (t := 1) (Nat.le_of_ble_eq_true rfl)).1) dX1_putSeal_12 ?_
    refine q_getN (k := 8) (v := .ref (ad 9 1)) X hK rfl rfl (Nat.le_of_ble_eq_true rfl) inTX8 (gc (t := 1) (by decide) (ok1 (t := 1) (Nat.le_of_ble_eq_true rfl))) (List.mem_of_getElem? (i := 77) rfl) rfl (rv_nn (a := ad 9) (r := 1) (ok1 (t := 9) (Nat.le_of_ble_eq_true rfl)).1) dX1_putSeal_15 ?_
    refine q_iload_n (j := 1) X dX1_putSeal_18 rfl rfl ?_
    obtain ⟨b_4, h⟩ := h
    refine q_aald (t := 9) (i := 1) (jn := p0.toNatClampNeg) (v := .ref (ad 5 (5 * (1 - 1) + p0.toNatClampNeg + 1))) X hK rfl rfl (gc (t := 9) (by decide) (ok1 (t := 9) (Nat.le_of_ble_eq_true rfl))) rfl b_4 rfl (rv_nn (a := ad 5) (r := (5 * (1 - 1) + p0.toNatClampNeg + 1)) (ok_ch (ok1 (t := 9) (Nat.le_of_ble_eq_true rfl)) b_4).1) dX1_putSeal_19 ?_
    refine q_astore_n (lv' := [(2, .ref (ad 5 (5 * (1 - 1) + p0.toNatClampNeg + 1))), (0, .ref (ad 16 1)), (1, .int p0)]) X dX1_putSeal_20 rfl (by decide) rfl ?_
    refine q_aload_n (j := 0) X dX1_putSeal_21 rfl rfl ?_
    refine q_calli (q_runVN X hK hZ zo (gc (t := 5) (by decide) (ok_ch (ok1 (t := 9) (Nat.le_of_ble_eq_true rfl)) b_4)) rfl rfl [] [] rfl rfl (Nat.le_of_ble_eq_true rfl) dX1_putSeal_22 ⟨Nat.le_of_ble_eq_true rfl, Nat.le_of_ble_eq_true rfl⟩ (c_X0_isSealed ax (5 * (1 - 1) + p0.toNatClampNeg + 1) (ok_ch (ok1 (t := 9) (Nat.le_of_ble_eq_true rfl)) b_4) mm _ h) rfl rfl (List.mem_of_getElem? (i := 46) rfl) kw_1_6 kw_2_166 kw_2_165 ks_2 hy_X0_isSealed.2 ⟨Nat.le_of_ble_eq_true rfl, Nat.le_of_ble_eq_true rfl⟩) (fun r_5 m_6 h => ?_)
    obtain ⟨h, hm⟩ := h
    subst hm
    refine q_if_eq (tgt := 31) X dX1_putSeal_25 (by decide) (fun c_7 => ?_) (fun c_7 => ?_)
    · have h := h.1 c_7
      refine q_aload_n (j := 1) X dX1_putSeal_31 rfl rfl ?_
      refine q_get (k := 1) (v := .ref (ad 12 1)) X hK rfl rfl (Nat.le_of_ble_eq_true rfl) inTX1 (gc (t := 16) (by decide) (ok1 (t := 16) (Nat.le_of_ble_eq_true rfl))) kw_2_76 rfl (rv_nn (a := ad 12) (r := 1) (ok1 (t := 12) (Nat.le_of_ble_eq_true rfl)).1) dX1_putSeal_32 ?_
      refine q_aload_n (j := 1) X dX1_putSeal_35 rfl rfl ?_
      refine q_get (k := 0) (v := .ref (ad 1 1)) X hK rfl rfl (Nat.le_of_ble_eq_true rfl) inTX1 (gc (t := 16) (by decide) (ok1 (t := 16) (Nat.le_of_ble_eq_true rfl))) kw_2_75 rfl (rv_nn (a := ad 1) (r := 1) (ok1 (t := 1) (Nat.le_of_ble_eq_true rfl)).1) dX1_putSeal_36 ?_
      refine q_callv (q_runVN X hK hZ zo (gc (t := 12) (by decide) (ok1 (t := 12) (Nat.le_of_ble_eq_true rfl))) rfl rfl [.ref (ad 1 1)] [] rfl rfl (Nat.le_of_ble_eq_true rfl) dX1_putSeal_39 ⟨Nat.le_of_ble_eq_true rfl, Nat.le_of_ble_eq_true rfl⟩ (c_X3_save ax 1 (ok1 (t := 1) (Nat.le_of_ble_eq_true rfl)) mm _ h) rfl rfl (List.mem_of_getElem? (i := 15) rfl) kw_1_8 kw_2_194 kw_2_193 ks_9 hy_X3_save.2 ⟨Nat.le_of_ble_eq_true rfl, Nat.le_of_ble_eq_true rfl⟩) (fun m_9 h => ?_)
      refine q_aload_n (j := 1) X dX1_putSeal_42 rfl rfl ?_
      refine q_get (k := 0) (v := .ref (ad 1 1)) X hK rfl rfl (Nat.le_of_ble_eq_true rfl) inTX1 (gc (t := 16) (by decide) (ok1 (t := 16) (Nat.le_of_ble_eq_true rfl))) kw_2_75 rfl (rv_nn (a := ad 1) (r := 1) (ok1 (t := 1) (Nat.le_of_ble_eq_true rfl)).1) dX1_putSeal_43 ?_
      refine q_aload_n (j := 1) X dX1_putSeal_46 rfl rfl ?_
      refine q_get (k := 0) (v := .ref (ad 1 1)) X hK rfl rfl (Nat.le_of_ble_eq_true rfl) inTX1 (gc (t := 16) (by decide) (ok1 (t := 16) (Nat.le_of_ble_eq_true rfl))) kw_2_75 rfl (rv_nn (a := ad 1) (r := 1) (ok1 (t := 1) (Nat.le_of_ble_eq_true rfl)).1) dX1_putSeal_47 ?_
      refine q_getN (k := 3) (v := .int (m_9.1 1 1 3)) X hK rfl rfl (Nat.le_of_ble_eq_true rfl) inTX8 (gc (t := 1) (by decide) (ok1 (t := 1) (Nat.le_of_ble_eq_true rfl))) (List.mem_of_getElem? (i := 71) rfl) rfl rfl dX1_putSeal_50 ?_
      refine q_iconst (v := 1) X dX1_putSeal_53 (by decide) ?_
      refine q_iadd X dX1_putSeal_54 ?_
      refine q_putIN (k := 3) X ax hK rfl rfl (Nat.le_of_ble_eq_true rfl) inTX8 (gc (t := 1) (by decide) (ok1 (t := 1) (Nat.le_of_ble_eq_true rfl))) tyX8 tyX8_ok nmX8 (List.mem_of_getElem? (i := 71) rfl) rfl rfl (tyX8_ok 3 (Nat.le_of_ble_eq_true rfl)) rfl dX1_putSeal_55 ?_
      refine q_nmP (fun m_10 em_10 => ?_)
      have h := h m_10 em_10
      refine q_aload_n (j := 0) X dX1_putSeal_58 rfl rfl ?_
      refine q_aload_n (j := 1) X dX1_putSeal_59 rfl rfl ?_
      refine q_get (k := 0) (v := .ref (ad 1 1)) X hK rfl rfl (Nat.le_of_ble_eq_true rfl) inTX1 (gc (t := 16) (by decide) (ok1 (t := 16) (Nat.le_of_ble_eq_true rfl))) kw_2_75 rfl (rv_nn (a := ad 1) (r := 1) (ok1 (t := 1) (Nat.le_of_ble_eq_true rfl)).1) dX1_putSeal_60 ?_
      refine q_getN (k := 3) (v := .int (m_10.1 1 1 3)) X hK rfl rfl (Nat.le_of_ble_eq_true rfl) inTX8 (gc (t := 1) (by decide) (ok1 (t := 1) (Nat.le_of_ble_eq_true rfl))) (List.mem_of_getElem? (i := 71) rfl) rfl rfl dX1_putSeal_63 ?_
      refine q_putIN (k := 0) X ax hK rfl rfl (Nat.le_of_ble_eq_true rfl) inTX0 (gc (t := 5) (by decide) (ok_ch (ok1 (t := 9) (Nat.le_of_ble_eq_true rfl)) b_4)) tyX0 tyX0_ok nmX0 (List.mem_of_getElem? (i := 44) rfl) rfl rfl (tyX0_ok 0 (Nat.le_of_ble_eq_true rfl)) rfl dX1_putSeal_66 ?_
      refine q_nmP (fun m_11 em_11 => ?_)
      have h := h m_11 em_11
      refine q_aload_n (j := 0) X dX1_putSeal_69 rfl rfl ?_
      refine q_getN (k := 0) (v := .int (m_11.1 5 (5 * (1 - 1) + p0.toNatClampNeg + 1) 0)) X hK rfl rfl (Nat.le_of_ble_eq_true rfl) inTX0 (gc (t := 5) (by decide) (ok_ch (ok1 (t := 9) (Nat.le_of_ble_eq_true rfl)) b_4)) (List.mem_of_getElem? (i := 44) rfl) rfl rfl dX1_putSeal_70 ?_
      exact hE _ _ _ _ dX1_putSeal_73 h
    · have h := h.2 c_7
      refine q_bipush (v := (-3)) X dX1_putSeal_28 (by decide) ?_
      exact hE _ _ _ _ dX1_putSeal_30 h
  · have h := h.2 c_3
    refine q_iconst (v := (-1)) X dX1_putSeal_9 (by decide) ?_
    exact hE _ _ _ _ dX1_putSeal_10 h
theorem dX1_takeSealOff_0 : decode cX1_takeSealOff 0 = .ok (.iload_n 1, 1) := by decide +kernel
theorem dX1_takeSealOff_1 : decode cX1_takeSealOff 1 = .ok (.iconst 0, 1) := by decide +kernel
theorem dX1_takeSealOff_2 : decode cX1_takeSealOff 2 = .ok (.iconst 4, 1) := by decide +kernel
theorem dX1_takeSealOff_3 : decode cX1_takeSealOff 3 = .ok (.invokestatic 83, 3) := by decide +kernel
theorem dX1_takeSealOff_6 : decode cX1_takeSealOff 6 = .ok (.ifCond .ne 5, 3) := by decide +kernel
theorem dX1_takeSealOff_9 : decode cX1_takeSealOff 9 = .ok (.iconst (-1), 1) := by decide +kernel
theorem dX1_takeSealOff_10 : decode cX1_takeSealOff 10 = .ok (.ireturn, 1) := by decide +kernel
theorem dX1_takeSealOff_11 : decode cX1_takeSealOff 11 = .ok (.aload_n 0, 1) := by decide +kernel
theorem dX1_takeSealOff_12 : decode cX1_takeSealOff 12 = .ok (.getfield 9, 3) := by decide +kernel
theorem dX1_takeSealOff_15 : decode cX1_takeSealOff 15 = .ok (.getfield 161, 3) := by decide +kernel
theorem dX1_takeSealOff_18 : decode cX1_takeSealOff 18 = .ok (.iload_n 1, 1) := by decide +kernel
theorem dX1_takeSealOff_19 : decode cX1_takeSealOff 19 = .ok (.aaload, 1) := by decide +kernel
theorem dX1_takeSealOff_20 : decode cX1_takeSealOff 20 = .ok (.astore_n 2, 1) := by decide +kernel
theorem dX1_takeSealOff_21 : decode cX1_takeSealOff 21 = .ok (.aload_n 2, 1) := by decide +kernel
theorem dX1_takeSealOff_22 : decode cX1_takeSealOff 22 = .ok (.invokevirtual 165, 3) := by decide +kernel
theorem dX1_takeSealOff_25 : decode cX1_takeSealOff 25 = .ok (.ifCond .ne 6, 3) := by decide +kernel
theorem dX1_takeSealOff_28 : decode cX1_takeSealOff 28 = .ok (.bipush (-3), 2) := by decide +kernel
theorem dX1_takeSealOff_30 : decode cX1_takeSealOff 30 = .ok (.ireturn, 1) := by decide +kernel
theorem dX1_takeSealOff_31 : decode cX1_takeSealOff 31 = .ok (.aload_n 0, 1) := by decide +kernel
theorem dX1_takeSealOff_32 : decode cX1_takeSealOff 32 = .ok (.getfield 15, 3) := by decide +kernel
theorem dX1_takeSealOff_35 : decode cX1_takeSealOff 35 = .ok (.aload_n 0, 1) := by decide +kernel
theorem dX1_takeSealOff_36 : decode cX1_takeSealOff 36 = .ok (.getfield 9, 3) := by decide +kernel
theorem dX1_takeSealOff_39 : decode cX1_takeSealOff 39 = .ok (.invokevirtual 29, 3) := by decide +kernel
theorem dX1_takeSealOff_42 : decode cX1_takeSealOff 42 = .ok (.iconst 0, 1) := by decide +kernel
theorem dX1_takeSealOff_43 : decode cX1_takeSealOff 43 = .ok (.istore_n 3, 1) := by decide +kernel
theorem dX1_takeSealOff_44 : decode cX1_takeSealOff 44 = .ok (.iconst 0, 1) := by decide +kernel
theorem dX1_takeSealOff_45 : decode cX1_takeSealOff 45 = .ok (.istore 4, 2) := by decide +kernel
theorem dX1_takeSealOff_47 : decode cX1_takeSealOff 47 = .ok (.iload 4, 2) := by decide +kernel
theorem dX1_takeSealOff_49 : decode cX1_takeSealOff 49 = .ok (.aload_n 0, 1) := by decide +kernel
theorem dX1_takeSealOff_50 : decode cX1_takeSealOff 50 = .ok (.getfield 9, 3) := by decide +kernel
theorem dX1_takeSealOff_53 : decode cX1_takeSealOff 53 = .ok (.getfield 208, 3) := by decide +kernel
theorem dX1_takeSealOff_56 : decode cX1_takeSealOff 56 = .ok (.if_icmp .ge 71, 3) := by decide +kernel
theorem dX1_takeSealOff_59 : decode cX1_takeSealOff 59 = .ok (.aload_n 0, 1) := by decide +kernel
theorem dX1_takeSealOff_60 : decode cX1_takeSealOff 60 = .ok (.getfield 9, 3) := by decide +kernel
theorem dX1_takeSealOff_63 : decode cX1_takeSealOff 63 = .ok (.getfield 211, 3) := by decide +kernel
theorem dX1_takeSealOff_66 : decode cX1_takeSealOff 66 = .ok (.iload 4, 2) := by decide +kernel
theorem dX1_takeSealOff_68 : decode cX1_takeSealOff 68 = .ok (.aaload, 1) := by decide +kernel
theorem dX1_takeSealOff_69 : decode cX1_takeSealOff 69 = .ok (.astore 5, 2) := by decide +kernel
theorem dX1_takeSealOff_71 : decode cX1_takeSealOff 71 = .ok (.aload 5, 2) := by decide +kernel
theorem dX1_takeSealOff_73 : decode cX1_takeSealOff 73 = .ok (.getfield 51, 3) := by decide +kernel
theorem dX1_takeSealOff_76 : decode cX1_takeSealOff 76 = .ok (.iload_n 1, 1) := by decide +kernel
theorem dX1_takeSealOff_77 : decode cX1_takeSealOff 77 = .ok (.if_icmp .ne 44, 3) := by decide +kernel
theorem dX1_takeSealOff_80 : decode cX1_takeSealOff 80 = .ok (.aload 5, 2) := by decide +kernel
theorem dX1_takeSealOff_82 : decode cX1_takeSealOff 82 = .ok (.aload 5, 2) := by decide +kernel
theorem dX1_takeSealOff_84 : decode cX1_takeSealOff 84 = .ok (.getfield 63, 3) := by decide +kernel
theorem dX1_takeSealOff_87 : decode cX1_takeSealOff 87 = .ok (.ifCond .eq 14, 3) := by decide +kernel
theorem dX1_takeSealOff_90 : decode cX1_takeSealOff 90 = .ok (.aload_n 2, 1) := by decide +kernel
theorem dX1_takeSealOff_91 : decode cX1_takeSealOff 91 = .ok (.getfield 215, 3) := by decide +kernel
theorem dX1_takeSealOff_94 : decode cX1_takeSealOff 94 = .ok (.ifCond .ne 7, 3) := by decide +kernel
theorem dX1_takeSealOff_97 : decode cX1_takeSealOff 97 = .ok (.iconst 1, 1) := by decide +kernel
theorem dX1_takeSealOff_98 : decode cX1_takeSealOff 98 = .ok (.goto 4, 3) := by decide +kernel
theorem dX1_takeSealOff_101 : decode cX1_takeSealOff 101 = .ok (.iconst 0, 1) := by decide +kernel
theorem dX1_takeSealOff_102 : decode cX1_takeSealOff 102 = .ok (.putfield 63, 3) := by decide +kernel
theorem dX1_takeSealOff_105 : decode cX1_takeSealOff 105 = .ok (.iload_n 3, 1) := by decide +kernel
theorem dX1_takeSealOff_106 : decode cX1_takeSealOff 106 = .ok (.aload 5, 2) := by decide +kernel
theorem dX1_takeSealOff_108 : decode cX1_takeSealOff 108 = .ok (.getfield 63, 3) := by decide +kernel
theorem dX1_takeSealOff_111 : decode cX1_takeSealOff 111 = .ok (.ifCond .eq 7, 3) := by decide +kernel
theorem dX1_takeSealOff_114 : decode cX1_takeSealOff 114 = .ok (.iconst 0, 1) := by decide +kernel
theorem dX1_takeSealOff_115 : decode cX1_takeSealOff 115 = .ok (.goto 4, 3) := by decide +kernel
theorem dX1_takeSealOff_118 : decode cX1_takeSealOff 118 = .ok (.iconst 1, 1) := by decide +kernel
theorem dX1_takeSealOff_119 : decode cX1_takeSealOff 119 = .ok (.iadd, 1) := by decide +kernel
theorem dX1_takeSealOff_120 : decode cX1_takeSealOff 120 = .ok (.istore_n 3, 1) := by decide +kernel
theorem dX1_takeSealOff_121 : decode cX1_takeSealOff 121 = .ok (.iinc 4 1, 3) := by decide +kernel
theorem dX1_takeSealOff_124 : decode cX1_takeSealOff 124 = .ok (.goto (-77), 3) := by decide +kernel
theorem dX1_takeSealOff_127 : decode cX1_takeSealOff 127 = .ok (.aload_n 2, 1) := by decide +kernel
theorem dX1_takeSealOff_128 : decode cX1_takeSealOff 128 = .ok (.iconst (-1), 1) := by decide +kernel
theorem dX1_takeSealOff_129 : decode cX1_takeSealOff 129 = .ok (.putfield 205, 3) := by decide +kernel
theorem dX1_takeSealOff_132 : decode cX1_takeSealOff 132 = .ok (.aload_n 2, 1) := by decide +kernel
theorem dX1_takeSealOff_133 : decode cX1_takeSealOff 133 = .ok (.iconst 0, 1) := by decide +kernel
theorem dX1_takeSealOff_134 : decode cX1_takeSealOff 134 = .ok (.putfield 215, 3) := by decide +kernel
theorem dX1_takeSealOff_137 : decode cX1_takeSealOff 137 = .ok (.iload_n 3, 1) := by decide +kernel
theorem dX1_takeSealOff_138 : decode cX1_takeSealOff 138 = .ok (.ireturn, 1) := by decide +kernel
def w_X1_takeSealOff_J102 (y_10 : Int32) (y_11 : Int32) (m_12 : Mm) (K_13 : Int32 → Int32 → Mm → Prop) (y_22 : Int32) : Prop :=
  isB y_22 ∧ ∀ m_23 : Mm, m_23 = sI m_12 3 (m_12.2 7 1 y_11.toNatClampNeg) 7 y_22 → ((((m_23.1 3 (m_12.2 7 1 y_11.toNatClampNeg) 7) = 0 → ∀ x_26 : Int32, x_26 = (y_10 + 1) → (∀ x_27 : Int32, x_27 = y_11 + 1 → (K_13 x_26 x_27 m_23))) ∧
  (¬ (m_23.1 3 (m_12.2 7 1 y_11.toNatClampNeg) 7) = 0 → ∀ x_28 : Int32, x_28 = (y_10 + 0) → (∀ x_29 : Int32, x_29 = y_11 + 1 → (K_13 x_28 x_29 m_23)))))
def w_X1_takeSealOff_J101 (y_10 : Int32) (y_11 : Int32) (m_12 : Mm) (K_13 : Int32 → Int32 → Mm → Prop) : Prop :=
  w_X1_takeSealOff_J102 y_10 y_11 m_12 K_13 0
def w_X1_takeSealOff_B47 (p0 : Int32) (Q9 : Int32 → Mm → Prop) (K_13 : Int32 → Int32 → Mm → Prop) (y_10 : Int32) (y_11 : Int32) (m_12 : Mm) : Prop :=
  (((m_12.1 1 1 1) ≤ y_11 → ∀ m_16 : Mm, m_16 = sI m_12 5 (5 * (1 - 1) + p0.toNatClampNeg + 1) 0 (-1) → (∀ m_17 : Mm, m_17 = sI m_16 5 (5 * (1 - 1) + p0.toNatClampNeg + 1) 1 0 → (Q9 y_10 m_17))) ∧
  (¬ (m_12.1 1 1 1) ≤ y_11 → vp_in y_11 16 ∧ (ok 3 (m_12.2 7 1 y_11.toNatClampNeg) ∧ (((¬ (m_12.1 3 (m_12.2 7 1 y_11.toNatClampNeg) 4) = p0 → ∀ x_21 : Int32, x_21 = y_11 + 1 → (K_13 y_10 x_21 m_12)) ∧
  ((m_12.1 3 (m_12.2 7 1 y_11.toNatClampNeg) 4) = p0 → (((m_12.1 3 (m_12.2 7 1 y_11.toNatClampNeg) 7) = 0 → w_X1_takeSealOff_J101 y_10 y_11 m_12 K_13) ∧
  (¬ (m_12.1 3 (m_12.2 7 1 y_11.toNatClampNeg) 7) = 0 → ((¬ (m_12.1 5 (5 * (1 - 1) + p0.toNatClampNeg + 1) 1) = 0 → w_X1_takeSealOff_J101 y_10 y_11 m_12 K_13) ∧
  ((m_12.1 5 (5 * (1 - 1) + p0.toNatClampNeg + 1) 1) = 0 → w_X1_takeSealOff_J102 y_10 y_11 m_12 K_13 1))))))))))
def w_X1_takeSealOff (p0 : Int32) (mm : Mm) (Q9 : Int32 → Mm → Prop) : Prop :=
  w_X9_isWithin p0 0 4 mm (fun (r_1 : Int32) => ((¬ r_1 = 0 → vp_in p0 5 ∧ (w_X0_isSealed (5 * (1 - 1) + p0.toNatClampNeg + 1) mm (fun (r_5 : Int32) => ((¬ r_5 = 0 → w_X3_save 1 mm (fun (m_9 : Mm) => ∃ n, itr (α := Int32 × Int32 × Mm) (fun K a => w_X1_takeSealOff_B47 p0 Q9 (fun z0 z1 z2 => K (z0, z1, z2)) a.1 a.2.1 a.2.2) n (0, 0, m_9))) ∧
  (r_5 = 0 → Q9 (-3) mm))))) ∧
  (r_1 = 0 → Q9 (-1) mm)))
def rm_X1_takeSealOff : Room := { frames := 3, cells := 0, slots := 0, locals := 64 }
theorem hy_X1_takeSealOff : yX1_takeSealOff.cls = RX1 ∧ yX1_takeSealOff.cls ≠ "java/lang/invoke/MethodHandle" ∧ yX1_takeSealOff.cls ≠ "java/lang/invoke/VarHandle" ∧ (parseMethodDescriptor yX1_takeSealOff.desc).map (fun d => d.parameters.length) = some 1 := by decide +kernel
set_option maxRecDepth 100000 in
set_option maxHeartbeats 4000000 in
theorem c_X1_takeSealOff {l : Launch} {D : va_G} {cA : Nat → ClassId} {ad : Nat → Nat → Nat} {A : Nat → Prop} (ax : Ax ad GC A) (p0 : Int32) (mm : Mm) (Q9 : Int32 → Mm → Prop) (h : w_X1_takeSealOff p0 mm Q9) : Met l yX1_takeSealOff (.code yX1_takeSealOff cX1_takeSealOff 6 (some .int) :: TG) rm_X1_takeSealOff (PcM TT D cA ad false GC (ZC ad A) [.ref (ad 16 1), .int p0] mm) (AnsI TT D cA ad false GC A Q9) 0 0 A := by
  have zo := ZC_ok ad A
  unfold w_X1_takeSealOff at h
  refine enterI pl_X1 ⟨rfl, rfl⟩ rfl (Nat.le_of_ble_eq_true rfl) ?_
  intro p e s m args below meth c QQ X hK hZ hnm hE
  refine q_iload_n (j := 1) X dX1_takeSealOff_0 rfl rfl ?_
  refine q_iconst (v := 0) X dX1_takeSealOff_1 (by decide) ?_
  refine q_iconst (v := 4) X dX1_takeSealOff_2 (by decide) ?_
  refine q_calli (q_runSN X hK hZ zo [.int p0, .int 0, .int 4] [] rfl rfl (Nat.le_of_ble_eq_true rfl) dX1_takeSealOff_3 ⟨Nat.le_of_ble_eq_true rfl, Nat.le_of_ble_eq_true rfl⟩ (c_X9_isWithin ax p0 0 4 mm _ h) rfl rfl (List.mem_of_getElem? (i := 25) rfl) kw_1_1 kw_2_158 kw_2_157 hy_X9_isWithin.2 ⟨Nat.le_of_ble_eq_true rfl, Nat.le_of_ble_eq_true rfl⟩) (fun r_1 m_2 h => ?_)
  obtain ⟨h, hm⟩ := h
  subst hm
  refine q_if_ne (tgt := 11) X dX1_takeSealOff_6 (by decide) (fun c_3 => ?_) (fun c_3 => ?_)
  · have h := h.1 c_3
    refine q_aload_n (j := 0) X dX1_takeSealOff_11 rfl rfl ?_
    refine q_get (k := 0) (v := .ref (ad 1 1)) X hK rfl rfl (Nat.le_of_ble_eq_true rfl) inTX1 (gc (t := 16) (by decide) (ok1 (t := 16) (Nat.le_of_ble_eq_true rfl))) kw_2_75 rfl (rv_nn (a := ad 1) (r := 1) (ok1 (t := 1) (Nat.le_of_ble_eq_true rfl)).1) dX1_takeSealOff_12 ?_
    refine q_getN (k := 8) (v := .ref (ad 9 1)) X hK rfl rfl (Nat.le_of_ble_eq_true rfl) inTX8 (gc (t := 1) (by decide) (ok1 (t := 1) (Nat.le_of_ble_eq_true rfl))) (List.mem_of_getElem? (i := 77) rfl) rfl (rv_nn (a := ad 9) (r := 1) (ok1 (t := 9) (Nat.le_of_ble_eq_true rfl)).1) dX1_takeSealOff_15 ?_
    refine q_iload_n (j := 1) X dX1_takeSealOff_18 rfl rfl ?_
    obtain ⟨b_4, h⟩ := h
    refine q_aald (t := 9) (i := 1) (jn := p0.toNatClampNeg) (v := .ref (ad 5 (5 * (1 - 1) + p0.toNatClampNeg + 1))) X hK rfl rfl (gc (t := 9) (by decide) (ok1 (t := 9) (Nat.le_of_ble_eq_true rfl))) rfl b_4 rfl (rv_nn (a := ad 5) (r := (5 * (1 - 1) + p0.toNatClampNeg + 1)) (ok_ch (ok1 (t := 9) (Nat.le_of_ble_eq_true rfl)) b_4).1) dX1_takeSealOff_19 ?_
    refine q_astore_n (lv' := [(2, .ref (ad 5 (5 * (1 - 1) + p0.toNatClampNeg + 1))), (0, .ref (ad 16 1)), (1, .int p0)]) X dX1_takeSealOff_20 rfl (by decide) rfl ?_
    refine q_aload_n (j := 0) X dX1_takeSealOff_21 rfl rfl ?_
    refine q_calli (q_runVN X hK hZ zo (gc (t := 5) (by decide) (ok_ch (ok1 (t := 9) (Nat.le_of_ble_eq_true rfl)) b_4)) rfl rfl [] [] rfl rfl (Nat.le_of_ble_eq_true rfl) dX1_takeSealOff_22 ⟨Nat.le_of_ble_eq_true rfl, Nat.le_of_ble_eq_true rfl⟩ (c_X0_isSealed ax (5 * (1 - 1) + p0.toNatClampNeg + 1) (ok_ch (ok1 (t := 9) (Nat.le_of_ble_eq_true rfl)) b_4) mm _ h) rfl rfl (List.mem_of_getElem? (i := 46) rfl) kw_1_6 kw_2_166 kw_2_165 ks_2 hy_X0_isSealed.2 ⟨Nat.le_of_ble_eq_true rfl, Nat.le_of_ble_eq_true rfl⟩) (fun r_5 m_6 h => ?_)
    obtain ⟨h, hm⟩ := h
    subst hm
    refine q_if_ne (tgt := 31) X dX1_takeSealOff_25 (by decide) (fun c_7 => ?_) (fun c_7 => ?_)
    · have h := h.1 c_7
      refine q_aload_n (j := 1) X dX1_takeSealOff_31 rfl rfl ?_
      refine q_get (k := 1) (v := .ref (ad 12 1)) X hK rfl rfl (Nat.le_of_ble_eq_true rfl) inTX1 (gc (t := 16) (by decide) (ok1 (t := 16) (Nat.le_of_ble_eq_true rfl))) kw_2_76 rfl (rv_nn (a := ad 12) (r := 1) (ok1 (t := 12) (Nat.le_of_ble_eq_true rfl)).1) dX1_takeSealOff_32 ?_
      refine q_aload_n (j := 1) X dX1_takeSealOff_35 rfl rfl ?_
      refine q_get (k := 0) (v := .ref (ad 1 1)) X hK rfl rfl (Nat.le_of_ble_eq_true rfl) inTX1 (gc (t := 16) (by decide) (ok1 (t := 16) (Nat.le_of_ble_eq_true rfl))) kw_2_75 rfl (rv_nn (a := ad 1) (r := 1) (ok1 (t := 1) (Nat.le_of_ble_eq_true rfl)).1) dX1_takeSealOff_36 ?_
      refine q_callv (q_runVN X hK hZ zo (gc (t := 12) (by decide) (ok1 (t := 12) (Nat.le_of_ble_eq_true rfl))) rfl rfl [.ref (ad 1 1)] [] rfl rfl (Nat.le_of_ble_eq_true rfl) dX1_takeSealOff_39 ⟨Nat.le_of_ble_eq_true rfl, Nat.le_of_ble_eq_true rfl⟩ (c_X3_save ax 1 (ok1 (t := 1) (Nat.le_of_ble_eq_true rfl)) mm _ h) rfl rfl (List.mem_of_getElem? (i := 15) rfl) kw_1_8 kw_2_194 kw_2_193 ks_9 hy_X3_save.2 ⟨Nat.le_of_ble_eq_true rfl, Nat.le_of_ble_eq_true rfl⟩) (fun m_9 h => ?_)
      refine q_iconst (v := 0) X dX1_takeSealOff_42 (by decide) ?_
      refine q_istore_n (lv' := [(3, .int 0), (2, .ref (ad 5 (5 * (1 - 1) + p0.toNatClampNeg + 1))), (0, .ref (ad 16 1)), (1, .int p0)]) X dX1_takeSealOff_43 rfl (by decide) rfl ?_
      refine q_iconst (v := 0) X dX1_takeSealOff_44 (by decide) ?_
      refine q_istore (lv' := [(4, .int 0), (3, .int 0), (2, .ref (ad 5 (5 * (1 - 1) + p0.toNatClampNeg + 1))), (0, .ref (ad 16 1)), (1, .int p0)]) X dX1_takeSealOff_45 (by decide) rfl ?_
      refine q_sub [3, 4, 2, 1, 0] rfl ?_
      have L47 : ∀ (n : Nat) (y_10 : Int32) (y_11 : Int32) (m_12 : Mm), itr (α := Int32 × Int32 × Mm) (fun K a => w_X1_takeSealOff_B47 p0 Q9 (fun z0 z1 z2 => K (z0, z1, z2)) a.1 a.2.1 a.2.2) n (y_10, y_11, m_12) → V p l e rm_X1_takeSealOff s m args below meth c QQ 6 A 0 0 (Rep TT D cA ad false GC m_12) 47 [(0, .ref (ad 16 1)), (1, .int p0), (2, .ref (ad 5 (5 * (1 - 1) + p0.toNatClampNeg + 1))), (3, .int y_10), (4, .int y_11)] [] := by
        intro n
        induction n with
        | zero => intro y_10 y_11 m_12 h; exact h.elim
        | succ n ih_14 =>
          intro y_10 y_11 m_12 h
          have h : w_X1_takeSealOff_B47 p0 Q9 (fun z0 z1 z2 => itr (α := Int32 × Int32 × Mm) (fun K a => w_X1_takeSealOff_B47 p0 Q9 (fun z0 z1 z2 => K (z0, z1, z2)) a.1 a.2.1 a.2.2) n (z0, z1, z2)) y_10 y_11 m_12 := h
          generalize hKe : (fun z0 z1 z2 => itr (α := Int32 × Int32 × Mm) (fun K a => w_X1_takeSealOff_B47 p0 Q9 (fun z0 z1 z2 => K (z0, z1, z2)) a.1 a.2.1 a.2.2) n (z0, z1, z2)) = K_13 at h
          have ih_14k : ∀ (y_10 : Int32) (y_11 : Int32) (m_12 : Mm), K_13 y_10 y_11 m_12 → V p l e rm_X1_takeSealOff s m args below meth c QQ 6 A 0 0 (Rep TT D cA ad false GC m_12) 47 [(0, .ref (ad 16 1)), (1, .int p0), (2, .ref (ad 5 (5 * (1 - 1) + p0.toNatClampNeg + 1))), (3, .int y_10), (4, .int y_11)] [] := fun y_10 y_11 m_12 h => ih_14 y_10 y_11 m_12 (by rw [← hKe] at h; exact h)
          unfold w_X1_takeSealOff_B47 at h
          refine q_iload (j := 4) X dX1_takeSealOff_47 rfl ?_
          refine q_aload_n (j := 0) X dX1_takeSealOff_49 rfl rfl ?_
          refine q_get (k := 0) (v := .ref (ad 1 1)) X hK rfl rfl (Nat.le_of_ble_eq_true rfl) inTX1 (gc (t := 16) (by decide) (ok1 (t := 16) (Nat.le_of_ble_eq_true rfl))) kw_2_75 rfl (rv_nn (a := ad 1) (r := 1) (ok1 (t := 1) (Nat.le_of_ble_eq_true rfl)).1) dX1_takeSealOff_50 ?_
          refine q_getN (k := 1) (v := .int (m_12.1 1 1 1)) X hK rfl rfl (Nat.le_of_ble_eq_true rfl) inTX8 (gc (t := 1) (by decide) (ok1 (t := 1) (Nat.le_of_ble_eq_true rfl))) (List.mem_of_getElem? (i := 68) rfl) rfl rfl dX1_takeSealOff_53 ?_
          refine q_icmp_ge (tgt := 127) X dX1_takeSealOff_56 (by decide) (fun c_15 => ?_) (fun c_15 => ?_)
          · have h := h.1 c_15
            refine q_aload_n (j := 2) X dX1_takeSealOff_127 rfl rfl ?_
            refine q_iconst (v := (-1)) X dX1_takeSealOff_128 (by decide) ?_
            refine q_putIN (k := 0) X ax hK rfl rfl (Nat.le_of_ble_eq_true rfl) inTX0 (gc (t := 5) (by decide) (ok_ch (ok1 (t := 9) (Nat.le_of_ble_eq_true rfl)) b_4)) tyX0 tyX0_ok nmX0 (List.mem_of_getElem? (i := 44) rfl) rfl rfl (tyX0_ok 0 (Nat.le_of_ble_eq_true rfl)) rfl dX1_takeSealOff_129 ?_
            refine q_nmP (fun m_16 em_16 => ?_)
            have h := h m_16 em_16
            refine q_aload_n (j := 2) X dX1_takeSealOff_132 rfl rfl ?_
            refine q_iconst (v := 0) X dX1_takeSealOff_133 (by decide) ?_
            refine q_putBN (k := 1) X ax hK rfl rfl (Nat.le_of_ble_eq_true rfl) inTX0 (gc (t := 5) (by decide) (ok_ch (ok1 (t := 9) (Nat.le_of_ble_eq_true rfl)) b_4)) tyX0 tyX0_ok nmX0 (List.mem_of_getElem? (i := 46) rfl) rfl rfl (tyX0_ok 1 (Nat.le_of_ble_eq_true rfl)) (Or.inl rfl) rfl dX1_takeSealOff_134 ?_
            refine q_nmP (fun m_17 em_17 => ?_)
            have h := h m_17 em_17
            refine q_iload_n (j := 3) X dX1_takeSealOff_137 rfl rfl ?_
            exact hE _ _ _ _ dX1_takeSealOff_138 h
          · have h := h.2 c_15
            refine q_aload_n (j := 0) X dX1_takeSealOff_59 rfl rfl ?_
            refine q_get (k := 0) (v := .ref (ad 1 1)) X hK rfl rfl (Nat.le_of_ble_eq_true rfl) inTX1 (gc (t := 16) (by decide) (ok1 (t := 16) (Nat.le_of_ble_eq_true rfl))) kw_2_75 rfl (rv_nn (a := ad 1) (r := 1) (ok1 (t := 1) (Nat.le_of_ble_eq_true rfl)).1) dX1_takeSealOff_60 ?_
            refine q_getN (k := 6) (v := .ref (ad 7 1)) X hK rfl rfl (Nat.le_of_ble_eq_true rfl) inTX8 (gc (t := 1) (by decide) (ok1 (t := 1) (Nat.le_of_ble_eq_true rfl))) (List.mem_of_getElem? (i := 75) rfl) rfl (rv_nn (a := ad 7) (r := 1) (ok1 (t := 7) (Nat.le_of_ble_eq_true rfl)).1) dX1_takeSealOff_63 ?_
            refine q_iload (j := 4) X dX1_takeSealOff_66 rfl ?_
            obtain ⟨b_18, h⟩ := h
            refine q_aald (t := 7) (i := 1) (jn := y_11.toNatClampNeg) (v := rv (ad 3) (m_12.2 7 1 y_11.toNatClampNeg)) X hK rfl rfl (gc (t := 7) (by decide) (ok1 (t := 7) (Nat.le_of_ble_eq_true rfl))) rfl b_18 rfl rfl dX1_takeSealOff_68 ?_
            refine q_vstore (lv' := [(5, rv (ad 3) (m_12.2 7 1 y_11.toNatClampNeg)), (0, .ref (ad 16 1)), (1, .int p0), (2, .ref (ad 5 (5 * (1 - 1) + p0.toNatClampNeg + 1))), (3, .int y_10), (4, .int y_11)]) X dX1_takeSealOff_69 (by decide) rfl ?_
            refine q_vload (j := 0) X dX1_takeSealOff_71 rfl ?_
            obtain ⟨k_19, h⟩ := h
            rw [rv_nn (a := ad 3) (r := (m_12.2 7 1 y_11.toNatClampNeg)) k_19.1]
            refine q_getN (k := 4) (v := .int (m_12.1 3 (m_12.2 7 1 y_11.toNatClampNeg) 4)) X hK rfl rfl (Nat.le_of_ble_eq_true rfl) inTX2 (gc (t := 3) (by decide) k_19) (List.mem_of_getElem? (i := 24) rfl) rfl rfl dX1_takeSealOff_73 ?_
            refine q_iload_n (j := 2) X dX1_takeSealOff_76 rfl rfl ?_
            refine q_icmp_ne (tgt := 121) X dX1_takeSealOff_77 (by decide) (fun c_20 => ?_) (fun c_20 => ?_)
            · have h := h.1 c_20
              obtain ⟨x_21, ex_21⟩ : ∃ z : Int32, z = y_11 + 1 := ⟨_, rfl⟩
              have h := h x_21 ex_21
              refine q_iinc (j := 5) (v := x_21) (lv' := [(4, .int x_21), (5, .ref (ad 3 (m_12.2 7 1 y_11.toNatClampNeg))), (0, .ref (ad 16 1)), (1, .int p0), (2, .ref (ad 5 (5 * (1 - 1) + p0.toNatClampNeg + 1))), (3, .int y_10)]) X dX1_takeSealOff_121 rfl (by rw [ex_21]; rfl) (by decide) rfl ?_
              refine q_goto (tgt := 47) X dX1_takeSealOff_124 (by decide) ?_
              refine q_sub [2, 3, 4, 5, 0] rfl ?_
              exact ih_14k y_10 x_21 m_12 h
            · have h := h.2 c_20
              refine q_aload (j := 0) X dX1_takeSealOff_80 rfl ?_
              refine q_aload (j := 0) X dX1_takeSealOff_82 rfl ?_
              refine q_getN (k := 7) (v := .int (m_12.1 3 (m_12.2 7 1 y_11.toNatClampNeg) 7)) X hK rfl rfl (Nat.le_of_ble_eq_true rfl) inTX2 (gc (t := 3) (by decide) k_19) (List.mem_of_getElem? (i := 31) rfl) rfl rfl dX1_takeSealOff_84 ?_
              have J102 : ∀ (y_22 : Int32), w_X1_takeSealOff_J102 y_10 y_11 m_12 K_13 y_22 → V p l e rm_X1_takeSealOff s m args below meth c QQ 6 A 0 0 (Rep TT D cA ad false GC m_12) 102 [(0, .ref (ad 16 1)), (1, .int p0), (2, .ref (ad 5 (5 * (1 - 1) + p0.toNatClampNeg + 1))), (3, .int y_10), (4, .int y_11), (5, .ref (ad 3 (m_12.2 7 1 y_11.toNatClampNeg)))] [.int y_22, .ref (ad 3 (m_12.2 7 1 y_11.toNatClampNeg))] := by
                intro y_22 h
                unfold w_X1_takeSealOff_J102 at h
                obtain ⟨b_24, h⟩ := h
                refine q_putBN (k := 7) X ax hK rfl rfl (Nat.le_of_ble_eq_true rfl) inTX2 (gc (t := 3) (by decide) k_19) tyX2 tyX2_ok nmX2 (List.mem_of_getElem? (i := 31) rfl) rfl rfl (tyX2_ok 7 (Nat.le_of_ble_eq_true rfl)) b_24 rfl dX1_takeSealOff_102 ?_
                refine q_nmP (fun m_23 em_23 => ?_)
                have h := h m_23 em_23
                refine q_iload_n (j := 3) X dX1_takeSealOff_105 rfl rfl ?_
                refine q_aload (j := 5) X dX1_takeSealOff_106 rfl ?_
                refine q_getN (k := 7) (v := .int (m_23.1 3 (m_12.2 7 1 y_11.toNatClampNeg) 7)) X hK rfl rfl (Nat.le_of_ble_eq_true rfl) inTX2 (gc (t := 3) (by decide) k_19) (List.mem_of_getElem? (i := 31) rfl) rfl rfl dX1_takeSealOff_108 ?_
                refine q_if_eq (tgt := 118) X dX1_takeSealOff_111 (by decide) (fun c_25 => ?_) (fun c_25 => ?_)
                · have h := h.1 c_25
                  refine q_iconst (v := 1) X dX1_takeSealOff_118 (by decide) ?_
                  refine q_iadd X dX1_takeSealOff_119 ?_
                  refine q_topi (fun x_26 ex_26 => ?_)
                  have h := h x_26 ex_26
                  refine q_istore_n (lv' := [(3, .int x_26), (0, .ref (ad 16 1)), (1, .int p0), (2, .ref (ad 5 (5 * (1 - 1) + p0.toNatClampNeg + 1))), (4, .int y_11), (5, .ref (ad 3 (m_12.2 7 1 y_11.toNatClampNeg)))]) X dX1_takeSealOff_120 rfl (by decide) rfl ?_
                  obtain ⟨x_27, ex_27⟩ : ∃ z : Int32, z = y_11 + 1 := ⟨_, rfl⟩
                  have h := h x_27 ex_27
                  refine q_iinc (j := 4) (v := x_27) (lv' := [(4, .int x_27), (3, .int x_26), (0, .ref (ad 16 1)), (1, .int p0), (2, .ref (ad 5 (5 * (1 - 1) + p0.toNatClampNeg + 1))), (5, .ref (ad 3 (m_12.2 7 1 y_11.toNatClampNeg)))]) X dX1_takeSealOff_121 rfl (by rw [ex_27]; rfl) (by decide) rfl ?_
                  refine q_goto (tgt := 47) X dX1_takeSealOff_124 (by decide) ?_
                  refine q_sub [2, 3, 4, 1, 0] rfl ?_
                  exact ih_14k x_26 x_27 m_23 h
                · have h := h.2 c_25
                  refine q_iconst (v := 0) X dX1_takeSealOff_114 (by decide) ?_
                  refine q_goto (tgt := 119) X dX1_takeSealOff_115 (by decide) ?_
                  refine q_iadd X dX1_takeSealOff_119 ?_
                  refine q_topi (fun x_28 ex_28 => ?_)
                  have h := h x_28 ex_28
                  refine q_istore_n (lv' := [(3, .int x_28), (0, .ref (ad 16 1)), (1, .int p0), (2, .ref (ad 5 (5 * (1 - 1) + p0.toNatClampNeg + 1))), (4, .int y_11), (5, .ref (ad 3 (m_12.2 7 1 y_11.toNatClampNeg)))]) X dX1_takeSealOff_120 rfl (by decide) rfl ?_
                  obtain ⟨x_29, ex_29⟩ : ∃ z : Int32, z = y_11 + 1 := ⟨_, rfl⟩
                  have h := h x_29 ex_29
                  refine q_iinc (j := 4) (v := x_29) (lv' := [(4, .int x_29), (3, .int x_28), (0, .ref (ad 16 1)), (1, .int p0), (2, .ref (ad 5 (5 * (1 - 1) + p0.toNatClampNeg + 1))), (5, .ref (ad 3 (m_12.2 7 1 y_11.toNatClampNeg)))]) X dX1_takeSealOff_121 rfl (by rw [ex_29]; rfl) (by decide) rfl ?_
                  refine q_goto (tgt := 47) X dX1_takeSealOff_124 (by decide) ?_
                  refine q_sub [2, 3, 4, 1, 0] rfl ?_
                  exact ih_14k x_28 x_29 m_23 h
              have J101 : w_X1_takeSealOff_J101 y_10 y_11 m_12 K_13  → V p l e rm_X1_takeSealOff s m args below meth c QQ 6 A 0 0 (Rep TT D cA ad false GC m_12) 101 [(0, .ref (ad 16 1)), (1, .int p0), (2, .ref (ad 5 (5 * (1 - 1) + p0.toNatClampNeg + 1))), (3, .int y_10), (4, .int y_11), (5, .ref (ad 3 (m_12.2 7 1 y_11.toNatClampNeg)))] [.ref (ad 3 (m_12.2 7 1 y_11.toNatClampNeg))] := by
                intro  h
                unfold w_X1_takeSealOff_J101 at h
                refine q_iconst (v := 0) X dX1_takeSealOff_101 (by decide) ?_
                refine q_sub [0, 1, 2, 3, 4, 5] rfl ?_
                exact J102 0 h
              refine q_if_eq (tgt := 101) X dX1_takeSealOff_87 (by decide) (fun c_30 => ?_) (fun c_30 => ?_)
              · have h := h.1 c_30
                refine q_sub [1, 2, 3, 4, 5, 0] rfl ?_
                exact J101  h
              · have h := h.2 c_30
                refine q_aload_n (j := 3) X dX1_takeSealOff_90 rfl rfl ?_
                refine q_getN (k := 1) (v := .int (m_12.1 5 (5 * (1 - 1) + p0.toNatClampNeg + 1) 1)) X hK rfl rfl (Nat.le_of_ble_eq_true rfl) inTX0 (gc (t := 5) (by decide) (ok_ch (ok1 (t := 9) (Nat.le_of_ble_eq_true rfl)) b_4)) (List.mem_of_getElem? (i := 46) rfl) rfl rfl dX1_takeSealOff_91 ?_
                refine q_if_ne (tgt := 101) X dX1_takeSealOff_94 (by decide) (fun c_31 => ?_) (fun c_31 => ?_)
                · have h := h.1 c_31
                  refine q_sub [1, 2, 3, 4, 5, 0] rfl ?_
                  exact J101  h
                · have h := h.2 c_31
                  refine q_iconst (v := 1) X dX1_takeSealOff_97 (by decide) ?_
                  refine q_goto (tgt := 102) X dX1_takeSealOff_98 (by decide) ?_
                  refine q_sub [1, 2, 3, 4, 5, 0] rfl ?_
                  exact J102 1 h
      obtain ⟨n_32, h⟩ := h
      exact L47 n_32 0 0 m_9 h
    · have h := h.2 c_7
      refine q_bipush (v := (-3)) X dX1_takeSealOff_28 (by decide) ?_
      exact hE _ _ _ _ dX1_takeSealOff_30 h
  · have h := h.2 c_3
    refine q_iconst (v := (-1)) X dX1_takeSealOff_9 (by decide) ?_
    exact hE _ _ _ _ dX1_takeSealOff_10 h
theorem dX1_damageSeal_0 : decode cX1_damageSeal 0 = .ok (.iload_n 1, 1) := by decide +kernel
theorem dX1_damageSeal_1 : decode cX1_damageSeal 1 = .ok (.iconst 0, 1) := by decide +kernel
theorem dX1_damageSeal_2 : decode cX1_damageSeal 2 = .ok (.iconst 4, 1) := by decide +kernel
theorem dX1_damageSeal_3 : decode cX1_damageSeal 3 = .ok (.invokestatic 83, 3) := by decide +kernel
theorem dX1_damageSeal_6 : decode cX1_damageSeal 6 = .ok (.ifCond .ne 5, 3) := by decide +kernel
theorem dX1_damageSeal_9 : decode cX1_damageSeal 9 = .ok (.iconst (-1), 1) := by decide +kernel
theorem dX1_damageSeal_10 : decode cX1_damageSeal 10 = .ok (.ireturn, 1) := by decide +kernel
theorem dX1_damageSeal_11 : decode cX1_damageSeal 11 = .ok (.aload_n 0, 1) := by decide +kernel
theorem dX1_damageSeal_12 : decode cX1_damageSeal 12 = .ok (.getfield 9, 3) := by decide +kernel
theorem dX1_damageSeal_15 : decode cX1_damageSeal 15 = .ok (.getfield 161, 3) := by decide +kernel
theorem dX1_damageSeal_18 : decode cX1_damageSeal 18 = .ok (.iload_n 1, 1) := by decide +kernel
theorem dX1_damageSeal_19 : decode cX1_damageSeal 19 = .ok (.aaload, 1) := by decide +kernel
theorem dX1_damageSeal_20 : decode cX1_damageSeal 20 = .ok (.astore_n 2, 1) := by decide +kernel
theorem dX1_damageSeal_21 : decode cX1_damageSeal 21 = .ok (.aload_n 2, 1) := by decide +kernel
theorem dX1_damageSeal_22 : decode cX1_damageSeal 22 = .ok (.invokevirtual 165, 3) := by decide +kernel
theorem dX1_damageSeal_25 : decode cX1_damageSeal 25 = .ok (.ifCond .eq 10, 3) := by decide +kernel
theorem dX1_damageSeal_28 : decode cX1_damageSeal 28 = .ok (.aload_n 2, 1) := by decide +kernel
theorem dX1_damageSeal_29 : decode cX1_damageSeal 29 = .ok (.getfield 215, 3) := by decide +kernel
theorem dX1_damageSeal_32 : decode cX1_damageSeal 32 = .ok (.ifCond .eq 6, 3) := by decide +kernel
theorem dX1_damageSeal_35 : decode cX1_damageSeal 35 = .ok (.bipush (-3), 2) := by decide +kernel
theorem dX1_damageSeal_37 : decode cX1_damageSeal 37 = .ok (.ireturn, 1) := by decide +kernel
theorem dX1_damageSeal_38 : decode cX1_damageSeal 38 = .ok (.aload_n 0, 1) := by decide +kernel
theorem dX1_damageSeal_39 : decode cX1_damageSeal 39 = .ok (.getfield 15, 3) := by decide +kernel
theorem dX1_damageSeal_42 : decode cX1_damageSeal 42 = .ok (.aload_n 0, 1) := by decide +kernel
theorem dX1_damageSeal_43 : decode cX1_damageSeal 43 = .ok (.getfield 9, 3) := by decide +kernel
theorem dX1_damageSeal_46 : decode cX1_damageSeal 46 = .ok (.invokevirtual 29, 3) := by decide +kernel
theorem dX1_damageSeal_49 : decode cX1_damageSeal 49 = .ok (.aload_n 2, 1) := by decide +kernel
theorem dX1_damageSeal_50 : decode cX1_damageSeal 50 = .ok (.iconst 1, 1) := by decide +kernel
theorem dX1_damageSeal_51 : decode cX1_damageSeal 51 = .ok (.putfield 215, 3) := by decide +kernel
theorem dX1_damageSeal_54 : decode cX1_damageSeal 54 = .ok (.aload_n 2, 1) := by decide +kernel
theorem dX1_damageSeal_55 : decode cX1_damageSeal 55 = .ok (.getfield 205, 3) := by decide +kernel
theorem dX1_damageSeal_58 : decode cX1_damageSeal 58 = .ok (.ireturn, 1) := by decide +kernel
def w_X1_damageSeal (p0 : Int32) (mm : Mm) (Q9 : Int32 → Mm → Prop) : Prop :=
  w_X9_isWithin p0 0 4 mm (fun (r_1 : Int32) => ((¬ r_1 = 0 → vp_in p0 5 ∧ (w_X0_isSealed (5 * (1 - 1) + p0.toNatClampNeg + 1) mm (fun (r_5 : Int32) => ((r_5 = 0 → Q9 (-3) mm) ∧
  (¬ r_5 = 0 → (((mm.1 5 (5 * (1 - 1) + p0.toNatClampNeg + 1) 1) = 0 → w_X3_save 1 mm (fun (m_10 : Mm) => ∀ m_11 : Mm, m_11 = sI m_10 5 (5 * (1 - 1) + p0.toNatClampNeg + 1) 1 1 → (Q9 (m_11.1 5 (5 * (1 - 1) + p0.toNatClampNeg + 1) 0) m_11))) ∧
  (¬ (mm.1 5 (5 * (1 - 1) + p0.toNatClampNeg + 1) 1) = 0 → Q9 (-3) mm))))))) ∧
  (r_1 = 0 → Q9 (-1) mm)))
def rm_X1_damageSeal : Room := { frames := 3, cells := 0, slots := 0, locals := 64 }
theorem hy_X1_damageSeal : yX1_damageSeal.cls = RX1 ∧ yX1_damageSeal.cls ≠ "java/lang/invoke/MethodHandle" ∧ yX1_damageSeal.cls ≠ "java/lang/invoke/VarHandle" ∧ (parseMethodDescriptor yX1_damageSeal.desc).map (fun d => d.parameters.length) = some 1 := by decide +kernel
set_option maxRecDepth 100000 in
set_option maxHeartbeats 4000000 in
theorem c_X1_damageSeal {l : Launch} {D : va_G} {cA : Nat → ClassId} {ad : Nat → Nat → Nat} {A : Nat → Prop} (ax : Ax ad GC A) (p0 : Int32) (mm : Mm) (Q9 : Int32 → Mm → Prop) (h : w_X1_damageSeal p0 mm Q9) : Met l yX1_damageSeal (.code yX1_damageSeal cX1_damageSeal 3 (some .int) :: TG) rm_X1_damageSeal (PcM TT D cA ad false GC (ZC ad A) [.ref (ad 16 1), .int p0] mm) (AnsI TT D cA ad false GC A Q9) 0 0 A := by
  have zo := ZC_ok ad A
  unfold w_X1_damageSeal at h
  refine enterI pl_X1 ⟨rfl, rfl⟩ rfl (Nat.le_of_ble_eq_true rfl) ?_
  intro p e s m args below meth c QQ X hK hZ hnm hE
  refine q_iload_n (j := 1) X dX1_damageSeal_0 rfl rfl ?_
  refine q_iconst (v := 0) X dX1_damageSeal_1 (by decide) ?_
  refine q_iconst (v := 4) X dX1_damageSeal_2 (by decide) ?_
  refine q_calli (q_runSN X hK hZ zo [.int p0, .int 0, .int 4] [] rfl rfl (Nat.le_of_ble_eq_true rfl) dX1_damageSeal_3 ⟨Nat.le_of_ble_eq_true rfl, Nat.le_of_ble_eq_true rfl⟩ (c_X9_isWithin ax p0 0 4 mm _ h) rfl rfl (List.mem_of_getElem? (i := 25) rfl) kw_1_1 kw_2_158 kw_2_157 hy_X9_isWithin.2 ⟨Nat.le_of_ble_eq_true rfl, Nat.le_of_ble_eq_true rfl⟩) (fun r_1 m_2 h => ?_)
  obtain ⟨h, hm⟩ := h
  subst hm
  refine q_if_ne (tgt := 11) X dX1_damageSeal_6 (by decide) (fun c_3 => ?_) (fun c_3 => ?_)
  · have h := h.1 c_3
    refine q_aload_n (j := 0) X dX1_damageSeal_11 rfl rfl ?_
    refine q_get (k := 0) (v := .ref (ad 1 1)) X hK rfl rfl (Nat.le_of_ble_eq_true rfl) inTX1 (gc (t := 16) (by decide) (ok1 (t := 16) (Nat.le_of_ble_eq_true rfl))) kw_2_75 rfl (rv_nn (a := ad 1) (r := 1) (ok1 (t := 1) (Nat.le_of_ble_eq_true rfl)).1) dX1_damageSeal_12 ?_
    refine q_getN (k := 8) (v := .ref (ad 9 1)) X hK rfl rfl (Nat.le_of_ble_eq_true rfl) inTX8 (gc (t := 1) (by decide) (ok1 (t := 1) (Nat.le_of_ble_eq_true rfl))) (List.mem_of_getElem? (i := 77) rfl) rfl (rv_nn (a := ad 9) (r := 1) (ok1 (t := 9) (Nat.le_of_ble_eq_true rfl)).1) dX1_damageSeal_15 ?_
    refine q_iload_n (j := 1) X dX1_damageSeal_18 rfl rfl ?_
    obtain ⟨b_4, h⟩ := h
    refine q_aald (t := 9) (i := 1) (jn := p0.toNatClampNeg) (v := .ref (ad 5 (5 * (1 - 1) + p0.toNatClampNeg + 1))) X hK rfl rfl (gc (t := 9) (by decide) (ok1 (t := 9) (Nat.le_of_ble_eq_true rfl))) rfl b_4 rfl (rv_nn (a := ad 5) (r := (5 * (1 - 1) + p0.toNatClampNeg + 1)) (ok_ch (ok1 (t := 9) (Nat.le_of_ble_eq_true rfl)) b_4).1) dX1_damageSeal_19 ?_
    refine q_astore_n (lv' := [(2, .ref (ad 5 (5 * (1 - 1) + p0.toNatClampNeg + 1))), (0, .ref (ad 16 1)), (1, .int p0)]) X dX1_damageSeal_20 rfl (by decide) rfl ?_
    refine q_aload_n (j := 0) X dX1_damageSeal_21 rfl rfl ?_
    refine q_calli (q_runVN X hK hZ zo (gc (t := 5) (by decide) (ok_ch (ok1 (t := 9) (Nat.le_of_ble_eq_true rfl)) b_4)) rfl rfl [] [] rfl rfl (Nat.le_of_ble_eq_true rfl) dX1_damageSeal_22 ⟨Nat.le_of_ble_eq_true rfl, Nat.le_of_ble_eq_true rfl⟩ (c_X0_isSealed ax (5 * (1 - 1) + p0.toNatClampNeg + 1) (ok_ch (ok1 (t := 9) (Nat.le_of_ble_eq_true rfl)) b_4) mm _ h) rfl rfl (List.mem_of_getElem? (i := 46) rfl) kw_1_6 kw_2_166 kw_2_165 ks_2 hy_X0_isSealed.2 ⟨Nat.le_of_ble_eq_true rfl, Nat.le_of_ble_eq_true rfl⟩) (fun r_5 m_6 h => ?_)
    obtain ⟨h, hm⟩ := h
    subst hm
    refine q_if_eq (tgt := 35) X dX1_damageSeal_25 (by decide) (fun c_7 => ?_) (fun c_7 => ?_)
    · have h := h.1 c_7
      refine q_bipush (v := (-3)) X dX1_damageSeal_35 (by decide) ?_
      exact hE _ _ _ _ dX1_damageSeal_37 h
    · have h := h.2 c_7
      refine q_aload_n (j := 0) X dX1_damageSeal_28 rfl rfl ?_
      refine q_getN (k := 1) (v := .int (mm.1 5 (5 * (1 - 1) + p0.toNatClampNeg + 1) 1)) X hK rfl rfl (Nat.le_of_ble_eq_true rfl) inTX0 (gc (t := 5) (by decide) (ok_ch (ok1 (t := 9) (Nat.le_of_ble_eq_true rfl)) b_4)) (List.mem_of_getElem? (i := 46) rfl) rfl rfl dX1_damageSeal_29 ?_
      refine q_if_eq (tgt := 38) X dX1_damageSeal_32 (by decide) (fun c_8 => ?_) (fun c_8 => ?_)
      · have h := h.1 c_8
        refine q_aload_n (j := 1) X dX1_damageSeal_38 rfl rfl ?_
        refine q_get (k := 1) (v := .ref (ad 12 1)) X hK rfl rfl (Nat.le_of_ble_eq_true rfl) inTX1 (gc (t := 16) (by decide) (ok1 (t := 16) (Nat.le_of_ble_eq_true rfl))) kw_2_76 rfl (rv_nn (a := ad 12) (r := 1) (ok1 (t := 12) (Nat.le_of_ble_eq_true rfl)).1) dX1_damageSeal_39 ?_
        refine q_aload_n (j := 1) X dX1_damageSeal_42 rfl rfl ?_
        refine q_get (k := 0) (v := .ref (ad 1 1)) X hK rfl rfl (Nat.le_of_ble_eq_true rfl) inTX1 (gc (t := 16) (by decide) (ok1 (t := 16) (Nat.le_of_ble_eq_true rfl))) kw_2_75 rfl (rv_nn (a := ad 1) (r := 1) (ok1 (t := 1) (Nat.le_of_ble_eq_true rfl)).1) dX1_damageSeal_43 ?_
        refine q_callv (q_runVN X hK hZ zo (gc (t := 12) (by decide) (ok1 (t := 12) (Nat.le_of_ble_eq_true rfl))) rfl rfl [.ref (ad 1 1)] [] rfl rfl (Nat.le_of_ble_eq_true rfl) dX1_damageSeal_46 ⟨Nat.le_of_ble_eq_true rfl, Nat.le_of_ble_eq_true rfl⟩ (c_X3_save ax 1 (ok1 (t := 1) (Nat.le_of_ble_eq_true rfl)) mm _ h) rfl rfl (List.mem_of_getElem? (i := 15) rfl) kw_1_8 kw_2_194 kw_2_193 ks_9 hy_X3_save.2 ⟨Nat.le_of_ble_eq_true rfl, Nat.le_of_ble_eq_true rfl⟩) (fun m_10 h => ?_)
        refine q_aload_n (j := 0) X dX1_damageSeal_49 rfl rfl ?_
        refine q_iconst (v := 1) X dX1_damageSeal_50 (by decide) ?_
        refine q_putBN (k := 1) X ax hK rfl rfl (Nat.le_of_ble_eq_true rfl) inTX0 (gc (t := 5) (by decide) (ok_ch (ok1 (t := 9) (Nat.le_of_ble_eq_true rfl)) b_4)) tyX0 tyX0_ok nmX0 (List.mem_of_getElem? (i := 46) rfl) rfl rfl (tyX0_ok 1 (Nat.le_of_ble_eq_true rfl)) (Or.inr rfl) rfl dX1_damageSeal_51 ?_
        refine q_nmP (fun m_11 em_11 => ?_)
        have h := h m_11 em_11
        refine q_aload_n (j := 0) X dX1_damageSeal_54 rfl rfl ?_
        refine q_getN (k := 0) (v := .int (m_11.1 5 (5 * (1 - 1) + p0.toNatClampNeg + 1) 0)) X hK rfl rfl (Nat.le_of_ble_eq_true rfl) inTX0 (gc (t := 5) (by decide) (ok_ch (ok1 (t := 9) (Nat.le_of_ble_eq_true rfl)) b_4)) (List.mem_of_getElem? (i := 44) rfl) rfl rfl dX1_damageSeal_55 ?_
        exact hE _ _ _ _ dX1_damageSeal_58 h
      · have h := h.2 c_8
        refine q_bipush (v := (-3)) X dX1_damageSeal_35 (by decide) ?_
        exact hE _ _ _ _ dX1_damageSeal_37 h
  · have h := h.2 c_3
    refine q_iconst (v := (-1)) X dX1_damageSeal_9 (by decide) ?_
    exact hE _ _ _ _ dX1_damageSeal_10 h
theorem dX6_accountAfter_0 : decode cX6_accountAfter 0 = .ok (.aload_n 0, 1) := by decide +kernel
theorem dX6_accountAfter_1 : decode cX6_accountAfter 1 = .ok (.getfield 13, 3) := by decide +kernel
theorem dX6_accountAfter_4 : decode cX6_accountAfter 4 = .ok (.iload_n 1, 1) := by decide +kernel
theorem dX6_accountAfter_5 : decode cX6_accountAfter 5 = .ok (.iadd, 1) := by decide +kernel
theorem dX6_accountAfter_6 : decode cX6_accountAfter 6 = .ok (.aload_n 0, 1) := by decide +kernel
theorem dX6_accountAfter_7 : decode cX6_accountAfter 7 = .ok (.getfield 16, 3) := by decide +kernel
theorem dX6_accountAfter_10 : decode cX6_accountAfter 10 = .ok (.iload_n 1, 1) := by decide +kernel
theorem dX6_accountAfter_11 : decode cX6_accountAfter 11 = .ok (.invokestatic 31, 3) := by decide +kernel
theorem dX6_accountAfter_14 : decode cX6_accountAfter 14 = .ok (.isub, 1) := by decide +kernel
theorem dX6_accountAfter_15 : decode cX6_accountAfter 15 = .ok (.ireturn, 1) := by decide +kernel
def w_X6_accountAfter (i : Nat) (p0 : Int32) (mm : Mm) (Q9 : Int32 → Prop) : Prop :=
  Q9 (((mm.1 2 i 1) + p0) - (if p0 < (mm.1 2 i 2) then p0 else (mm.1 2 i 2)))
def rm_X6_accountAfter : Room := { frames := 1, cells := 0, slots := 0, locals := 21 }
theorem hy_X6_accountAfter : yX6_accountAfter.cls = RX6 ∧ yX6_accountAfter.cls ≠ "java/lang/invoke/MethodHandle" ∧ yX6_accountAfter.cls ≠ "java/lang/invoke/VarHandle" ∧ (parseMethodDescriptor yX6_accountAfter.desc).map (fun d => d.parameters.length) = some 1 := by decide +kernel
set_option maxRecDepth 100000 in
set_option maxHeartbeats 4000000 in
theorem c_X6_accountAfter {l : Launch} {D : va_G} {cA : Nat → ClassId} {ad : Nat → Nat → Nat} {A : Nat → Prop} (ax : Ax ad GC A) (i : Nat) (hi : ok 2 i) (p0 : Int32) (mm : Mm) (Q9 : Int32 → Prop) (h : w_X6_accountAfter i p0 mm Q9) : Met l yX6_accountAfter (.code yX6_accountAfter cX6_accountAfter 2 (some .int) :: TG) rm_X6_accountAfter (PcM TT D cA ad false GC (ZC ad A) [.ref (ad 2 i), .int p0] mm) (AnsI TT D cA ad false GC A (fun r mm' => Q9 r ∧ mm = mm')) 0 0 A := by
  have zo := ZC_ok ad A
  unfold w_X6_accountAfter at h
  refine enterI pl_X6 ⟨rfl, rfl⟩ rfl (Nat.le_of_ble_eq_true rfl) ?_
  intro p e s m args below meth c QQ X hK hZ hnm hE
  refine q_aload_n (j := 0) X dX6_accountAfter_0 rfl rfl ?_
  refine q_get (k := 1) (v := .int (mm.1 2 i 1)) X hK rfl rfl (Nat.le_of_ble_eq_true rfl) inTX6 (gc (t := 2) (by decide) hi) kw_1_42 rfl rfl dX6_accountAfter_1 ?_
  refine q_iload_n (j := 1) X dX6_accountAfter_4 rfl rfl ?_
  refine q_iadd X dX6_accountAfter_5 ?_
  refine q_aload_n (j := 0) X dX6_accountAfter_6 rfl rfl ?_
  refine q_get (k := 2) (v := .int (mm.1 2 i 2)) X hK rfl rfl (Nat.le_of_ble_eq_true rfl) inTX6 (gc (t := 2) (by decide) hi) kw_1_46 rfl rfl dX6_accountAfter_7 ?_
  refine q_iload_n (j := 1) X dX6_accountAfter_10 rfl rfl ?_
  refine q_min X kw_4_40 kw_3_134 kw_1_11 kw_3_135 (Nat.le_of_ble_eq_true rfl) (Nat.le_of_ble_eq_true rfl) ⟨Nat.le_of_ble_eq_true rfl, Nat.le_of_ble_eq_true rfl⟩ dX6_accountAfter_11 ?_
  refine q_isub X dX6_accountAfter_14 ?_
  exact hE _ _ _ _ dX6_accountAfter_15 ⟨h, rfl⟩
theorem dX6_takeDeposit_0 : decode cX6_takeDeposit 0 = .ok (.aload_n 0, 1) := by decide +kernel
theorem dX6_takeDeposit_1 : decode cX6_takeDeposit 1 = .ok (.aload_n 0, 1) := by decide +kernel
theorem dX6_takeDeposit_2 : decode cX6_takeDeposit 2 = .ok (.iload_n 1, 1) := by decide +kernel
theorem dX6_takeDeposit_3 : decode cX6_takeDeposit 3 = .ok (.invokevirtual 37, 3) := by decide +kernel
theorem dX6_takeDeposit_6 : decode cX6_takeDeposit 6 = .ok (.putfield 13, 3) := by decide +kernel
theorem dX6_takeDeposit_9 : decode cX6_takeDeposit 9 = .ok (.aload_n 0, 1) := by decide +kernel
theorem dX6_takeDeposit_10 : decode cX6_takeDeposit 10 = .ok (.aload_n 0, 1) := by decide +kernel
theorem dX6_takeDeposit_11 : decode cX6_takeDeposit 11 = .ok (.getfield 16, 3) := by decide +kernel
theorem dX6_takeDeposit_14 : decode cX6_takeDeposit 14 = .ok (.aload_n 0, 1) := by decide +kernel
theorem dX6_takeDeposit_15 : decode cX6_takeDeposit 15 = .ok (.getfield 16, 3) := by decide +kernel
theorem dX6_takeDeposit_18 : decode cX6_takeDeposit 18 = .ok (.iload_n 1, 1) := by decide +kernel
theorem dX6_takeDeposit_19 : decode cX6_takeDeposit 19 = .ok (.invokestatic 31, 3) := by decide +kernel
theorem dX6_takeDeposit_22 : decode cX6_takeDeposit 22 = .ok (.isub, 1) := by decide +kernel
theorem dX6_takeDeposit_23 : decode cX6_takeDeposit 23 = .ok (.putfield 16, 3) := by decide +kernel
theorem dX6_takeDeposit_26 : decode cX6_takeDeposit 26 = .ok (.aload_n 0, 1) := by decide +kernel
theorem dX6_takeDeposit_27 : decode cX6_takeDeposit 27 = .ok (.aload_n 0, 1) := by decide +kernel
theorem dX6_takeDeposit_28 : decode cX6_takeDeposit 28 = .ok (.getfield 19, 3) := by decide +kernel
theorem dX6_takeDeposit_31 : decode cX6_takeDeposit 31 = .ok (.iload_n 1, 1) := by decide +kernel
theorem dX6_takeDeposit_32 : decode cX6_takeDeposit 32 = .ok (.iadd, 1) := by decide +kernel
theorem dX6_takeDeposit_33 : decode cX6_takeDeposit 33 = .ok (.putfield 19, 3) := by decide +kernel
theorem dX6_takeDeposit_36 : decode cX6_takeDeposit 36 = .ok (.return_, 1) := by decide +kernel
def w_X6_takeDeposit (i : Nat) (p0 : Int32) (mm : Mm) (Q9 : Mm → Prop) : Prop :=
  w_X6_accountAfter i p0 mm (fun (r_1 : Int32) => ∀ m_3 : Mm, m_3 = sI mm 2 i 1 r_1 → (∀ m_4 : Mm, m_4 = sI m_3 2 i 2 ((m_3.1 2 i 2) - (if p0 < (m_3.1 2 i 2) then p0 else (m_3.1 2 i 2))) → (∀ m_5 : Mm, m_5 = sI m_4 2 i 3 ((m_4.1 2 i 3) + p0) → (Q9 m_5))))
def rm_X6_takeDeposit : Room := { frames := 2, cells := 0, slots := 0, locals := 42 }
theorem hy_X6_takeDeposit : yX6_takeDeposit.cls = RX6 ∧ yX6_takeDeposit.cls ≠ "java/lang/invoke/MethodHandle" ∧ yX6_takeDeposit.cls ≠ "java/lang/invoke/VarHandle" ∧ (parseMethodDescriptor yX6_takeDeposit.desc).map (fun d => d.parameters.length) = some 1 := by decide +kernel
set_option maxRecDepth 100000 in
set_option maxHeartbeats 4000000 in
theorem c_X6_takeDeposit {l : Launch} {D : va_G} {cA : Nat → ClassId} {ad : Nat → Nat → Nat} {A : Nat → Prop} (ax : Ax ad GC A) (i : Nat) (hi : ok 2 i) (p0 : Int32) (mm : Mm) (Q9 : Mm → Prop) (h : w_X6_takeDeposit i p0 mm Q9) : Met l yX6_takeDeposit (.code yX6_takeDeposit cX6_takeDeposit 2 none :: TG) rm_X6_takeDeposit (PcM TT D cA ad false GC (ZC ad A) [.ref (ad 2 i), .int p0] mm) (AnsV TT D cA ad false GC A Q9) 0 0 A := by
  have zo := ZC_ok ad A
  unfold w_X6_takeDeposit at h
  refine enterV pl_X6 ⟨rfl, rfl⟩ rfl (Nat.le_of_ble_eq_true rfl) ?_
  intro p e s m args below meth c QQ X hK hZ hnm hE
  refine q_aload_n (j := 0) X dX6_takeDeposit_0 rfl rfl ?_
  refine q_aload_n (j := 0) X dX6_takeDeposit_1 rfl rfl ?_
  refine q_iload_n (j := 1) X dX6_takeDeposit_2 rfl rfl ?_
  refine q_calli (q_runV X hK hZ zo (gc (t := 2) (by decide) hi) rfl rfl [.int p0] [.ref (ad 2 i)] rfl rfl (Nat.le_of_ble_eq_true rfl) dX6_takeDeposit_3 ⟨Nat.le_of_ble_eq_true rfl, Nat.le_of_ble_eq_true rfl⟩ (c_X6_accountAfter ax i hi p0 mm _ h) rfl rfl (gV kw_4_94 kw_4_87 ks_51 kw_1_3 kw_4_88) hy_X6_accountAfter ⟨Nat.le_of_ble_eq_true rfl, Nat.le_of_ble_eq_true rfl⟩) (fun r_1 m_2 h => ?_)
  obtain ⟨h, hm⟩ := h
  subst hm
  refine q_putI (k := 1) X ax hK rfl rfl (Nat.le_of_ble_eq_true rfl) inTX6 (gc (t := 2) (by decide) hi) tyX6 tyX6_ok nmX6 kw_1_42 rfl rfl (tyX6_ok 1 (Nat.le_of_ble_eq_true rfl)) rfl dX6_takeDeposit_6 ?_
  refine q_nmP (fun m_3 em_3 => ?_)
  have h := h m_3 em_3
  refine q_aload_n (j := 0) X dX6_takeDeposit_9 rfl rfl ?_
  refine q_aload_n (j := 0) X dX6_takeDeposit_10 rfl rfl ?_
  refine q_get (k := 2) (v := .int (m_3.1 2 i 2)) X hK rfl rfl (Nat.le_of_ble_eq_true rfl) inTX6 (gc (t := 2) (by decide) hi) kw_1_46 rfl rfl dX6_takeDeposit_11 ?_
  refine q_aload_n (j := 0) X dX6_takeDeposit_14 rfl rfl ?_
  refine q_get (k := 2) (v := .int (m_3.1 2 i 2)) X hK rfl rfl (Nat.le_of_ble_eq_true rfl) inTX6 (gc (t := 2) (by decide) hi) kw_1_46 rfl rfl dX6_takeDeposit_15 ?_
  refine q_iload_n (j := 1) X dX6_takeDeposit_18 rfl rfl ?_
  refine q_min X kw_4_40 kw_3_134 kw_1_11 kw_3_135 (Nat.le_of_ble_eq_true rfl) (Nat.le_of_ble_eq_true rfl) ⟨Nat.le_of_ble_eq_true rfl, Nat.le_of_ble_eq_true rfl⟩ dX6_takeDeposit_19 ?_
  refine q_isub X dX6_takeDeposit_22 ?_
  refine q_putI (k := 2) X ax hK rfl rfl (Nat.le_of_ble_eq_true rfl) inTX6 (gc (t := 2) (by decide) hi) tyX6 tyX6_ok nmX6 kw_1_46 rfl rfl (tyX6_ok 2 (Nat.le_of_ble_eq_true rfl)) rfl dX6_takeDeposit_23 ?_
  refine q_nmP (fun m_4 em_4 => ?_)
  have h := h m_4 em_4
  refine q_aload_n (j := 0) X dX6_takeDeposit_26 rfl rfl ?_
  refine q_aload_n (j := 0) X dX6_takeDeposit_27 rfl rfl ?_
  refine q_get (k := 3) (v := .int (m_4.1 2 i 3)) X hK rfl rfl (Nat.le_of_ble_eq_true rfl) inTX6 (gc (t := 2) (by decide) hi) kw_1_49 rfl rfl dX6_takeDeposit_28 ?_
  refine q_iload_n (j := 1) X dX6_takeDeposit_31 rfl rfl ?_
  refine q_iadd X dX6_takeDeposit_32 ?_
  refine q_putI (k := 3) X ax hK rfl rfl (Nat.le_of_ble_eq_true rfl) inTX6 (gc (t := 2) (by decide) hi) tyX6 tyX6_ok nmX6 kw_1_49 rfl rfl (tyX6_ok 3 (Nat.le_of_ble_eq_true rfl)) rfl dX6_takeDeposit_33 ?_
  refine q_nmP (fun m_5 em_5 => ?_)
  have h := h m_5 em_5
  exact hE _ _ _ dX6_takeDeposit_36 h
theorem dX1_payIn_0 : decode cX1_payIn 0 = .ok (.iload_n 1, 1) := by decide +kernel
theorem dX1_payIn_1 : decode cX1_payIn 1 = .ok (.iconst 1, 1) := by decide +kernel
theorem dX1_payIn_2 : decode cX1_payIn 2 = .ok (.sipush 9999, 3) := by decide +kernel
theorem dX1_payIn_5 : decode cX1_payIn 5 = .ok (.invokestatic 83, 3) := by decide +kernel
theorem dX1_payIn_8 : decode cX1_payIn 8 = .ok (.ifCond .ne 6, 3) := by decide +kernel
theorem dX1_payIn_11 : decode cX1_payIn 11 = .ok (.bipush (-2), 2) := by decide +kernel
theorem dX1_payIn_13 : decode cX1_payIn 13 = .ok (.ireturn, 1) := by decide +kernel
theorem dX1_payIn_14 : decode cX1_payIn 14 = .ok (.aload_n 0, 1) := by decide +kernel
theorem dX1_payIn_15 : decode cX1_payIn 15 = .ok (.getfield 9, 3) := by decide +kernel
theorem dX1_payIn_18 : decode cX1_payIn 18 = .ok (.getfield 94, 3) := by decide +kernel
theorem dX1_payIn_21 : decode cX1_payIn 21 = .ok (.iload_n 1, 1) := by decide +kernel
theorem dX1_payIn_22 : decode cX1_payIn 22 = .ok (.invokevirtual 218, 3) := by decide +kernel
theorem dX1_payIn_25 : decode cX1_payIn 25 = .ok (.ldc 221, 2) := by decide +kernel
theorem dX1_payIn_27 : decode cX1_payIn 27 = .ok (.if_icmp .le 6, 3) := by decide +kernel
theorem dX1_payIn_30 : decode cX1_payIn 30 = .ok (.bipush (-3), 2) := by decide +kernel
theorem dX1_payIn_32 : decode cX1_payIn 32 = .ok (.ireturn, 1) := by decide +kernel
theorem dX1_payIn_33 : decode cX1_payIn 33 = .ok (.aload_n 0, 1) := by decide +kernel
theorem dX1_payIn_34 : decode cX1_payIn 34 = .ok (.getfield 15, 3) := by decide +kernel
theorem dX1_payIn_37 : decode cX1_payIn 37 = .ok (.aload_n 0, 1) := by decide +kernel
theorem dX1_payIn_38 : decode cX1_payIn 38 = .ok (.getfield 9, 3) := by decide +kernel
theorem dX1_payIn_41 : decode cX1_payIn 41 = .ok (.invokevirtual 29, 3) := by decide +kernel
theorem dX1_payIn_44 : decode cX1_payIn 44 = .ok (.aload_n 0, 1) := by decide +kernel
theorem dX1_payIn_45 : decode cX1_payIn 45 = .ok (.getfield 9, 3) := by decide +kernel
theorem dX1_payIn_48 : decode cX1_payIn 48 = .ok (.getfield 94, 3) := by decide +kernel
theorem dX1_payIn_51 : decode cX1_payIn 51 = .ok (.iload_n 1, 1) := by decide +kernel
theorem dX1_payIn_52 : decode cX1_payIn 52 = .ok (.invokevirtual 222, 3) := by decide +kernel
theorem dX1_payIn_55 : decode cX1_payIn 55 = .ok (.aload_n 0, 1) := by decide +kernel
theorem dX1_payIn_56 : decode cX1_payIn 56 = .ok (.getfield 9, 3) := by decide +kernel
theorem dX1_payIn_59 : decode cX1_payIn 59 = .ok (.getfield 94, 3) := by decide +kernel
theorem dX1_payIn_62 : decode cX1_payIn 62 = .ok (.getfield 225, 3) := by decide +kernel
theorem dX1_payIn_65 : decode cX1_payIn 65 = .ok (.ireturn, 1) := by decide +kernel
def w_X1_payIn (p0 : Int32) (mm : Mm) (Q9 : Int32 → Mm → Prop) : Prop :=
  w_X9_isWithin p0 1 9999 mm (fun (r_1 : Int32) => ((¬ r_1 = 0 → w_X6_accountAfter 1 p0 mm (fun (r_4 : Int32) => ((r_4 ≤ 99999 → w_X3_save 1 mm (fun (m_8 : Mm) => w_X6_takeDeposit 1 p0 m_8 (fun (m_10 : Mm) => Q9 (m_10.1 2 1 1) m_10))) ∧
  (¬ r_4 ≤ 99999 → Q9 (-3) mm)))) ∧
  (r_1 = 0 → Q9 (-2) mm)))
def rm_X1_payIn : Room := { frames := 3, cells := 0, slots := 0, locals := 64 }
theorem hy_X1_payIn : yX1_payIn.cls = RX1 ∧ yX1_payIn.cls ≠ "java/lang/invoke/MethodHandle" ∧ yX1_payIn.cls ≠ "java/lang/invoke/VarHandle" ∧ (parseMethodDescriptor yX1_payIn.desc).map (fun d => d.parameters.length) = some 1 := by decide +kernel
set_option maxRecDepth 100000 in
set_option maxHeartbeats 4000000 in
theorem c_X1_payIn {l : Launch} {D : va_G} {cA : Nat → ClassId} {ad : Nat → Nat → Nat} {A : Nat → Prop} (ax : Ax ad GC A) (p0 : Int32) (mm : Mm) (Q9 : Int32 → Mm → Prop) (h : w_X1_payIn p0 mm Q9) : Met l yX1_payIn (.code yX1_payIn cX1_payIn 2 (some .int) :: TG) rm_X1_payIn (PcM TT D cA ad false GC (ZC ad A) [.ref (ad 16 1), .int p0] mm) (AnsI TT D cA ad false GC A Q9) 0 0 A := by
  have zo := ZC_ok ad A
  unfold w_X1_payIn at h
  refine enterI pl_X1 ⟨rfl, rfl⟩ rfl (Nat.le_of_ble_eq_true rfl) ?_
  intro p e s m args below meth c QQ X hK hZ hnm hE
  refine q_iload_n (j := 1) X dX1_payIn_0 rfl rfl ?_
  refine q_iconst (v := 1) X dX1_payIn_1 (by decide) ?_
  refine q_sipush (v := 9999) X dX1_payIn_2 (by decide) ?_
  refine q_calli (q_runSN X hK hZ zo [.int p0, .int 1, .int 9999] [] rfl rfl (Nat.le_of_ble_eq_true rfl) dX1_payIn_5 ⟨Nat.le_of_ble_eq_true rfl, Nat.le_of_ble_eq_true rfl⟩ (c_X9_isWithin ax p0 1 9999 mm _ h) rfl rfl (List.mem_of_getElem? (i := 25) rfl) kw_1_1 kw_2_158 kw_2_157 hy_X9_isWithin.2 ⟨Nat.le_of_ble_eq_true rfl, Nat.le_of_ble_eq_true rfl⟩) (fun r_1 m_2 h => ?_)
  obtain ⟨h, hm⟩ := h
  subst hm
  refine q_if_ne (tgt := 14) X dX1_payIn_8 (by decide) (fun c_3 => ?_) (fun c_3 => ?_)
  · have h := h.1 c_3
    refine q_aload_n (j := 0) X dX1_payIn_14 rfl rfl ?_
    refine q_get (k := 0) (v := .ref (ad 1 1)) X hK rfl rfl (Nat.le_of_ble_eq_true rfl) inTX1 (gc (t := 16) (by decide) (ok1 (t := 16) (Nat.le_of_ble_eq_true rfl))) kw_2_75 rfl (rv_nn (a := ad 1) (r := 1) (ok1 (t := 1) (Nat.le_of_ble_eq_true rfl)).1) dX1_payIn_15 ?_
    refine q_getN (k := 5) (v := .ref (ad 2 1)) X hK rfl rfl (Nat.le_of_ble_eq_true rfl) inTX8 (gc (t := 1) (by decide) (ok1 (t := 1) (Nat.le_of_ble_eq_true rfl))) (List.mem_of_getElem? (i := 73) rfl) rfl (rv_nn (a := ad 2) (r := 1) (ok1 (t := 2) (Nat.le_of_ble_eq_true rfl)).1) dX1_payIn_18 ?_
    refine q_iload_n (j := 1) X dX1_payIn_21 rfl rfl ?_
    refine q_calli (q_runVN X hK hZ zo (gc (t := 2) (by decide) (ok1 (t := 2) (Nat.le_of_ble_eq_true rfl))) rfl rfl [.int p0] [] rfl rfl (Nat.le_of_ble_eq_true rfl) dX1_payIn_22 ⟨Nat.le_of_ble_eq_true rfl, Nat.le_of_ble_eq_true rfl⟩ (c_X6_accountAfter ax 1 (ok1 (t := 2) (Nat.le_of_ble_eq_true rfl)) p0 mm _ h) rfl rfl (List.mem_of_getElem? (i := 61) rfl) kw_1_3 kw_4_88 kw_4_87 ks_51 hy_X6_accountAfter.2 ⟨Nat.le_of_ble_eq_true rfl, Nat.le_of_ble_eq_true rfl⟩) (fun r_4 m_5 h => ?_)
    obtain ⟨h, hm⟩ := h
    subst hm
    refine q_ldc (v := 99999) X kw_4_89 dX1_payIn_25 ?_
    refine q_icmp_le (tgt := 33) X dX1_payIn_27 (by decide) (fun c_6 => ?_) (fun c_6 => ?_)
    · have h := h.1 c_6
      refine q_aload_n (j := 0) X dX1_payIn_33 rfl rfl ?_
      refine q_get (k := 1) (v := .ref (ad 12 1)) X hK rfl rfl (Nat.le_of_ble_eq_true rfl) inTX1 (gc (t := 16) (by decide) (ok1 (t := 16) (Nat.le_of_ble_eq_true rfl))) kw_2_76 rfl (rv_nn (a := ad 12) (r := 1) (ok1 (t := 12) (Nat.le_of_ble_eq_true rfl)).1) dX1_payIn_34 ?_
      refine q_aload_n (j := 0) X dX1_payIn_37 rfl rfl ?_
      refine q_get (k := 0) (v := .ref (ad 1 1)) X hK rfl rfl (Nat.le_of_ble_eq_true rfl) inTX1 (gc (t := 16) (by decide) (ok1 (t := 16) (Nat.le_of_ble_eq_true rfl))) kw_2_75 rfl (rv_nn (a := ad 1) (r := 1) (ok1 (t := 1) (Nat.le_of_ble_eq_true rfl)).1) dX1_payIn_38 ?_
      refine q_callv (q_runVN X hK hZ zo (gc (t := 12) (by decide) (ok1 (t := 12) (Nat.le_of_ble_eq_true rfl))) rfl rfl [.ref (ad 1 1)] [] rfl rfl (Nat.le_of_ble_eq_true rfl) dX1_payIn_41 ⟨Nat.le_of_ble_eq_true rfl, Nat.le_of_ble_eq_true rfl⟩ (c_X3_save ax 1 (ok1 (t := 1) (Nat.le_of_ble_eq_true rfl)) mm _ h) rfl rfl (List.mem_of_getElem? (i := 15) rfl) kw_1_8 kw_2_194 kw_2_193 ks_9 hy_X3_save.2 ⟨Nat.le_of_ble_eq_true rfl, Nat.le_of_ble_eq_true rfl⟩) (fun m_8 h => ?_)
      refine q_aload_n (j := 0) X dX1_payIn_44 rfl rfl ?_
      refine q_get (k := 0) (v := .ref (ad 1 1)) X hK rfl rfl (Nat.le_of_ble_eq_true rfl) inTX1 (gc (t := 16) (by decide) (ok1 (t := 16) (Nat.le_of_ble_eq_true rfl))) kw_2_75 rfl (rv_nn (a := ad 1) (r := 1) (ok1 (t := 1) (Nat.le_of_ble_eq_true rfl)).1) dX1_payIn_45 ?_
      refine q_getN (k := 5) (v := .ref (ad 2 1)) X hK rfl rfl (Nat.le_of_ble_eq_true rfl) inTX8 (gc (t := 1) (by decide) (ok1 (t := 1) (Nat.le_of_ble_eq_true rfl))) (List.mem_of_getElem? (i := 73) rfl) rfl (rv_nn (a := ad 2) (r := 1) (ok1 (t := 2) (Nat.le_of_ble_eq_true rfl)).1) dX1_payIn_48 ?_
      refine q_iload_n (j := 1) X dX1_payIn_51 rfl rfl ?_
      refine q_callv (q_runVN X hK hZ zo (gc (t := 2) (by decide) (ok1 (t := 2) (Nat.le_of_ble_eq_true rfl))) rfl rfl [.int p0] [] rfl rfl (Nat.le_of_ble_eq_true rfl) dX1_payIn_52 ⟨Nat.le_of_ble_eq_true rfl, Nat.le_of_ble_eq_true rfl⟩ (c_X6_takeDeposit ax 1 (ok1 (t := 2) (Nat.le_of_ble_eq_true rfl)) p0 m_8 _ h) rfl rfl (List.mem_of_getElem? (i := 62) rfl) kw_1_3 kw_4_93 kw_4_92 ks_52 hy_X6_takeDeposit.2 ⟨Nat.le_of_ble_eq_true rfl, Nat.le_of_ble_eq_true rfl⟩) (fun m_10 h => ?_)
      refine q_aload_n (j := 0) X dX1_payIn_55 rfl rfl ?_
      refine q_get (k := 0) (v := .ref (ad 1 1)) X hK rfl rfl (Nat.le_of_ble_eq_true rfl) inTX1 (gc (t := 16) (by decide) (ok1 (t := 16) (Nat.le_of_ble_eq_true rfl))) kw_2_75 rfl (rv_nn (a := ad 1) (r := 1) (ok1 (t := 1) (Nat.le_of_ble_eq_true rfl)).1) dX1_payIn_56 ?_
      refine q_getN (k := 5) (v := .ref (ad 2 1)) X hK rfl rfl (Nat.le_of_ble_eq_true rfl) inTX8 (gc (t := 1) (by decide) (ok1 (t := 1) (Nat.le_of_ble_eq_true rfl))) (List.mem_of_getElem? (i := 73) rfl) rfl (rv_nn (a := ad 2) (r := 1) (ok1 (t := 2) (Nat.le_of_ble_eq_true rfl)).1) dX1_payIn_59 ?_
      refine q_getN (k := 1) (v := .int (m_10.1 2 1 1)) X hK rfl rfl (Nat.le_of_ble_eq_true rfl) inTX6 (gc (t := 2) (by decide) (ok1 (t := 2) (Nat.le_of_ble_eq_true rfl))) (List.mem_of_getElem? (i := 3) rfl) rfl rfl dX1_payIn_62 ?_
      exact hE _ _ _ _ dX1_payIn_65 h
    · have h := h.2 c_6
      refine q_bipush (v := (-3)) X dX1_payIn_30 (by decide) ?_
      exact hE _ _ _ _ dX1_payIn_32 h
  · have h := h.2 c_3
    refine q_bipush (v := (-2)) X dX1_payIn_11 (by decide) ?_
    exact hE _ _ _ _ dX1_payIn_13 h
theorem dX1_changeBond_0 : decode cX1_changeBond 0 = .ok (.iload_n 1, 1) := by decide +kernel
theorem dX1_changeBond_1 : decode cX1_changeBond 1 = .ok (.iconst 0, 1) := by decide +kernel
theorem dX1_changeBond_2 : decode cX1_changeBond 2 = .ok (.ldc 228, 2) := by decide +kernel
theorem dX1_changeBond_4 : decode cX1_changeBond 4 = .ok (.invokestatic 83, 3) := by decide +kernel
theorem dX1_changeBond_7 : decode cX1_changeBond 7 = .ok (.ifCond .ne 6, 3) := by decide +kernel
theorem dX1_changeBond_10 : decode cX1_changeBond 10 = .ok (.bipush (-2), 2) := by decide +kernel
theorem dX1_changeBond_12 : decode cX1_changeBond 12 = .ok (.ireturn, 1) := by decide +kernel
theorem dX1_changeBond_13 : decode cX1_changeBond 13 = .ok (.iload_n 1, 1) := by decide +kernel
theorem dX1_changeBond_14 : decode cX1_changeBond 14 = .ok (.aload_n 0, 1) := by decide +kernel
theorem dX1_changeBond_15 : decode cX1_changeBond 15 = .ok (.getfield 9, 3) := by decide +kernel
theorem dX1_changeBond_18 : decode cX1_changeBond 18 = .ok (.invokevirtual 229, 3) := by decide +kernel
theorem dX1_changeBond_21 : decode cX1_changeBond 21 = .ok (.if_icmp .ge 6, 3) := by decide +kernel
theorem dX1_changeBond_24 : decode cX1_changeBond 24 = .ok (.bipush (-3), 2) := by decide +kernel
theorem dX1_changeBond_26 : decode cX1_changeBond 26 = .ok (.ireturn, 1) := by decide +kernel
theorem dX1_changeBond_27 : decode cX1_changeBond 27 = .ok (.aload_n 0, 1) := by decide +kernel
theorem dX1_changeBond_28 : decode cX1_changeBond 28 = .ok (.getfield 15, 3) := by decide +kernel
theorem dX1_changeBond_31 : decode cX1_changeBond 31 = .ok (.aload_n 0, 1) := by decide +kernel
theorem dX1_changeBond_32 : decode cX1_changeBond 32 = .ok (.getfield 9, 3) := by decide +kernel
theorem dX1_changeBond_35 : decode cX1_changeBond 35 = .ok (.invokevirtual 29, 3) := by decide +kernel
theorem dX1_changeBond_38 : decode cX1_changeBond 38 = .ok (.aload_n 0, 1) := by decide +kernel
theorem dX1_changeBond_39 : decode cX1_changeBond 39 = .ok (.getfield 9, 3) := by decide +kernel
theorem dX1_changeBond_42 : decode cX1_changeBond 42 = .ok (.getfield 94, 3) := by decide +kernel
theorem dX1_changeBond_45 : decode cX1_changeBond 45 = .ok (.getfield 233, 3) := by decide +kernel
theorem dX1_changeBond_48 : decode cX1_changeBond 48 = .ok (.istore_n 2, 1) := by decide +kernel
theorem dX1_changeBond_49 : decode cX1_changeBond 49 = .ok (.aload_n 0, 1) := by decide +kernel
theorem dX1_changeBond_50 : decode cX1_changeBond 50 = .ok (.getfield 9, 3) := by decide +kernel
theorem dX1_changeBond_53 : decode cX1_changeBond 53 = .ok (.getfield 94, 3) := by decide +kernel
theorem dX1_changeBond_56 : decode cX1_changeBond 56 = .ok (.iload_n 1, 1) := by decide +kernel
theorem dX1_changeBond_57 : decode cX1_changeBond 57 = .ok (.putfield 233, 3) := by decide +kernel
theorem dX1_changeBond_60 : decode cX1_changeBond 60 = .ok (.iload_n 2, 1) := by decide +kernel
theorem dX1_changeBond_61 : decode cX1_changeBond 61 = .ok (.ireturn, 1) := by decide +kernel
def w_X1_changeBond (p0 : Int32) (mm : Mm) (Q9 : Int32 → Mm → Prop) : Prop :=
  w_X9_isWithin p0 0 50000 mm (fun (r_1 : Int32) => ((¬ r_1 = 0 → w_X8_stake 1 mm (fun (r_4 : Int32) => ((r_4 ≤ p0 → w_X3_save 1 mm (fun (m_8 : Mm) => ∀ x_9 : Int32, x_9 = (m_8.1 2 1 0) → (∀ m_10 : Mm, m_10 = sI m_8 2 1 0 p0 → (Q9 x_9 m_10)))) ∧
  (¬ r_4 ≤ p0 → Q9 (-3) mm)))) ∧
  (r_1 = 0 → Q9 (-2) mm)))
def rm_X1_changeBond : Room := { frames := 3, cells := 0, slots := 0, locals := 68 }
theorem hy_X1_changeBond : yX1_changeBond.cls = RX1 ∧ yX1_changeBond.cls ≠ "java/lang/invoke/MethodHandle" ∧ yX1_changeBond.cls ≠ "java/lang/invoke/VarHandle" ∧ (parseMethodDescriptor yX1_changeBond.desc).map (fun d => d.parameters.length) = some 1 := by decide +kernel
set_option maxRecDepth 100000 in
set_option maxHeartbeats 4000000 in
theorem c_X1_changeBond {l : Launch} {D : va_G} {cA : Nat → ClassId} {ad : Nat → Nat → Nat} {A : Nat → Prop} (ax : Ax ad GC A) (p0 : Int32) (mm : Mm) (Q9 : Int32 → Mm → Prop) (h : w_X1_changeBond p0 mm Q9) : Met l yX1_changeBond (.code yX1_changeBond cX1_changeBond 3 (some .int) :: TG) rm_X1_changeBond (PcM TT D cA ad false GC (ZC ad A) [.ref (ad 16 1), .int p0] mm) (AnsI TT D cA ad false GC A Q9) 0 0 A := by
  have zo := ZC_ok ad A
  unfold w_X1_changeBond at h
  refine enterI pl_X1 ⟨rfl, rfl⟩ rfl (Nat.le_of_ble_eq_true rfl) ?_
  intro p e s m args below meth c QQ X hK hZ hnm hE
  refine q_iload_n (j := 1) X dX1_changeBond_0 rfl rfl ?_
  refine q_iconst (v := 0) X dX1_changeBond_1 (by decide) ?_
  refine q_ldc (v := 50000) X kw_4_106 dX1_changeBond_2 ?_
  refine q_calli (q_runSN X hK hZ zo [.int p0, .int 0, .int 50000] [] rfl rfl (Nat.le_of_ble_eq_true rfl) dX1_changeBond_4 ⟨Nat.le_of_ble_eq_true rfl, Nat.le_of_ble_eq_true rfl⟩ (c_X9_isWithin ax p0 0 50000 mm _ h) rfl rfl (List.mem_of_getElem? (i := 25) rfl) kw_1_1 kw_2_158 kw_2_157 hy_X9_isWithin.2 ⟨Nat.le_of_ble_eq_true rfl, Nat.le_of_ble_eq_true rfl⟩) (fun r_1 m_2 h => ?_)
  obtain ⟨h, hm⟩ := h
  subst hm
  refine q_if_ne (tgt := 13) X dX1_changeBond_7 (by decide) (fun c_3 => ?_) (fun c_3 => ?_)
  · have h := h.1 c_3
    refine q_iload_n (j := 1) X dX1_changeBond_13 rfl rfl ?_
    refine q_aload_n (j := 0) X dX1_changeBond_14 rfl rfl ?_
    refine q_get (k := 0) (v := .ref (ad 1 1)) X hK rfl rfl (Nat.le_of_ble_eq_true rfl) inTX1 (gc (t := 16) (by decide) (ok1 (t := 16) (Nat.le_of_ble_eq_true rfl))) kw_2_75 rfl (rv_nn (a := ad 1) (r := 1) (ok1 (t := 1) (Nat.le_of_ble_eq_true rfl)).1) dX1_changeBond_15 ?_
    refine q_calli (q_runVN X hK hZ zo (gc (t := 1) (by decide) (ok1 (t := 1) (Nat.le_of_ble_eq_true rfl))) rfl rfl [] [.int p0] rfl rfl (Nat.le_of_ble_eq_true rfl) dX1_changeBond_18 ⟨Nat.le_of_ble_eq_true rfl, Nat.le_of_ble_eq_true rfl⟩ (c_X8_stake ax 1 (ok1 (t := 1) (Nat.le_of_ble_eq_true rfl)) mm _ h) rfl rfl (List.mem_of_getElem? (i := 64) rfl) kw_1_2 kw_2_178 kw_2_177 ks_5 hy_X8_stake.2 ⟨Nat.le_of_ble_eq_true rfl, Nat.le_of_ble_eq_true rfl⟩) (fun r_4 m_5 h => ?_)
    obtain ⟨h, hm⟩ := h
    subst hm
    refine q_icmp_ge (tgt := 27) X dX1_changeBond_21 (by decide) (fun c_6 => ?_) (fun c_6 => ?_)
    · have h := h.1 c_6
      refine q_aload_n (j := 0) X dX1_changeBond_27 rfl rfl ?_
      refine q_get (k := 1) (v := .ref (ad 12 1)) X hK rfl rfl (Nat.le_of_ble_eq_true rfl) inTX1 (gc (t := 16) (by decide) (ok1 (t := 16) (Nat.le_of_ble_eq_true rfl))) kw_2_76 rfl (rv_nn (a := ad 12) (r := 1) (ok1 (t := 12) (Nat.le_of_ble_eq_true rfl)).1) dX1_changeBond_28 ?_
      refine q_aload_n (j := 0) X dX1_changeBond_31 rfl rfl ?_
      refine q_get (k := 0) (v := .ref (ad 1 1)) X hK rfl rfl (Nat.le_of_ble_eq_true rfl) inTX1 (gc (t := 16) (by decide) (ok1 (t := 16) (Nat.le_of_ble_eq_true rfl))) kw_2_75 rfl (rv_nn (a := ad 1) (r := 1) (ok1 (t := 1) (Nat.le_of_ble_eq_true rfl)).1) dX1_changeBond_32 ?_
      refine q_callv (q_runVN X hK hZ zo (gc (t := 12) (by decide) (ok1 (t := 12) (Nat.le_of_ble_eq_true rfl))) rfl rfl [.ref (ad 1 1)] [] rfl rfl (Nat.le_of_ble_eq_true rfl) dX1_changeBond_35 ⟨Nat.le_of_ble_eq_true rfl, Nat.le_of_ble_eq_true rfl⟩ (c_X3_save ax 1 (ok1 (t := 1) (Nat.le_of_ble_eq_true rfl)) mm _ h) rfl rfl (List.mem_of_getElem? (i := 15) rfl) kw_1_8 kw_2_194 kw_2_193 ks_9 hy_X3_save.2 ⟨Nat.le_of_ble_eq_true rfl, Nat.le_of_ble_eq_true rfl⟩) (fun m_8 h => ?_)
      refine q_aload_n (j := 0) X dX1_changeBond_38 rfl rfl ?_
      refine q_get (k := 0) (v := .ref (ad 1 1)) X hK rfl rfl (Nat.le_of_ble_eq_true rfl) inTX1 (gc (t := 16) (by decide) (ok1 (t := 16) (Nat.le_of_ble_eq_true rfl))) kw_2_75 rfl (rv_nn (a := ad 1) (r := 1) (ok1 (t := 1) (Nat.le_of_ble_eq_true rfl)).1) dX1_changeBond_39 ?_
      refine q_getN (k := 5) (v := .ref (ad 2 1)) X hK rfl rfl (Nat.le_of_ble_eq_true rfl) inTX8 (gc (t := 1) (by decide) (ok1 (t := 1) (Nat.le_of_ble_eq_true rfl))) (List.mem_of_getElem? (i := 73) rfl) rfl (rv_nn (a := ad 2) (r := 1) (ok1 (t := 2) (Nat.le_of_ble_eq_true rfl)).1) dX1_changeBond_42 ?_
      refine q_getN (k := 0) (v := .int (m_8.1 2 1 0)) X hK rfl rfl (Nat.le_of_ble_eq_true rfl) inTX6 (gc (t := 2) (by decide) (ok1 (t := 2) (Nat.le_of_ble_eq_true rfl))) (List.mem_of_getElem? (i := 0) rfl) rfl rfl dX1_changeBond_45 ?_
      refine q_topi (fun x_9 ex_9 => ?_)
      have h := h x_9 ex_9
      refine q_istore_n (lv' := [(2, .int x_9), (0, .ref (ad 16 1)), (1, .int p0)]) X dX1_changeBond_48 rfl (by decide) rfl ?_
      refine q_aload_n (j := 1) X dX1_changeBond_49 rfl rfl ?_
      refine q_get (k := 0) (v := .ref (ad 1 1)) X hK rfl rfl (Nat.le_of_ble_eq_true rfl) inTX1 (gc (t := 16) (by decide) (ok1 (t := 16) (Nat.le_of_ble_eq_true rfl))) kw_2_75 rfl (rv_nn (a := ad 1) (r := 1) (ok1 (t := 1) (Nat.le_of_ble_eq_true rfl)).1) dX1_changeBond_50 ?_
      refine q_getN (k := 5) (v := .ref (ad 2 1)) X hK rfl rfl (Nat.le_of_ble_eq_true rfl) inTX8 (gc (t := 1) (by decide) (ok1 (t := 1) (Nat.le_of_ble_eq_true rfl))) (List.mem_of_getElem? (i := 73) rfl) rfl (rv_nn (a := ad 2) (r := 1) (ok1 (t := 2) (Nat.le_of_ble_eq_true rfl)).1) dX1_changeBond_53 ?_
      refine q_iload_n (j := 2) X dX1_changeBond_56 rfl rfl ?_
      refine q_putIN (k := 0) X ax hK rfl rfl (Nat.le_of_ble_eq_true rfl) inTX6 (gc (t := 2) (by decide) (ok1 (t := 2) (Nat.le_of_ble_eq_true rfl))) tyX6 tyX6_ok nmX6 (List.mem_of_getElem? (i := 0) rfl) rfl rfl (tyX6_ok 0 (Nat.le_of_ble_eq_true rfl)) rfl dX1_changeBond_57 ?_
      refine q_nmP (fun m_10 em_10 => ?_)
      have h := h m_10 em_10
      refine q_iload_n (j := 0) X dX1_changeBond_60 rfl rfl ?_
      exact hE _ _ _ _ dX1_changeBond_61 h
    · have h := h.2 c_6
      refine q_bipush (v := (-3)) X dX1_changeBond_24 (by decide) ?_
      exact hE _ _ _ _ dX1_changeBond_26 h
  · have h := h.2 c_3
    refine q_bipush (v := (-2)) X dX1_changeBond_10 (by decide) ?_
    exact hE _ _ _ _ dX1_changeBond_12 h
theorem dX1_changeRateByValue_0 : decode cX1_changeRateByValue 0 = .ok (.iload_n 1, 1) := by decide +kernel
theorem dX1_changeRateByValue_1 : decode cX1_changeRateByValue 1 = .ok (.iconst 0, 1) := by decide +kernel
theorem dX1_changeRateByValue_2 : decode cX1_changeRateByValue 2 = .ok (.iconst 5, 1) := by decide +kernel
theorem dX1_changeRateByValue_3 : decode cX1_changeRateByValue 3 = .ok (.invokestatic 83, 3) := by decide +kernel
theorem dX1_changeRateByValue_6 : decode cX1_changeRateByValue 6 = .ok (.ifCond .eq 13, 3) := by decide +kernel
theorem dX1_changeRateByValue_9 : decode cX1_changeRateByValue 9 = .ok (.iload_n 2, 1) := by decide +kernel
theorem dX1_changeRateByValue_10 : decode cX1_changeRateByValue 10 = .ok (.iconst 0, 1) := by decide +kernel
theorem dX1_changeRateByValue_11 : decode cX1_changeRateByValue 11 = .ok (.bipush 60, 2) := by decide +kernel
theorem dX1_changeRateByValue_13 : decode cX1_changeRateByValue 13 = .ok (.invokestatic 83, 3) := by decide +kernel
theorem dX1_changeRateByValue_16 : decode cX1_changeRateByValue 16 = .ok (.ifCond .ne 6, 3) := by decide +kernel
theorem dX1_changeRateByValue_19 : decode cX1_changeRateByValue 19 = .ok (.bipush (-2), 2) := by decide +kernel
theorem dX1_changeRateByValue_21 : decode cX1_changeRateByValue 21 = .ok (.ireturn, 1) := by decide +kernel
theorem dX1_changeRateByValue_22 : decode cX1_changeRateByValue 22 = .ok (.aload_n 0, 1) := by decide +kernel
theorem dX1_changeRateByValue_23 : decode cX1_changeRateByValue 23 = .ok (.getfield 15, 3) := by decide +kernel
theorem dX1_changeRateByValue_26 : decode cX1_changeRateByValue 26 = .ok (.aload_n 0, 1) := by decide +kernel
theorem dX1_changeRateByValue_27 : decode cX1_changeRateByValue 27 = .ok (.getfield 9, 3) := by decide +kernel
theorem dX1_changeRateByValue_30 : decode cX1_changeRateByValue 30 = .ok (.invokevirtual 29, 3) := by decide +kernel
theorem dX1_changeRateByValue_33 : decode cX1_changeRateByValue 33 = .ok (.aload_n 0, 1) := by decide +kernel
theorem dX1_changeRateByValue_34 : decode cX1_changeRateByValue 34 = .ok (.getfield 9, 3) := by decide +kernel
theorem dX1_changeRateByValue_37 : decode cX1_changeRateByValue 37 = .ok (.getfield 67, 3) := by decide +kernel
theorem dX1_changeRateByValue_40 : decode cX1_changeRateByValue 40 = .ok (.iload_n 1, 1) := by decide +kernel
theorem dX1_changeRateByValue_41 : decode cX1_changeRateByValue 41 = .ok (.aaload, 1) := by decide +kernel
theorem dX1_changeRateByValue_42 : decode cX1_changeRateByValue 42 = .ok (.getfield 236, 3) := by decide +kernel
theorem dX1_changeRateByValue_45 : decode cX1_changeRateByValue 45 = .ok (.istore_n 3, 1) := by decide +kernel
theorem dX1_changeRateByValue_46 : decode cX1_changeRateByValue 46 = .ok (.aload_n 0, 1) := by decide +kernel
theorem dX1_changeRateByValue_47 : decode cX1_changeRateByValue 47 = .ok (.getfield 9, 3) := by decide +kernel
theorem dX1_changeRateByValue_50 : decode cX1_changeRateByValue 50 = .ok (.getfield 67, 3) := by decide +kernel
theorem dX1_changeRateByValue_53 : decode cX1_changeRateByValue 53 = .ok (.iload_n 1, 1) := by decide +kernel
theorem dX1_changeRateByValue_54 : decode cX1_changeRateByValue 54 = .ok (.aaload, 1) := by decide +kernel
theorem dX1_changeRateByValue_55 : decode cX1_changeRateByValue 55 = .ok (.iload_n 2, 1) := by decide +kernel
theorem dX1_changeRateByValue_56 : decode cX1_changeRateByValue 56 = .ok (.putfield 236, 3) := by decide +kernel
theorem dX1_changeRateByValue_59 : decode cX1_changeRateByValue 59 = .ok (.iload_n 3, 1) := by decide +kernel
theorem dX1_changeRateByValue_60 : decode cX1_changeRateByValue 60 = .ok (.ireturn, 1) := by decide +kernel
def w_X1_changeRateByValue (p0 : Int32) (p1 : Int32) (mm : Mm) (Q9 : Int32 → Mm → Prop) : Prop :=
  w_X9_isWithin p0 0 5 mm (fun (r_1 : Int32) => ((r_1 = 0 → Q9 (-2) mm) ∧
  (¬ r_1 = 0 → w_X9_isWithin p1 0 60 mm (fun (r_4 : Int32) => ((¬ r_4 = 0 → w_X3_save 1 mm (fun (m_8 : Mm) => vp_in p0 6 ∧ (∀ x_10 : Int32, x_10 = (m_8.1 6 (6 * (1 - 1) + p0.toNatClampNeg + 1) 0) → (∀ m_11 : Mm, m_11 = sI m_8 6 (6 * (1 - 1) + p0.toNatClampNeg + 1) 0 p1 → (Q9 x_10 m_11))))) ∧
  (r_4 = 0 → Q9 (-2) mm))))))
def rm_X1_changeRateByValue : Room := { frames := 3, cells := 0, slots := 0, locals := 64 }
theorem hy_X1_changeRateByValue : yX1_changeRateByValue.cls = RX1 ∧ yX1_changeRateByValue.cls ≠ "java/lang/invoke/MethodHandle" ∧ yX1_changeRateByValue.cls ≠ "java/lang/invoke/VarHandle" ∧ (parseMethodDescriptor yX1_changeRateByValue.desc).map (fun d => d.parameters.length) = some 2 := by decide +kernel
set_option maxRecDepth 100000 in
set_option maxHeartbeats 4000000 in
theorem c_X1_changeRateByValue {l : Launch} {D : va_G} {cA : Nat → ClassId} {ad : Nat → Nat → Nat} {A : Nat → Prop} (ax : Ax ad GC A) (p0 : Int32) (p1 : Int32) (mm : Mm) (Q9 : Int32 → Mm → Prop) (h : w_X1_changeRateByValue p0 p1 mm Q9) : Met l yX1_changeRateByValue (.code yX1_changeRateByValue cX1_changeRateByValue 4 (some .int) :: TG) rm_X1_changeRateByValue (PcM TT D cA ad false GC (ZC ad A) [.ref (ad 16 1), .int p0, .int p1] mm) (AnsI TT D cA ad false GC A Q9) 0 0 A := by
  have zo := ZC_ok ad A
  unfold w_X1_changeRateByValue at h
  refine enterI pl_X1 ⟨rfl, rfl⟩ rfl (Nat.le_of_ble_eq_true rfl) ?_
  intro p e s m args below meth c QQ X hK hZ hnm hE
  refine q_iload_n (j := 1) X dX1_changeRateByValue_0 rfl rfl ?_
  refine q_iconst (v := 0) X dX1_changeRateByValue_1 (by decide) ?_
  refine q_iconst (v := 5) X dX1_changeRateByValue_2 (by decide) ?_
  refine q_calli (q_runSN X hK hZ zo [.int p0, .int 0, .int 5] [] rfl rfl (Nat.le_of_ble_eq_true rfl) dX1_changeRateByValue_3 ⟨Nat.le_of_ble_eq_true rfl, Nat.le_of_ble_eq_true rfl⟩ (c_X9_isWithin ax p0 0 5 mm _ h) rfl rfl (List.mem_of_getElem? (i := 25) rfl) kw_1_1 kw_2_158 kw_2_157 hy_X9_isWithin.2 ⟨Nat.le_of_ble_eq_true rfl, Nat.le_of_ble_eq_true rfl⟩) (fun r_1 m_2 h => ?_)
  obtain ⟨h, hm⟩ := h
  subst hm
  refine q_if_eq (tgt := 19) X dX1_changeRateByValue_6 (by decide) (fun c_3 => ?_) (fun c_3 => ?_)
  · have h := h.1 c_3
    refine q_bipush (v := (-2)) X dX1_changeRateByValue_19 (by decide) ?_
    exact hE _ _ _ _ dX1_changeRateByValue_21 h
  · have h := h.2 c_3
    refine q_iload_n (j := 2) X dX1_changeRateByValue_9 rfl rfl ?_
    refine q_iconst (v := 0) X dX1_changeRateByValue_10 (by decide) ?_
    refine q_bipush (v := 60) X dX1_changeRateByValue_11 (by decide) ?_
    refine q_calli (q_runSN X hK hZ zo [.int p1, .int 0, .int 60] [] rfl rfl (Nat.le_of_ble_eq_true rfl) dX1_changeRateByValue_13 ⟨Nat.le_of_ble_eq_true rfl, Nat.le_of_ble_eq_true rfl⟩ (c_X9_isWithin ax p1 0 60 mm _ h) rfl rfl (List.mem_of_getElem? (i := 25) rfl) kw_1_1 kw_2_158 kw_2_157 hy_X9_isWithin.2 ⟨Nat.le_of_ble_eq_true rfl, Nat.le_of_ble_eq_true rfl⟩) (fun r_4 m_5 h => ?_)
    obtain ⟨h, hm⟩ := h
    subst hm
    refine q_if_ne (tgt := 22) X dX1_changeRateByValue_16 (by decide) (fun c_6 => ?_) (fun c_6 => ?_)
    · have h := h.1 c_6
      refine q_aload_n (j := 0) X dX1_changeRateByValue_22 rfl rfl ?_
      refine q_get (k := 1) (v := .ref (ad 12 1)) X hK rfl rfl (Nat.le_of_ble_eq_true rfl) inTX1 (gc (t := 16) (by decide) (ok1 (t := 16) (Nat.le_of_ble_eq_true rfl))) kw_2_76 rfl (rv_nn (a := ad 12) (r := 1) (ok1 (t := 12) (Nat.le_of_ble_eq_true rfl)).1) dX1_changeRateByValue_23 ?_
      refine q_aload_n (j := 0) X dX1_changeRateByValue_26 rfl rfl ?_
      refine q_get (k := 0) (v := .ref (ad 1 1)) X hK rfl rfl (Nat.le_of_ble_eq_true rfl) inTX1 (gc (t := 16) (by decide) (ok1 (t := 16) (Nat.le_of_ble_eq_true rfl))) kw_2_75 rfl (rv_nn (a := ad 1) (r := 1) (ok1 (t := 1) (Nat.le_of_ble_eq_true rfl)).1) dX1_changeRateByValue_27 ?_
      refine q_callv (q_runVN X hK hZ zo (gc (t := 12) (by decide) (ok1 (t := 12) (Nat.le_of_ble_eq_true rfl))) rfl rfl [.ref (ad 1 1)] [] rfl rfl (Nat.le_of_ble_eq_true rfl) dX1_changeRateByValue_30 ⟨Nat.le_of_ble_eq_true rfl, Nat.le_of_ble_eq_true rfl⟩ (c_X3_save ax 1 (ok1 (t := 1) (Nat.le_of_ble_eq_true rfl)) mm _ h) rfl rfl (List.mem_of_getElem? (i := 15) rfl) kw_1_8 kw_2_194 kw_2_193 ks_9 hy_X3_save.2 ⟨Nat.le_of_ble_eq_true rfl, Nat.le_of_ble_eq_true rfl⟩) (fun m_8 h => ?_)
      refine q_aload_n (j := 0) X dX1_changeRateByValue_33 rfl rfl ?_
      refine q_get (k := 0) (v := .ref (ad 1 1)) X hK rfl rfl (Nat.le_of_ble_eq_true rfl) inTX1 (gc (t := 16) (by decide) (ok1 (t := 16) (Nat.le_of_ble_eq_true rfl))) kw_2_75 rfl (rv_nn (a := ad 1) (r := 1) (ok1 (t := 1) (Nat.le_of_ble_eq_true rfl)).1) dX1_changeRateByValue_34 ?_
      refine q_getN (k := 9) (v := .ref (ad 10 1)) X hK rfl rfl (Nat.le_of_ble_eq_true rfl) inTX8 (gc (t := 1) (by decide) (ok1 (t := 1) (Nat.le_of_ble_eq_true rfl))) (List.mem_of_getElem? (i := 79) rfl) rfl (rv_nn (a := ad 10) (r := 1) (ok1 (t := 10) (Nat.le_of_ble_eq_true rfl)).1) dX1_changeRateByValue_37 ?_
      refine q_iload_n (j := 1) X dX1_changeRateByValue_40 rfl rfl ?_
      obtain ⟨b_9, h⟩ := h
      refine q_aald (t := 10) (i := 1) (jn := p0.toNatClampNeg) (v := .ref (ad 6 (6 * (1 - 1) + p0.toNatClampNeg + 1))) X hK rfl rfl (gc (t := 10) (by decide) (ok1 (t := 10) (Nat.le_of_ble_eq_true rfl))) rfl b_9 rfl (rv_nn (a := ad 6) (r := (6 * (1 - 1) + p0.toNatClampNeg + 1)) (ok_ki (ok1 (t := 10) (Nat.le_of_ble_eq_true rfl)) b_9).1) dX1_changeRateByValue_41 ?_
      refine q_getN (k := 0) (v := .int (m_8.1 6 (6 * (1 - 1) + p0.toNatClampNeg + 1) 0)) X hK rfl rfl (Nat.le_of_ble_eq_true rfl) inTX5 (gc (t := 6) (by decide) (ok_ki (ok1 (t := 10) (Nat.le_of_ble_eq_true rfl)) b_9)) (List.mem_of_getElem? (i := 50) rfl) rfl rfl dX1_changeRateByValue_42 ?_
      refine q_topi (fun x_10 ex_10 => ?_)
      have h := h x_10 ex_10
      refine q_istore_n (lv' := [(3, .int x_10), (0, .ref (ad 16 1)), (1, .int p0), (2, .int p1)]) X dX1_changeRateByValue_45 rfl (by decide) rfl ?_
      refine q_aload_n (j := 1) X dX1_changeRateByValue_46 rfl rfl ?_
      refine q_get (k := 0) (v := .ref (ad 1 1)) X hK rfl rfl (Nat.le_of_ble_eq_true rfl) inTX1 (gc (t := 16) (by decide) (ok1 (t := 16) (Nat.le_of_ble_eq_true rfl))) kw_2_75 rfl (rv_nn (a := ad 1) (r := 1) (ok1 (t := 1) (Nat.le_of_ble_eq_true rfl)).1) dX1_changeRateByValue_47 ?_
      refine q_getN (k := 9) (v := .ref (ad 10 1)) X hK rfl rfl (Nat.le_of_ble_eq_true rfl) inTX8 (gc (t := 1) (by decide) (ok1 (t := 1) (Nat.le_of_ble_eq_true rfl))) (List.mem_of_getElem? (i := 79) rfl) rfl (rv_nn (a := ad 10) (r := 1) (ok1 (t := 10) (Nat.le_of_ble_eq_true rfl)).1) dX1_changeRateByValue_50 ?_
      refine q_iload_n (j := 2) X dX1_changeRateByValue_53 rfl rfl ?_
      refine q_aald (t := 10) (i := 1) (jn := p0.toNatClampNeg) (v := .ref (ad 6 (6 * (1 - 1) + p0.toNatClampNeg + 1))) X hK rfl rfl (gc (t := 10) (by decide) (ok1 (t := 10) (Nat.le_of_ble_eq_true rfl))) rfl b_9 rfl (rv_nn (a := ad 6) (r := (6 * (1 - 1) + p0.toNatClampNeg + 1)) (ok_ki (ok1 (t := 10) (Nat.le_of_ble_eq_true rfl)) b_9).1) dX1_changeRateByValue_54 ?_
      refine q_iload_n (j := 3) X dX1_changeRateByValue_55 rfl rfl ?_
      refine q_putIN (k := 0) X ax hK rfl rfl (Nat.le_of_ble_eq_true rfl) inTX5 (gc (t := 6) (by decide) (ok_ki (ok1 (t := 10) (Nat.le_of_ble_eq_true rfl)) b_9)) tyX5 tyX5_ok nmX5 (List.mem_of_getElem? (i := 50) rfl) rfl rfl (tyX5_ok 0 (Nat.le_of_ble_eq_true rfl)) rfl dX1_changeRateByValue_56 ?_
      refine q_nmP (fun m_11 em_11 => ?_)
      have h := h m_11 em_11
      refine q_iload_n (j := 0) X dX1_changeRateByValue_59 rfl rfl ?_
      exact hE _ _ _ _ dX1_changeRateByValue_60 h
    · have h := h.2 c_6
      refine q_bipush (v := (-2)) X dX1_changeRateByValue_19 (by decide) ?_
      exact hE _ _ _ _ dX1_changeRateByValue_21 h
theorem dX1_changeRateByWeight_0 : decode cX1_changeRateByWeight 0 = .ok (.iload_n 1, 1) := by decide +kernel
theorem dX1_changeRateByWeight_1 : decode cX1_changeRateByWeight 1 = .ok (.iconst 0, 1) := by decide +kernel
theorem dX1_changeRateByWeight_2 : decode cX1_changeRateByWeight 2 = .ok (.iconst 5, 1) := by decide +kernel
theorem dX1_changeRateByWeight_3 : decode cX1_changeRateByWeight 3 = .ok (.invokestatic 83, 3) := by decide +kernel
theorem dX1_changeRateByWeight_6 : decode cX1_changeRateByWeight 6 = .ok (.ifCond .eq 13, 3) := by decide +kernel
theorem dX1_changeRateByWeight_9 : decode cX1_changeRateByWeight 9 = .ok (.iload_n 2, 1) := by decide +kernel
theorem dX1_changeRateByWeight_10 : decode cX1_changeRateByWeight 10 = .ok (.iconst 0, 1) := by decide +kernel
theorem dX1_changeRateByWeight_11 : decode cX1_changeRateByWeight 11 = .ok (.bipush 80, 2) := by decide +kernel
theorem dX1_changeRateByWeight_13 : decode cX1_changeRateByWeight 13 = .ok (.invokestatic 83, 3) := by decide +kernel
theorem dX1_changeRateByWeight_16 : decode cX1_changeRateByWeight 16 = .ok (.ifCond .ne 6, 3) := by decide +kernel
theorem dX1_changeRateByWeight_19 : decode cX1_changeRateByWeight 19 = .ok (.bipush (-2), 2) := by decide +kernel
theorem dX1_changeRateByWeight_21 : decode cX1_changeRateByWeight 21 = .ok (.ireturn, 1) := by decide +kernel
theorem dX1_changeRateByWeight_22 : decode cX1_changeRateByWeight 22 = .ok (.aload_n 0, 1) := by decide +kernel
theorem dX1_changeRateByWeight_23 : decode cX1_changeRateByWeight 23 = .ok (.getfield 15, 3) := by decide +kernel
theorem dX1_changeRateByWeight_26 : decode cX1_changeRateByWeight 26 = .ok (.aload_n 0, 1) := by decide +kernel
theorem dX1_changeRateByWeight_27 : decode cX1_changeRateByWeight 27 = .ok (.getfield 9, 3) := by decide +kernel
theorem dX1_changeRateByWeight_30 : decode cX1_changeRateByWeight 30 = .ok (.invokevirtual 29, 3) := by decide +kernel
theorem dX1_changeRateByWeight_33 : decode cX1_changeRateByWeight 33 = .ok (.aload_n 0, 1) := by decide +kernel
theorem dX1_changeRateByWeight_34 : decode cX1_changeRateByWeight 34 = .ok (.getfield 9, 3) := by decide +kernel
theorem dX1_changeRateByWeight_37 : decode cX1_changeRateByWeight 37 = .ok (.getfield 67, 3) := by decide +kernel
theorem dX1_changeRateByWeight_40 : decode cX1_changeRateByWeight 40 = .ok (.iload_n 1, 1) := by decide +kernel
theorem dX1_changeRateByWeight_41 : decode cX1_changeRateByWeight 41 = .ok (.aaload, 1) := by decide +kernel
theorem dX1_changeRateByWeight_42 : decode cX1_changeRateByWeight 42 = .ok (.getfield 239, 3) := by decide +kernel
theorem dX1_changeRateByWeight_45 : decode cX1_changeRateByWeight 45 = .ok (.istore_n 3, 1) := by decide +kernel
theorem dX1_changeRateByWeight_46 : decode cX1_changeRateByWeight 46 = .ok (.aload_n 0, 1) := by decide +kernel
theorem dX1_changeRateByWeight_47 : decode cX1_changeRateByWeight 47 = .ok (.getfield 9, 3) := by decide +kernel
theorem dX1_changeRateByWeight_50 : decode cX1_changeRateByWeight 50 = .ok (.getfield 67, 3) := by decide +kernel
theorem dX1_changeRateByWeight_53 : decode cX1_changeRateByWeight 53 = .ok (.iload_n 1, 1) := by decide +kernel
theorem dX1_changeRateByWeight_54 : decode cX1_changeRateByWeight 54 = .ok (.aaload, 1) := by decide +kernel
theorem dX1_changeRateByWeight_55 : decode cX1_changeRateByWeight 55 = .ok (.iload_n 2, 1) := by decide +kernel
theorem dX1_changeRateByWeight_56 : decode cX1_changeRateByWeight 56 = .ok (.putfield 239, 3) := by decide +kernel
theorem dX1_changeRateByWeight_59 : decode cX1_changeRateByWeight 59 = .ok (.iload_n 3, 1) := by decide +kernel
theorem dX1_changeRateByWeight_60 : decode cX1_changeRateByWeight 60 = .ok (.ireturn, 1) := by decide +kernel
def w_X1_changeRateByWeight (p0 : Int32) (p1 : Int32) (mm : Mm) (Q9 : Int32 → Mm → Prop) : Prop :=
  w_X9_isWithin p0 0 5 mm (fun (r_1 : Int32) => ((r_1 = 0 → Q9 (-2) mm) ∧
  (¬ r_1 = 0 → w_X9_isWithin p1 0 80 mm (fun (r_4 : Int32) => ((¬ r_4 = 0 → w_X3_save 1 mm (fun (m_8 : Mm) => vp_in p0 6 ∧ (∀ x_10 : Int32, x_10 = (m_8.1 6 (6 * (1 - 1) + p0.toNatClampNeg + 1) 1) → (∀ m_11 : Mm, m_11 = sI m_8 6 (6 * (1 - 1) + p0.toNatClampNeg + 1) 1 p1 → (Q9 x_10 m_11))))) ∧
  (r_4 = 0 → Q9 (-2) mm))))))
def rm_X1_changeRateByWeight : Room := { frames := 3, cells := 0, slots := 0, locals := 64 }
theorem hy_X1_changeRateByWeight : yX1_changeRateByWeight.cls = RX1 ∧ yX1_changeRateByWeight.cls ≠ "java/lang/invoke/MethodHandle" ∧ yX1_changeRateByWeight.cls ≠ "java/lang/invoke/VarHandle" ∧ (parseMethodDescriptor yX1_changeRateByWeight.desc).map (fun d => d.parameters.length) = some 2 := by decide +kernel
set_option maxRecDepth 100000 in
set_option maxHeartbeats 4000000 in
theorem c_X1_changeRateByWeight {l : Launch} {D : va_G} {cA : Nat → ClassId} {ad : Nat → Nat → Nat} {A : Nat → Prop} (ax : Ax ad GC A) (p0 : Int32) (p1 : Int32) (mm : Mm) (Q9 : Int32 → Mm → Prop) (h : w_X1_changeRateByWeight p0 p1 mm Q9) : Met l yX1_changeRateByWeight (.code yX1_changeRateByWeight cX1_changeRateByWeight 4 (some .int) :: TG) rm_X1_changeRateByWeight (PcM TT D cA ad false GC (ZC ad A) [.ref (ad 16 1), .int p0, .int p1] mm) (AnsI TT D cA ad false GC A Q9) 0 0 A := by
  have zo := ZC_ok ad A
  unfold w_X1_changeRateByWeight at h
  refine enterI pl_X1 ⟨rfl, rfl⟩ rfl (Nat.le_of_ble_eq_true rfl) ?_
  intro p e s m args below meth c QQ X hK hZ hnm hE
  refine q_iload_n (j := 1) X dX1_changeRateByWeight_0 rfl rfl ?_
  refine q_iconst (v := 0) X dX1_changeRateByWeight_1 (by decide) ?_
  refine q_iconst (v := 5) X dX1_changeRateByWeight_2 (by decide) ?_
  refine q_calli (q_runSN X hK hZ zo [.int p0, .int 0, .int 5] [] rfl rfl (Nat.le_of_ble_eq_true rfl) dX1_changeRateByWeight_3 ⟨Nat.le_of_ble_eq_true rfl, Nat.le_of_ble_eq_true rfl⟩ (c_X9_isWithin ax p0 0 5 mm _ h) rfl rfl (List.mem_of_getElem? (i := 25) rfl) kw_1_1 kw_2_158 kw_2_157 hy_X9_isWithin.2 ⟨Nat.le_of_ble_eq_true rfl, Nat.le_of_ble_eq_true rfl⟩) (fun r_1 m_2 h => ?_)
  obtain ⟨h, hm⟩ := h
  subst hm
  refine q_if_eq (tgt := 19) X dX1_changeRateByWeight_6 (by decide) (fun c_3 => ?_) (fun c_3 => ?_)
  · have h := h.1 c_3
    refine q_bipush (v := (-2)) X dX1_changeRateByWeight_19 (by decide) ?_
    exact hE _ _ _ _ dX1_changeRateByWeight_21 h
  · have h := h.2 c_3
    refine q_iload_n (j := 2) X dX1_changeRateByWeight_9 rfl rfl ?_
    refine q_iconst (v := 0) X dX1_changeRateByWeight_10 (by decide) ?_
    refine q_bipush (v := 80) X dX1_changeRateByWeight_11 (by decide) ?_
    refine q_calli (q_runSN X hK hZ zo [.int p1, .int 0, .int 80] [] rfl rfl (Nat.le_of_ble_eq_true rfl) dX1_changeRateByWeight_13 ⟨Nat.le_of_ble_eq_true rfl, Nat.le_of_ble_eq_true rfl⟩ (c_X9_isWithin ax p1 0 80 mm _ h) rfl rfl (List.mem_of_getElem? (i := 25) rfl) kw_1_1 kw_2_158 kw_2_157 hy_X9_isWithin.2 ⟨Nat.le_of_ble_eq_true rfl, Nat.le_of_ble_eq_true rfl⟩) (fun r_4 m_5 h => ?_)
    obtain ⟨h, hm⟩ := h
    subst hm
    refine q_if_ne (tgt := 22) X dX1_changeRateByWeight_16 (by decide) (fun c_6 => ?_) (fun c_6 => ?_)
    · have h := h.1 c_6
      refine q_aload_n (j := 0) X dX1_changeRateByWeight_22 rfl rfl ?_
      refine q_get (k := 1) (v := .ref (ad 12 1)) X hK rfl rfl (Nat.le_of_ble_eq_true rfl) inTX1 (gc (t := 16) (by decide) (ok1 (t := 16) (Nat.le_of_ble_eq_true rfl))) kw_2_76 rfl (rv_nn (a := ad 12) (r := 1) (ok1 (t := 12) (Nat.le_of_ble_eq_true rfl)).1) dX1_changeRateByWeight_23 ?_
      refine q_aload_n (j := 0) X dX1_changeRateByWeight_26 rfl rfl ?_
      refine q_get (k := 0) (v := .ref (ad 1 1)) X hK rfl rfl (Nat.le_of_ble_eq_true rfl) inTX1 (gc (t := 16) (by decide) (ok1 (t := 16) (Nat.le_of_ble_eq_true rfl))) kw_2_75 rfl (rv_nn (a := ad 1) (r := 1) (ok1 (t := 1) (Nat.le_of_ble_eq_true rfl)).1) dX1_changeRateByWeight_27 ?_
      refine q_callv (q_runVN X hK hZ zo (gc (t := 12) (by decide) (ok1 (t := 12) (Nat.le_of_ble_eq_true rfl))) rfl rfl [.ref (ad 1 1)] [] rfl rfl (Nat.le_of_ble_eq_true rfl) dX1_changeRateByWeight_30 ⟨Nat.le_of_ble_eq_true rfl, Nat.le_of_ble_eq_true rfl⟩ (c_X3_save ax 1 (ok1 (t := 1) (Nat.le_of_ble_eq_true rfl)) mm _ h) rfl rfl (List.mem_of_getElem? (i := 15) rfl) kw_1_8 kw_2_194 kw_2_193 ks_9 hy_X3_save.2 ⟨Nat.le_of_ble_eq_true rfl, Nat.le_of_ble_eq_true rfl⟩) (fun m_8 h => ?_)
      refine q_aload_n (j := 0) X dX1_changeRateByWeight_33 rfl rfl ?_
      refine q_get (k := 0) (v := .ref (ad 1 1)) X hK rfl rfl (Nat.le_of_ble_eq_true rfl) inTX1 (gc (t := 16) (by decide) (ok1 (t := 16) (Nat.le_of_ble_eq_true rfl))) kw_2_75 rfl (rv_nn (a := ad 1) (r := 1) (ok1 (t := 1) (Nat.le_of_ble_eq_true rfl)).1) dX1_changeRateByWeight_34 ?_
      refine q_getN (k := 9) (v := .ref (ad 10 1)) X hK rfl rfl (Nat.le_of_ble_eq_true rfl) inTX8 (gc (t := 1) (by decide) (ok1 (t := 1) (Nat.le_of_ble_eq_true rfl))) (List.mem_of_getElem? (i := 79) rfl) rfl (rv_nn (a := ad 10) (r := 1) (ok1 (t := 10) (Nat.le_of_ble_eq_true rfl)).1) dX1_changeRateByWeight_37 ?_
      refine q_iload_n (j := 1) X dX1_changeRateByWeight_40 rfl rfl ?_
      obtain ⟨b_9, h⟩ := h
      refine q_aald (t := 10) (i := 1) (jn := p0.toNatClampNeg) (v := .ref (ad 6 (6 * (1 - 1) + p0.toNatClampNeg + 1))) X hK rfl rfl (gc (t := 10) (by decide) (ok1 (t := 10) (Nat.le_of_ble_eq_true rfl))) rfl b_9 rfl (rv_nn (a := ad 6) (r := (6 * (1 - 1) + p0.toNatClampNeg + 1)) (ok_ki (ok1 (t := 10) (Nat.le_of_ble_eq_true rfl)) b_9).1) dX1_changeRateByWeight_41 ?_
      refine q_getN (k := 1) (v := .int (m_8.1 6 (6 * (1 - 1) + p0.toNatClampNeg + 1) 1)) X hK rfl rfl (Nat.le_of_ble_eq_true rfl) inTX5 (gc (t := 6) (by decide) (ok_ki (ok1 (t := 10) (Nat.le_of_ble_eq_true rfl)) b_9)) (List.mem_of_getElem? (i := 52) rfl) rfl rfl dX1_changeRateByWeight_42 ?_
      refine q_topi (fun x_10 ex_10 => ?_)
      have h := h x_10 ex_10
      refine q_istore_n (lv' := [(3, .int x_10), (0, .ref (ad 16 1)), (1, .int p0), (2, .int p1)]) X dX1_changeRateByWeight_45 rfl (by decide) rfl ?_
      refine q_aload_n (j := 1) X dX1_changeRateByWeight_46 rfl rfl ?_
      refine q_get (k := 0) (v := .ref (ad 1 1)) X hK rfl rfl (Nat.le_of_ble_eq_true rfl) inTX1 (gc (t := 16) (by decide) (ok1 (t := 16) (Nat.le_of_ble_eq_true rfl))) kw_2_75 rfl (rv_nn (a := ad 1) (r := 1) (ok1 (t := 1) (Nat.le_of_ble_eq_true rfl)).1) dX1_changeRateByWeight_47 ?_
      refine q_getN (k := 9) (v := .ref (ad 10 1)) X hK rfl rfl (Nat.le_of_ble_eq_true rfl) inTX8 (gc (t := 1) (by decide) (ok1 (t := 1) (Nat.le_of_ble_eq_true rfl))) (List.mem_of_getElem? (i := 79) rfl) rfl (rv_nn (a := ad 10) (r := 1) (ok1 (t := 10) (Nat.le_of_ble_eq_true rfl)).1) dX1_changeRateByWeight_50 ?_
      refine q_iload_n (j := 2) X dX1_changeRateByWeight_53 rfl rfl ?_
      refine q_aald (t := 10) (i := 1) (jn := p0.toNatClampNeg) (v := .ref (ad 6 (6 * (1 - 1) + p0.toNatClampNeg + 1))) X hK rfl rfl (gc (t := 10) (by decide) (ok1 (t := 10) (Nat.le_of_ble_eq_true rfl))) rfl b_9 rfl (rv_nn (a := ad 6) (r := (6 * (1 - 1) + p0.toNatClampNeg + 1)) (ok_ki (ok1 (t := 10) (Nat.le_of_ble_eq_true rfl)) b_9).1) dX1_changeRateByWeight_54 ?_
      refine q_iload_n (j := 3) X dX1_changeRateByWeight_55 rfl rfl ?_
      refine q_putIN (k := 1) X ax hK rfl rfl (Nat.le_of_ble_eq_true rfl) inTX5 (gc (t := 6) (by decide) (ok_ki (ok1 (t := 10) (Nat.le_of_ble_eq_true rfl)) b_9)) tyX5 tyX5_ok nmX5 (List.mem_of_getElem? (i := 52) rfl) rfl rfl (tyX5_ok 1 (Nat.le_of_ble_eq_true rfl)) rfl dX1_changeRateByWeight_56 ?_
      refine q_nmP (fun m_11 em_11 => ?_)
      have h := h m_11 em_11
      refine q_iload_n (j := 0) X dX1_changeRateByWeight_59 rfl rfl ?_
      exact hE _ _ _ _ dX1_changeRateByWeight_60 h
    · have h := h.2 c_6
      refine q_bipush (v := (-2)) X dX1_changeRateByWeight_19 (by decide) ?_
      exact hE _ _ _ _ dX1_changeRateByWeight_21 h
theorem dX1_countLate_0 : decode cX1_countLate 0 = .ok (.iconst 0, 1) := by decide +kernel
theorem dX1_countLate_1 : decode cX1_countLate 1 = .ok (.istore_n 1, 1) := by decide +kernel
theorem dX1_countLate_2 : decode cX1_countLate 2 = .ok (.iconst 0, 1) := by decide +kernel
theorem dX1_countLate_3 : decode cX1_countLate 3 = .ok (.istore_n 2, 1) := by decide +kernel
theorem dX1_countLate_4 : decode cX1_countLate 4 = .ok (.iload_n 2, 1) := by decide +kernel
theorem dX1_countLate_5 : decode cX1_countLate 5 = .ok (.aload_n 0, 1) := by decide +kernel
theorem dX1_countLate_6 : decode cX1_countLate 6 = .ok (.getfield 9, 3) := by decide +kernel
theorem dX1_countLate_9 : decode cX1_countLate 9 = .ok (.getfield 208, 3) := by decide +kernel
theorem dX1_countLate_12 : decode cX1_countLate 12 = .ok (.if_icmp .ge 36, 3) := by decide +kernel
theorem dX1_countLate_15 : decode cX1_countLate 15 = .ok (.iload_n 1, 1) := by decide +kernel
theorem dX1_countLate_16 : decode cX1_countLate 16 = .ok (.aload_n 0, 1) := by decide +kernel
theorem dX1_countLate_17 : decode cX1_countLate 17 = .ok (.getfield 9, 3) := by decide +kernel
theorem dX1_countLate_20 : decode cX1_countLate 20 = .ok (.aload_n 0, 1) := by decide +kernel
theorem dX1_countLate_21 : decode cX1_countLate 21 = .ok (.getfield 9, 3) := by decide +kernel
theorem dX1_countLate_24 : decode cX1_countLate 24 = .ok (.getfield 211, 3) := by decide +kernel
theorem dX1_countLate_27 : decode cX1_countLate 27 = .ok (.iload_n 2, 1) := by decide +kernel
theorem dX1_countLate_28 : decode cX1_countLate 28 = .ok (.aaload, 1) := by decide +kernel
theorem dX1_countLate_29 : decode cX1_countLate 29 = .ok (.invokevirtual 245, 3) := by decide +kernel
theorem dX1_countLate_32 : decode cX1_countLate 32 = .ok (.ifCond .eq 7, 3) := by decide +kernel
theorem dX1_countLate_35 : decode cX1_countLate 35 = .ok (.iconst 1, 1) := by decide +kernel
theorem dX1_countLate_36 : decode cX1_countLate 36 = .ok (.goto 4, 3) := by decide +kernel
theorem dX1_countLate_39 : decode cX1_countLate 39 = .ok (.iconst 0, 1) := by decide +kernel
theorem dX1_countLate_40 : decode cX1_countLate 40 = .ok (.iadd, 1) := by decide +kernel
theorem dX1_countLate_41 : decode cX1_countLate 41 = .ok (.istore_n 1, 1) := by decide +kernel
theorem dX1_countLate_42 : decode cX1_countLate 42 = .ok (.iinc 2 1, 3) := by decide +kernel
theorem dX1_countLate_45 : decode cX1_countLate 45 = .ok (.goto (-41), 3) := by decide +kernel
theorem dX1_countLate_48 : decode cX1_countLate 48 = .ok (.iload_n 1, 1) := by decide +kernel
theorem dX1_countLate_49 : decode cX1_countLate 49 = .ok (.ireturn, 1) := by decide +kernel
def w_X1_countLate_B4 (mm : Mm) (Q9 : Int32 → Prop) (K_3 : Int32 → Int32 → Prop) (y_1 : Int32) (y_2 : Int32) : Prop :=
  (((mm.1 1 1 1) ≤ y_2 → Q9 y_1) ∧
  (¬ (mm.1 1 1 1) ≤ y_2 → vp_in y_2 16 ∧ (ok 3 (mm.2 7 1 y_2.toNatClampNeg) ∧ w_X8_isLate 1 (mm.2 7 1 y_2.toNatClampNeg) mm (fun (r_8 : Int32) => ((r_8 = 0 → ∀ x_11 : Int32, x_11 = (y_1 + 0) → (∀ x_12 : Int32, x_12 = y_2 + 1 → (K_3 x_11 x_12))) ∧
  (¬ r_8 = 0 → ∀ x_13 : Int32, x_13 = (y_1 + 1) → (∀ x_14 : Int32, x_14 = y_2 + 1 → (K_3 x_13 x_14))))))))
def w_X1_countLate  (mm : Mm) (Q9 : Int32 → Prop) : Prop :=
  ∃ n, itr (α := Int32 × Int32) (fun K a => w_X1_countLate_B4 mm Q9 (fun z0 z1 => K (z0, z1)) a.1 a.2) n (0, 0)
def rm_X1_countLate : Room := { frames := 2, cells := 0, slots := 0, locals := 42 }
theorem hy_X1_countLate : yX1_countLate.cls = RX1 ∧ yX1_countLate.cls ≠ "java/lang/invoke/MethodHandle" ∧ yX1_countLate.cls ≠ "java/lang/invoke/VarHandle" ∧ (parseMethodDescriptor yX1_countLate.desc).map (fun d => d.parameters.length) = some 0 := by decide +kernel
set_option maxRecDepth 100000 in
set_option maxHeartbeats 4000000 in
theorem c_X1_countLate {l : Launch} {D : va_G} {cA : Nat → ClassId} {ad : Nat → Nat → Nat} {A : Nat → Prop} (ax : Ax ad GC A)  (mm : Mm) (Q9 : Int32 → Prop) (h : w_X1_countLate mm Q9) : Met l yX1_countLate (.code yX1_countLate cX1_countLate 3 (some .int) :: TG) rm_X1_countLate (PcM TT D cA ad false GC (ZC ad A) [.ref (ad 16 1)] mm) (AnsI TT D cA ad false GC A (fun r mm' => Q9 r ∧ mm = mm')) 0 0 A := by
  have zo := ZC_ok ad A
  unfold w_X1_countLate at h
  refine enterI pl_X1 ⟨rfl, rfl⟩ rfl (Nat.le_of_ble_eq_true rfl) ?_
  intro p e s m args below meth c QQ X hK hZ hnm hE
  refine q_iconst (v := 0) X dX1_countLate_0 (by decide) ?_
  refine q_istore_n (lv' := [(1, .int 0), (0, .ref (ad 16 1))]) X dX1_countLate_1 rfl (by decide) rfl ?_
  refine q_iconst (v := 0) X dX1_countLate_2 (by decide) ?_
  refine q_istore_n (lv' := [(2, .int 0), (1, .int 0), (0, .ref (ad 16 1))]) X dX1_countLate_3 rfl (by decide) rfl ?_
  refine q_sub [2, 1, 0] rfl ?_
  have L4 : ∀ (n : Nat) (y_1 : Int32) (y_2 : Int32), itr (α := Int32 × Int32) (fun K a => w_X1_countLate_B4 mm Q9 (fun z0 z1 => K (z0, z1)) a.1 a.2) n (y_1, y_2) → V p l e rm_X1_countLate s m args below meth c QQ 3 A 0 0 (Rep TT D cA ad false GC mm) 4 [(0, .ref (ad 16 1)), (1, .int y_1), (2, .int y_2)] [] := by
    intro n
    induction n with
    | zero => intro y_1 y_2 h; exact h.elim
    | succ n ih_4 =>
      intro y_1 y_2 h
      have h : w_X1_countLate_B4 mm Q9 (fun z0 z1 => itr (α := Int32 × Int32) (fun K a => w_X1_countLate_B4 mm Q9 (fun z0 z1 => K (z0, z1)) a.1 a.2) n (z0, z1)) y_1 y_2 := h
      unfold w_X1_countLate_B4 at h
      refine q_iload_n (j := 2) X dX1_countLate_4 rfl rfl ?_
      refine q_aload_n (j := 0) X dX1_countLate_5 rfl rfl ?_
      refine q_get (k := 0) (v := .ref (ad 1 1)) X hK rfl rfl (Nat.le_of_ble_eq_true rfl) inTX1 (gc (t := 16) (by decide) (ok1 (t := 16) (Nat.le_of_ble_eq_true rfl))) kw_2_75 rfl (rv_nn (a := ad 1) (r := 1) (ok1 (t := 1) (Nat.le_of_ble_eq_true rfl)).1) dX1_countLate_6 ?_
      refine q_getN (k := 1) (v := .int (mm.1 1 1 1)) X hK rfl rfl (Nat.le_of_ble_eq_true rfl) inTX8 (gc (t := 1) (by decide) (ok1 (t := 1) (Nat.le_of_ble_eq_true rfl))) (List.mem_of_getElem? (i := 68) rfl) rfl rfl dX1_countLate_9 ?_
      refine q_icmp_ge (tgt := 48) X dX1_countLate_12 (by decide) (fun c_5 => ?_) (fun c_5 => ?_)
      · have h := h.1 c_5
        refine q_iload_n (j := 1) X dX1_countLate_48 rfl rfl ?_
        exact hE _ _ _ _ dX1_countLate_49 ⟨h, rfl⟩
      · have h := h.2 c_5
        refine q_iload_n (j := 1) X dX1_countLate_15 rfl rfl ?_
        refine q_aload_n (j := 0) X dX1_countLate_16 rfl rfl ?_
        refine q_get (k := 0) (v := .ref (ad 1 1)) X hK rfl rfl (Nat.le_of_ble_eq_true rfl) inTX1 (gc (t := 16) (by decide) (ok1 (t := 16) (Nat.le_of_ble_eq_true rfl))) kw_2_75 rfl (rv_nn (a := ad 1) (r := 1) (ok1 (t := 1) (Nat.le_of_ble_eq_true rfl)).1) dX1_countLate_17 ?_
        refine q_aload_n (j := 0) X dX1_countLate_20 rfl rfl ?_
        refine q_get (k := 0) (v := .ref (ad 1 1)) X hK rfl rfl (Nat.le_of_ble_eq_true rfl) inTX1 (gc (t := 16) (by decide) (ok1 (t := 16) (Nat.le_of_ble_eq_true rfl))) kw_2_75 rfl (rv_nn (a := ad 1) (r := 1) (ok1 (t := 1) (Nat.le_of_ble_eq_true rfl)).1) dX1_countLate_21 ?_
        refine q_getN (k := 6) (v := .ref (ad 7 1)) X hK rfl rfl (Nat.le_of_ble_eq_true rfl) inTX8 (gc (t := 1) (by decide) (ok1 (t := 1) (Nat.le_of_ble_eq_true rfl))) (List.mem_of_getElem? (i := 75) rfl) rfl (rv_nn (a := ad 7) (r := 1) (ok1 (t := 7) (Nat.le_of_ble_eq_true rfl)).1) dX1_countLate_24 ?_
        refine q_iload_n (j := 2) X dX1_countLate_27 rfl rfl ?_
        obtain ⟨b_6, h⟩ := h
        refine q_aald (t := 7) (i := 1) (jn := y_2.toNatClampNeg) (v := rv (ad 3) (mm.2 7 1 y_2.toNatClampNeg)) X hK rfl rfl (gc (t := 7) (by decide) (ok1 (t := 7) (Nat.le_of_ble_eq_true rfl))) rfl b_6 rfl rfl dX1_countLate_28 ?_
        obtain ⟨k_7, h⟩ := h
        rw [rv_nn (a := ad 3) (r := (mm.2 7 1 y_2.toNatClampNeg)) k_7.1]
        refine q_calli (q_runVN X hK hZ zo (gc (t := 1) (by decide) (ok1 (t := 1) (Nat.le_of_ble_eq_true rfl))) rfl rfl [.ref (ad 3 (mm.2 7 1 y_2.toNatClampNeg))] [.int y_1] rfl rfl (Nat.le_of_ble_eq_true rfl) dX1_countLate_29 ⟨Nat.le_of_ble_eq_true rfl, Nat.le_of_ble_eq_true rfl⟩ (c_X8_isLate ax 1 (ok1 (t := 1) (Nat.le_of_ble_eq_true rfl)) (mm.2 7 1 y_2.toNatClampNeg) k_7 mm _ h) rfl rfl (List.mem_of_getElem? (i := 68) rfl) kw_1_2 kw_3_164 kw_3_163 ks_30 hy_X8_isLate.2 ⟨Nat.le_of_ble_eq_true rfl, Nat.le_of_ble_eq_true rfl⟩) (fun r_8 m_9 h => ?_)
        obtain ⟨h, hm⟩ := h
        subst hm
        refine q_if_eq (tgt := 39) X dX1_countLate_32 (by decide) (fun c_10 => ?_) (fun c_10 => ?_)
        · have h := h.1 c_10
          refine q_iconst (v := 0) X dX1_countLate_39 (by decide) ?_
          refine q_iadd X dX1_countLate_40 ?_
          refine q_topi (fun x_11 ex_11 => ?_)
          have h := h x_11 ex_11
          refine q_istore_n (lv' := [(1, .int x_11), (0, .ref (ad 16 1)), (2, .int y_2)]) X dX1_countLate_41 rfl (by decide) rfl ?_
          obtain ⟨x_12, ex_12⟩ : ∃ z : Int32, z = y_2 + 1 := ⟨_, rfl⟩
          have h := h x_12 ex_12
          refine q_iinc (j := 2) (v := x_12) (lv' := [(2, .int x_12), (1, .int x_11), (0, .ref (ad 16 1))]) X dX1_countLate_42 rfl (by rw [ex_12]; rfl) (by decide) rfl ?_
          refine q_goto (tgt := 4) X dX1_countLate_45 (by decide) ?_
          refine q_sub [2, 1, 0] rfl ?_
          exact ih_4 x_11 x_12 h
        · have h := h.2 c_10
          refine q_iconst (v := 1) X dX1_countLate_35 (by decide) ?_
          refine q_goto (tgt := 40) X dX1_countLate_36 (by decide) ?_
          refine q_iadd X dX1_countLate_40 ?_
          refine q_topi (fun x_13 ex_13 => ?_)
          have h := h x_13 ex_13
          refine q_istore_n (lv' := [(1, .int x_13), (0, .ref (ad 16 1)), (2, .int y_2)]) X dX1_countLate_41 rfl (by decide) rfl ?_
          obtain ⟨x_14, ex_14⟩ : ∃ z : Int32, z = y_2 + 1 := ⟨_, rfl⟩
          have h := h x_14 ex_14
          refine q_iinc (j := 2) (v := x_14) (lv' := [(2, .int x_14), (1, .int x_13), (0, .ref (ad 16 1))]) X dX1_countLate_42 rfl (by rw [ex_14]; rfl) (by decide) rfl ?_
          refine q_goto (tgt := 4) X dX1_countLate_45 (by decide) ?_
          refine q_sub [2, 1, 0] rfl ?_
          exact ih_4 x_13 x_14 h
  obtain ⟨n_15, h⟩ := h
  exact L4 n_15 0 0 h
theorem dX1_letPass_0 : decode cX1_letPass 0 = .ok (.iload_n 1, 1) := by decide +kernel
theorem dX1_letPass_1 : decode cX1_letPass 1 = .ok (.iconst 1, 1) := by decide +kernel
theorem dX1_letPass_2 : decode cX1_letPass 2 = .ok (.bipush 100, 2) := by decide +kernel
theorem dX1_letPass_4 : decode cX1_letPass 4 = .ok (.invokestatic 83, 3) := by decide +kernel
theorem dX1_letPass_7 : decode cX1_letPass 7 = .ok (.ifCond .ne 6, 3) := by decide +kernel
theorem dX1_letPass_10 : decode cX1_letPass 10 = .ok (.bipush (-2), 2) := by decide +kernel
theorem dX1_letPass_12 : decode cX1_letPass 12 = .ok (.ireturn, 1) := by decide +kernel
theorem dX1_letPass_13 : decode cX1_letPass 13 = .ok (.aload_n 0, 1) := by decide +kernel
theorem dX1_letPass_14 : decode cX1_letPass 14 = .ok (.getfield 9, 3) := by decide +kernel
theorem dX1_letPass_17 : decode cX1_letPass 17 = .ok (.getfield 54, 3) := by decide +kernel
theorem dX1_letPass_20 : decode cX1_letPass 20 = .ok (.iload_n 1, 1) := by decide +kernel
theorem dX1_letPass_21 : decode cX1_letPass 21 = .ok (.iadd, 1) := by decide +kernel
theorem dX1_letPass_22 : decode cX1_letPass 22 = .ok (.sipush 9999, 3) := by decide +kernel
theorem dX1_letPass_25 : decode cX1_letPass 25 = .ok (.if_icmp .le 6, 3) := by decide +kernel
theorem dX1_letPass_28 : decode cX1_letPass 28 = .ok (.bipush (-3), 2) := by decide +kernel
theorem dX1_letPass_30 : decode cX1_letPass 30 = .ok (.ireturn, 1) := by decide +kernel
theorem dX1_letPass_31 : decode cX1_letPass 31 = .ok (.aload_n 0, 1) := by decide +kernel
theorem dX1_letPass_32 : decode cX1_letPass 32 = .ok (.getfield 15, 3) := by decide +kernel
theorem dX1_letPass_35 : decode cX1_letPass 35 = .ok (.aload_n 0, 1) := by decide +kernel
theorem dX1_letPass_36 : decode cX1_letPass 36 = .ok (.getfield 9, 3) := by decide +kernel
theorem dX1_letPass_39 : decode cX1_letPass 39 = .ok (.invokevirtual 29, 3) := by decide +kernel
theorem dX1_letPass_42 : decode cX1_letPass 42 = .ok (.aload_n 0, 1) := by decide +kernel
theorem dX1_letPass_43 : decode cX1_letPass 43 = .ok (.invokevirtual 242, 3) := by decide +kernel
theorem dX1_letPass_46 : decode cX1_letPass 46 = .ok (.istore_n 2, 1) := by decide +kernel
theorem dX1_letPass_47 : decode cX1_letPass 47 = .ok (.aload_n 0, 1) := by decide +kernel
theorem dX1_letPass_48 : decode cX1_letPass 48 = .ok (.getfield 9, 3) := by decide +kernel
theorem dX1_letPass_51 : decode cX1_letPass 51 = .ok (.aload_n 0, 1) := by decide +kernel
theorem dX1_letPass_52 : decode cX1_letPass 52 = .ok (.getfield 9, 3) := by decide +kernel
theorem dX1_letPass_55 : decode cX1_letPass 55 = .ok (.getfield 54, 3) := by decide +kernel
theorem dX1_letPass_58 : decode cX1_letPass 58 = .ok (.iload_n 1, 1) := by decide +kernel
theorem dX1_letPass_59 : decode cX1_letPass 59 = .ok (.iadd, 1) := by decide +kernel
theorem dX1_letPass_60 : decode cX1_letPass 60 = .ok (.putfield 54, 3) := by decide +kernel
theorem dX1_letPass_63 : decode cX1_letPass 63 = .ok (.aload_n 0, 1) := by decide +kernel
theorem dX1_letPass_64 : decode cX1_letPass 64 = .ok (.invokevirtual 242, 3) := by decide +kernel
theorem dX1_letPass_67 : decode cX1_letPass 67 = .ok (.iload_n 2, 1) := by decide +kernel
theorem dX1_letPass_68 : decode cX1_letPass 68 = .ok (.isub, 1) := by decide +kernel
theorem dX1_letPass_69 : decode cX1_letPass 69 = .ok (.ireturn, 1) := by decide +kernel
def w_X1_letPass (p0 : Int32) (mm : Mm) (Q9 : Int32 → Mm → Prop) : Prop :=
  w_X9_isWithin p0 1 100 mm (fun (r_1 : Int32) => ((¬ r_1 = 0 → ((((mm.1 1 1 0) + p0) ≤ 9999 → w_X3_save 1 mm (fun (m_6 : Mm) => w_X1_countLate m_6 (fun (r_7 : Int32) => ∀ m_9 : Mm, m_9 = sI m_6 1 1 0 ((m_6.1 1 1 0) + p0) → (w_X1_countLate m_9 (fun (r_10 : Int32) => Q9 (r_10 - r_7) m_9))))) ∧
  (¬ ((mm.1 1 1 0) + p0) ≤ 9999 → Q9 (-3) mm))) ∧
  (r_1 = 0 → Q9 (-2) mm)))
def rm_X1_letPass : Room := { frames := 3, cells := 0, slots := 0, locals := 64 }
theorem hy_X1_letPass : yX1_letPass.cls = RX1 ∧ yX1_letPass.cls ≠ "java/lang/invoke/MethodHandle" ∧ yX1_letPass.cls ≠ "java/lang/invoke/VarHandle" ∧ (parseMethodDescriptor yX1_letPass.desc).map (fun d => d.parameters.length) = some 1 := by decide +kernel
set_option maxRecDepth 100000 in
set_option maxHeartbeats 4000000 in
theorem c_X1_letPass {l : Launch} {D : va_G} {cA : Nat → ClassId} {ad : Nat → Nat → Nat} {A : Nat → Prop} (ax : Ax ad GC A) (p0 : Int32) (mm : Mm) (Q9 : Int32 → Mm → Prop) (h : w_X1_letPass p0 mm Q9) : Met l yX1_letPass (.code yX1_letPass cX1_letPass 3 (some .int) :: TG) rm_X1_letPass (PcM TT D cA ad false GC (ZC ad A) [.ref (ad 16 1), .int p0] mm) (AnsI TT D cA ad false GC A Q9) 0 0 A := by
  have zo := ZC_ok ad A
  unfold w_X1_letPass at h
  refine enterI pl_X1 ⟨rfl, rfl⟩ rfl (Nat.le_of_ble_eq_true rfl) ?_
  intro p e s m args below meth c QQ X hK hZ hnm hE
  refine q_iload_n (j := 1) X dX1_letPass_0 rfl rfl ?_
  refine q_iconst (v := 1) X dX1_letPass_1 (by decide) ?_
  refine q_bipush (v := 100) X dX1_letPass_2 (by decide) ?_
  refine q_calli (q_runSN X hK hZ zo [.int p0, .int 1, .int 100] [] rfl rfl (Nat.le_of_ble_eq_true rfl) dX1_letPass_4 ⟨Nat.le_of_ble_eq_true rfl, Nat.le_of_ble_eq_true rfl⟩ (c_X9_isWithin ax p0 1 100 mm _ h) rfl rfl (List.mem_of_getElem? (i := 25) rfl) kw_1_1 kw_2_158 kw_2_157 hy_X9_isWithin.2 ⟨Nat.le_of_ble_eq_true rfl, Nat.le_of_ble_eq_true rfl⟩) (fun r_1 m_2 h => ?_)
  obtain ⟨h, hm⟩ := h
  subst hm
  refine q_if_ne (tgt := 13) X dX1_letPass_7 (by decide) (fun c_3 => ?_) (fun c_3 => ?_)
  · have h := h.1 c_3
    refine q_aload_n (j := 0) X dX1_letPass_13 rfl rfl ?_
    refine q_get (k := 0) (v := .ref (ad 1 1)) X hK rfl rfl (Nat.le_of_ble_eq_true rfl) inTX1 (gc (t := 16) (by decide) (ok1 (t := 16) (Nat.le_of_ble_eq_true rfl))) kw_2_75 rfl (rv_nn (a := ad 1) (r := 1) (ok1 (t := 1) (Nat.le_of_ble_eq_true rfl)).1) dX1_letPass_14 ?_
    refine q_getN (k := 0) (v := .int (mm.1 1 1 0)) X hK rfl rfl (Nat.le_of_ble_eq_true rfl) inTX8 (gc (t := 1) (by decide) (ok1 (t := 1) (Nat.le_of_ble_eq_true rfl))) (List.mem_of_getElem? (i := 66) rfl) rfl rfl dX1_letPass_17 ?_
    refine q_iload_n (j := 1) X dX1_letPass_20 rfl rfl ?_
    refine q_iadd X dX1_letPass_21 ?_
    refine q_sipush (v := 9999) X dX1_letPass_22 (by decide) ?_
    refine q_icmp_le (tgt := 31) X dX1_letPass_25 (by decide) (fun c_4 => ?_) (fun c_4 => ?_)
    · have h := h.1 c_4
      refine q_aload_n (j := 0) X dX1_letPass_31 rfl rfl ?_
      refine q_get (k := 1) (v := .ref (ad 12 1)) X hK rfl rfl (Nat.le_of_ble_eq_true rfl) inTX1 (gc (t := 16) (by decide) (ok1 (t := 16) (Nat.le_of_ble_eq_true rfl))) kw_2_76 rfl (rv_nn (a := ad 12) (r := 1) (ok1 (t := 12) (Nat.le_of_ble_eq_true rfl)).1) dX1_letPass_32 ?_
      refine q_aload_n (j := 0) X dX1_letPass_35 rfl rfl ?_
      refine q_get (k := 0) (v := .ref (ad 1 1)) X hK rfl rfl (Nat.le_of_ble_eq_true rfl) inTX1 (gc (t := 16) (by decide) (ok1 (t := 16) (Nat.le_of_ble_eq_true rfl))) kw_2_75 rfl (rv_nn (a := ad 1) (r := 1) (ok1 (t := 1) (Nat.le_of_ble_eq_true rfl)).1) dX1_letPass_36 ?_
      refine q_callv (q_runVN X hK hZ zo (gc (t := 12) (by decide) (ok1 (t := 12) (Nat.le_of_ble_eq_true rfl))) rfl rfl [.ref (ad 1 1)] [] rfl rfl (Nat.le_of_ble_eq_true rfl) dX1_letPass_39 ⟨Nat.le_of_ble_eq_true rfl, Nat.le_of_ble_eq_true rfl⟩ (c_X3_save ax 1 (ok1 (t := 1) (Nat.le_of_ble_eq_true rfl)) mm _ h) rfl rfl (List.mem_of_getElem? (i := 15) rfl) kw_1_8 kw_2_194 kw_2_193 ks_9 hy_X3_save.2 ⟨Nat.le_of_ble_eq_true rfl, Nat.le_of_ble_eq_true rfl⟩) (fun m_6 h => ?_)
      refine q_aload_n (j := 0) X dX1_letPass_42 rfl rfl ?_
      refine q_calli (q_runV X hK hZ zo (gc (t := 16) (by decide) (ok1 (t := 16) (Nat.le_of_ble_eq_true rfl))) rfl rfl [] [] rfl rfl (Nat.le_of_ble_eq_true rfl) dX1_letPass_43 ⟨Nat.le_of_ble_eq_true rfl, Nat.le_of_ble_eq_true rfl⟩ (c_X1_countLate ax m_6 _ h) rfl rfl (gV kw_4_141 kw_4_143 ks_57 kw_1_9 kw_4_144) hy_X1_countLate ⟨Nat.le_of_ble_eq_true rfl, Nat.le_of_ble_eq_true rfl⟩) (fun r_7 m_8 h => ?_)
      obtain ⟨h, hm⟩ := h
      subst hm
      refine q_istore_n (lv' := [(2, .int r_7), (0, .ref (ad 16 1)), (1, .int p0)]) X dX1_letPass_46 rfl (by decide) rfl ?_
      refine q_aload_n (j := 1) X dX1_letPass_47 rfl rfl ?_
      refine q_get (k := 0) (v := .ref (ad 1 1)) X hK rfl rfl (Nat.le_of_ble_eq_true rfl) inTX1 (gc (t := 16) (by decide) (ok1 (t := 16) (Nat.le_of_ble_eq_true rfl))) kw_2_75 rfl (rv_nn (a := ad 1) (r := 1) (ok1 (t := 1) (Nat.le_of_ble_eq_true rfl)).1) dX1_letPass_48 ?_
      refine q_aload_n (j := 1) X dX1_letPass_51 rfl rfl ?_
      refine q_get (k := 0) (v := .ref (ad 1 1)) X hK rfl rfl (Nat.le_of_ble_eq_true rfl) inTX1 (gc (t := 16) (by decide) (ok1 (t := 16) (Nat.le_of_ble_eq_true rfl))) kw_2_75 rfl (rv_nn (a := ad 1) (r := 1) (ok1 (t := 1) (Nat.le_of_ble_eq_true rfl)).1) dX1_letPass_52 ?_
      refine q_getN (k := 0) (v := .int (m_6.1 1 1 0)) X hK rfl rfl (Nat.le_of_ble_eq_true rfl) inTX8 (gc (t := 1) (by decide) (ok1 (t := 1) (Nat.le_of_ble_eq_true rfl))) (List.mem_of_getElem? (i := 66) rfl) rfl rfl dX1_letPass_55 ?_
      refine q_iload_n (j := 2) X dX1_letPass_58 rfl rfl ?_
      refine q_iadd X dX1_letPass_59 ?_
      refine q_putIN (k := 0) X ax hK rfl rfl (Nat.le_of_ble_eq_true rfl) inTX8 (gc (t := 1) (by decide) (ok1 (t := 1) (Nat.le_of_ble_eq_true rfl))) tyX8 tyX8_ok nmX8 (List.mem_of_getElem? (i := 66) rfl) rfl rfl (tyX8_ok 0 (Nat.le_of_ble_eq_true rfl)) rfl dX1_letPass_60 ?_
      refine q_nmP (fun m_9 em_9 => ?_)
      have h := h m_9 em_9
      refine q_aload_n (j := 1) X dX1_letPass_63 rfl rfl ?_
      refine q_calli (q_runV X hK hZ zo (gc (t := 16) (by decide) (ok1 (t := 16) (Nat.le_of_ble_eq_true rfl))) rfl rfl [] [] rfl rfl (Nat.le_of_ble_eq_true rfl) dX1_letPass_64 ⟨Nat.le_of_ble_eq_true rfl, Nat.le_of_ble_eq_true rfl⟩ (c_X1_countLate ax m_9 _ h) rfl rfl (gV kw_4_141 kw_4_143 ks_57 kw_1_9 kw_4_144) hy_X1_countLate ⟨Nat.le_of_ble_eq_true rfl, Nat.le_of_ble_eq_true rfl⟩) (fun r_10 m_11 h => ?_)
      obtain ⟨h, hm⟩ := h
      subst hm
      refine q_iload_n (j := 0) X dX1_letPass_67 rfl rfl ?_
      refine q_isub X dX1_letPass_68 ?_
      exact hE _ _ _ _ dX1_letPass_69 h
    · have h := h.2 c_4
      refine q_bipush (v := (-3)) X dX1_letPass_28 (by decide) ?_
      exact hE _ _ _ _ dX1_letPass_30 h
  · have h := h.2 c_3
    refine q_bipush (v := (-2)) X dX1_letPass_10 (by decide) ?_
    exact hE _ _ _ _ dX1_letPass_12 h
theorem dX9_day_0 : decode cX9_day 0 = .ok (.aload_n 0, 1) := by decide +kernel
theorem dX9_day_1 : decode cX9_day 1 = .ok (.getfield 10, 3) := by decide +kernel
theorem dX9_day_4 : decode cX9_day 4 = .ok (.getfield 93, 3) := by decide +kernel
theorem dX9_day_7 : decode cX9_day 7 = .ok (.ireturn, 1) := by decide +kernel
def w_X9_day  (mm : Mm) (Q9 : Int32 → Prop) : Prop :=
  Q9 (mm.1 1 1 0)
def rm_X9_day : Room := { frames := 0, cells := 0, slots := 0, locals := 0 }
theorem hy_X9_day : yX9_day.cls = RX9 ∧ yX9_day.cls ≠ "java/lang/invoke/MethodHandle" ∧ yX9_day.cls ≠ "java/lang/invoke/VarHandle" ∧ (parseMethodDescriptor yX9_day.desc).map (fun d => d.parameters.length) = some 0 := by decide +kernel
set_option maxRecDepth 100000 in
set_option maxHeartbeats 4000000 in
theorem c_X9_day {l : Launch} {D : va_G} {cA : Nat → ClassId} {ad : Nat → Nat → Nat} {A : Nat → Prop} (ax : Ax ad GC A)  (mm : Mm) (Q9 : Int32 → Prop) (h : w_X9_day mm Q9) : Met l yX9_day (.code yX9_day cX9_day 1 (some .int) :: TG) rm_X9_day (PcM TT D cA ad false GC (ZC ad A) [.ref (ad 0 1)] mm) (AnsI TT D cA ad false GC A (fun r mm' => Q9 r ∧ mm = mm')) 0 0 A := by
  have zo := ZC_ok ad A
  unfold w_X9_day at h
  refine enterI pl_X9 ⟨rfl, rfl⟩ rfl (Nat.le_of_ble_eq_true rfl) ?_
  intro p e s m args below meth c QQ X hK hZ hnm hE
  refine q_aload_n (j := 0) X dX9_day_0 rfl rfl ?_
  refine q_get (k := 0) (v := .ref (ad 1 1)) X hK rfl rfl (Nat.le_of_ble_eq_true rfl) inTX9 (gc (t := 0) (by decide) (ok1 (t := 0) (Nat.le_of_ble_eq_true rfl))) kw_2_111 rfl (rv_nn (a := ad 1) (r := 1) (ok1 (t := 1) (Nat.le_of_ble_eq_true rfl)).1) dX9_day_1 ?_
  refine q_getN (k := 0) (v := .int (mm.1 1 1 0)) X hK rfl rfl (Nat.le_of_ble_eq_true rfl) inTX8 (gc (t := 1) (by decide) (ok1 (t := 1) (Nat.le_of_ble_eq_true rfl))) (List.mem_of_getElem? (i := 67) rfl) rfl rfl dX9_day_4 ?_
  exact hE _ _ _ _ dX9_day_7 ⟨h, rfl⟩
theorem dX9_entries_0 : decode cX9_entries 0 = .ok (.aload_n 0, 1) := by decide +kernel
theorem dX9_entries_1 : decode cX9_entries 1 = .ok (.getfield 10, 3) := by decide +kernel
theorem dX9_entries_4 : decode cX9_entries 4 = .ok (.getfield 97, 3) := by decide +kernel
theorem dX9_entries_7 : decode cX9_entries 7 = .ok (.ireturn, 1) := by decide +kernel
def w_X9_entries  (mm : Mm) (Q9 : Int32 → Prop) : Prop :=
  Q9 (mm.1 1 1 1)
def rm_X9_entries : Room := { frames := 0, cells := 0, slots := 0, locals := 0 }
theorem hy_X9_entries : yX9_entries.cls = RX9 ∧ yX9_entries.cls ≠ "java/lang/invoke/MethodHandle" ∧ yX9_entries.cls ≠ "java/lang/invoke/VarHandle" ∧ (parseMethodDescriptor yX9_entries.desc).map (fun d => d.parameters.length) = some 0 := by decide +kernel
set_option maxRecDepth 100000 in
set_option maxHeartbeats 4000000 in
theorem c_X9_entries {l : Launch} {D : va_G} {cA : Nat → ClassId} {ad : Nat → Nat → Nat} {A : Nat → Prop} (ax : Ax ad GC A)  (mm : Mm) (Q9 : Int32 → Prop) (h : w_X9_entries mm Q9) : Met l yX9_entries (.code yX9_entries cX9_entries 1 (some .int) :: TG) rm_X9_entries (PcM TT D cA ad false GC (ZC ad A) [.ref (ad 0 1)] mm) (AnsI TT D cA ad false GC A (fun r mm' => Q9 r ∧ mm = mm')) 0 0 A := by
  have zo := ZC_ok ad A
  unfold w_X9_entries at h
  refine enterI pl_X9 ⟨rfl, rfl⟩ rfl (Nat.le_of_ble_eq_true rfl) ?_
  intro p e s m args below meth c QQ X hK hZ hnm hE
  refine q_aload_n (j := 0) X dX9_entries_0 rfl rfl ?_
  refine q_get (k := 0) (v := .ref (ad 1 1)) X hK rfl rfl (Nat.le_of_ble_eq_true rfl) inTX9 (gc (t := 0) (by decide) (ok1 (t := 0) (Nat.le_of_ble_eq_true rfl))) kw_2_111 rfl (rv_nn (a := ad 1) (r := 1) (ok1 (t := 1) (Nat.le_of_ble_eq_true rfl)).1) dX9_entries_1 ?_
  refine q_getN (k := 1) (v := .int (mm.1 1 1 1)) X hK rfl rfl (Nat.le_of_ble_eq_true rfl) inTX8 (gc (t := 1) (by decide) (ok1 (t := 1) (Nat.le_of_ble_eq_true rfl))) (List.mem_of_getElem? (i := 69) rfl) rfl rfl dX9_entries_4 ?_
  exact hE _ _ _ _ dX9_entries_7 ⟨h, rfl⟩
theorem dX9_entriesMade_0 : decode cX9_entriesMade 0 = .ok (.aload_n 0, 1) := by decide +kernel
theorem dX9_entriesMade_1 : decode cX9_entriesMade 1 = .ok (.getfield 10, 3) := by decide +kernel
theorem dX9_entriesMade_4 : decode cX9_entriesMade 4 = .ok (.getfield 100, 3) := by decide +kernel
theorem dX9_entriesMade_7 : decode cX9_entriesMade 7 = .ok (.ireturn, 1) := by decide +kernel
def w_X9_entriesMade  (mm : Mm) (Q9 : Int32 → Prop) : Prop :=
  Q9 (mm.1 1 1 2)
def rm_X9_entriesMade : Room := { frames := 0, cells := 0, slots := 0, locals := 0 }
theorem hy_X9_entriesMade : yX9_entriesMade.cls = RX9 ∧ yX9_entriesMade.cls ≠ "java/lang/invoke/MethodHandle" ∧ yX9_entriesMade.cls ≠ "java/lang/invoke/VarHandle" ∧ (parseMethodDescriptor yX9_entriesMade.desc).map (fun d => d.parameters.length) = some 0 := by decide +kernel
set_option maxRecDepth 100000 in
set_option maxHeartbeats 4000000 in
theorem c_X9_entriesMade {l : Launch} {D : va_G} {cA : Nat → ClassId} {ad : Nat → Nat → Nat} {A : Nat → Prop} (ax : Ax ad GC A)  (mm : Mm) (Q9 : Int32 → Prop) (h : w_X9_entriesMade mm Q9) : Met l yX9_entriesMade (.code yX9_entriesMade cX9_entriesMade 1 (some .int) :: TG) rm_X9_entriesMade (PcM TT D cA ad false GC (ZC ad A) [.ref (ad 0 1)] mm) (AnsI TT D cA ad false GC A (fun r mm' => Q9 r ∧ mm = mm')) 0 0 A := by
  have zo := ZC_ok ad A
  unfold w_X9_entriesMade at h
  refine enterI pl_X9 ⟨rfl, rfl⟩ rfl (Nat.le_of_ble_eq_true rfl) ?_
  intro p e s m args below meth c QQ X hK hZ hnm hE
  refine q_aload_n (j := 0) X dX9_entriesMade_0 rfl rfl ?_
  refine q_get (k := 0) (v := .ref (ad 1 1)) X hK rfl rfl (Nat.le_of_ble_eq_true rfl) inTX9 (gc (t := 0) (by decide) (ok1 (t := 0) (Nat.le_of_ble_eq_true rfl))) kw_2_111 rfl (rv_nn (a := ad 1) (r := 1) (ok1 (t := 1) (Nat.le_of_ble_eq_true rfl)).1) dX9_entriesMade_1 ?_
  refine q_getN (k := 2) (v := .int (mm.1 1 1 2)) X hK rfl rfl (Nat.le_of_ble_eq_true rfl) inTX8 (gc (t := 1) (by decide) (ok1 (t := 1) (Nat.le_of_ble_eq_true rfl))) (List.mem_of_getElem? (i := 70) rfl) rfl rfl dX9_entriesMade_4 ?_
  exact hE _ _ _ _ dX9_entriesMade_7 ⟨h, rfl⟩
theorem dX9_isOpenEntry_0 : decode cX9_isOpenEntry 0 = .ok (.aload_n 0, 1) := by decide +kernel
theorem dX9_isOpenEntry_1 : decode cX9_isOpenEntry 1 = .ok (.getfield 10, 3) := by decide +kernel
theorem dX9_isOpenEntry_4 : decode cX9_isOpenEntry 4 = .ok (.iload_n 1, 1) := by decide +kernel
theorem dX9_isOpenEntry_5 : decode cX9_isOpenEntry 5 = .ok (.invokevirtual 103, 3) := by decide +kernel
theorem dX9_isOpenEntry_8 : decode cX9_isOpenEntry 8 = .ok (.ifnull 7, 3) := by decide +kernel
theorem dX9_isOpenEntry_11 : decode cX9_isOpenEntry 11 = .ok (.iconst 1, 1) := by decide +kernel
theorem dX9_isOpenEntry_12 : decode cX9_isOpenEntry 12 = .ok (.goto 4, 3) := by decide +kernel
theorem dX9_isOpenEntry_15 : decode cX9_isOpenEntry 15 = .ok (.iconst 0, 1) := by decide +kernel
theorem dX9_isOpenEntry_16 : decode cX9_isOpenEntry 16 = .ok (.ireturn, 1) := by decide +kernel
def w_X9_isOpenEntry (p0 : Int32) (mm : Mm) (Q9 : Int32 → Prop) : Prop :=
  w_X8_findEntry 1 p0 mm (fun (r_1 : Nat) => ((r_1 = 0 → Q9 0) ∧
  (¬ r_1 = 0 → Q9 1)))
def rm_X9_isOpenEntry : Room := { frames := 1, cells := 0, slots := 0, locals := 22 }
theorem hy_X9_isOpenEntry : yX9_isOpenEntry.cls = RX9 ∧ yX9_isOpenEntry.cls ≠ "java/lang/invoke/MethodHandle" ∧ yX9_isOpenEntry.cls ≠ "java/lang/invoke/VarHandle" ∧ (parseMethodDescriptor yX9_isOpenEntry.desc).map (fun d => d.parameters.length) = some 1 := by decide +kernel
set_option maxRecDepth 100000 in
set_option maxHeartbeats 4000000 in
theorem c_X9_isOpenEntry {l : Launch} {D : va_G} {cA : Nat → ClassId} {ad : Nat → Nat → Nat} {A : Nat → Prop} (ax : Ax ad GC A) (p0 : Int32) (mm : Mm) (Q9 : Int32 → Prop) (h : w_X9_isOpenEntry p0 mm Q9) : Met l yX9_isOpenEntry (.code yX9_isOpenEntry cX9_isOpenEntry 2 (some .boolean) :: TG) rm_X9_isOpenEntry (PcM TT D cA ad false GC (ZC ad A) [.ref (ad 0 1), .int p0] mm) (AnsI TT D cA ad false GC A (fun r mm' => Q9 r ∧ mm = mm')) 0 0 A := by
  have zo := ZC_ok ad A
  unfold w_X9_isOpenEntry at h
  refine enterZ pl_X9 ⟨rfl, rfl⟩ rfl (Nat.le_of_ble_eq_true rfl) ?_
  intro p e s m args below meth c QQ X hK hZ hnm hE
  refine q_aload_n (j := 0) X dX9_isOpenEntry_0 rfl rfl ?_
  refine q_get (k := 0) (v := .ref (ad 1 1)) X hK rfl rfl (Nat.le_of_ble_eq_true rfl) inTX9 (gc (t := 0) (by decide) (ok1 (t := 0) (Nat.le_of_ble_eq_true rfl))) kw_2_111 rfl (rv_nn (a := ad 1) (r := 1) (ok1 (t := 1) (Nat.le_of_ble_eq_true rfl)).1) dX9_isOpenEntry_1 ?_
  refine q_iload_n (j := 1) X dX9_isOpenEntry_4 rfl rfl ?_
  refine q_callr (q_runVN X hK hZ zo (gc (t := 1) (by decide) (ok1 (t := 1) (Nat.le_of_ble_eq_true rfl))) rfl rfl [.int p0] [] rfl rfl (Nat.le_of_ble_eq_true rfl) dX9_isOpenEntry_5 ⟨Nat.le_of_ble_eq_true rfl, Nat.le_of_ble_eq_true rfl⟩ (c_X8_findEntry ax 1 (ok1 (t := 1) (Nat.le_of_ble_eq_true rfl)) p0 mm _ h) rfl rfl (List.mem_of_getElem? (i := 69) rfl) kw_1_2 kw_3_106 kw_3_105 ks_19 hy_X8_findEntry.2 ⟨Nat.le_of_ble_eq_true rfl, Nat.le_of_ble_eq_true rfl⟩) (fun r_1 m_2 h => ?_)
  obtain ⟨h, hm⟩ := h
  subst hm
  refine q_ifnull (tgt := 15) X dX9_isOpenEntry_8 (by decide) (fun c_3 => ?_) (fun c_3 => ?_)
  · have h := h.1 c_3
    refine q_iconst (v := 0) X dX9_isOpenEntry_15 (by decide) ?_
    exact hE _ _ _ _ dX9_isOpenEntry_16 (Or.inl rfl) ⟨h, rfl⟩
  · have h := h.2 c_3
    refine q_iconst (v := 1) X dX9_isOpenEntry_11 (by decide) ?_
    refine q_goto (tgt := 16) X dX9_isOpenEntry_12 (by decide) ?_
    exact hE _ _ _ _ dX9_isOpenEntry_16 (Or.inr rfl) ⟨h, rfl⟩
theorem dX8_countIn_0 : decode cX8_countIn 0 = .ok (.iconst 0, 1) := by decide +kernel
theorem dX8_countIn_1 : decode cX8_countIn 1 = .ok (.istore_n 2, 1) := by decide +kernel
theorem dX8_countIn_2 : decode cX8_countIn 2 = .ok (.iconst 0, 1) := by decide +kernel
theorem dX8_countIn_3 : decode cX8_countIn 3 = .ok (.istore_n 3, 1) := by decide +kernel
theorem dX8_countIn_4 : decode cX8_countIn 4 = .ok (.iload_n 3, 1) := by decide +kernel
theorem dX8_countIn_5 : decode cX8_countIn 5 = .ok (.aload_n 0, 1) := by decide +kernel
theorem dX8_countIn_6 : decode cX8_countIn 6 = .ok (.getfield 62, 3) := by decide +kernel
theorem dX8_countIn_9 : decode cX8_countIn 9 = .ok (.if_icmp .ge 25, 3) := by decide +kernel
theorem dX8_countIn_12 : decode cX8_countIn 12 = .ok (.aload_n 0, 1) := by decide +kernel
theorem dX8_countIn_13 : decode cX8_countIn 13 = .ok (.getfield 20, 3) := by decide +kernel
theorem dX8_countIn_16 : decode cX8_countIn 16 = .ok (.iload_n 3, 1) := by decide +kernel
theorem dX8_countIn_17 : decode cX8_countIn 17 = .ok (.aaload, 1) := by decide +kernel
theorem dX8_countIn_18 : decode cX8_countIn 18 = .ok (.getfield 150, 3) := by decide +kernel
theorem dX8_countIn_21 : decode cX8_countIn 21 = .ok (.iload_n 1, 1) := by decide +kernel
theorem dX8_countIn_22 : decode cX8_countIn 22 = .ok (.if_icmp .ne 6, 3) := by decide +kernel
theorem dX8_countIn_25 : decode cX8_countIn 25 = .ok (.iinc 2 1, 3) := by decide +kernel
theorem dX8_countIn_28 : decode cX8_countIn 28 = .ok (.iinc 3 1, 3) := by decide +kernel
theorem dX8_countIn_31 : decode cX8_countIn 31 = .ok (.goto (-27), 3) := by decide +kernel
theorem dX8_countIn_34 : decode cX8_countIn 34 = .ok (.iload_n 2, 1) := by decide +kernel
theorem dX8_countIn_35 : decode cX8_countIn 35 = .ok (.ireturn, 1) := by decide +kernel
def w_X8_countIn_B4 (i : Nat) (p0 : Int32) (mm : Mm) (Q9 : Int32 → Prop) (K_3 : Int32 → Int32 → Prop) (y_1 : Int32) (y_2 : Int32) : Prop :=
  (((mm.1 1 i 1) ≤ y_2 → Q9 y_1) ∧
  (¬ (mm.1 1 i 1) ≤ y_2 → vp_in y_2 16 ∧ (ok 3 (mm.2 7 i y_2.toNatClampNeg) ∧ (((¬ (mm.1 3 (mm.2 7 i y_2.toNatClampNeg) 4) = p0 → ∀ x_9 : Int32, x_9 = y_2 + 1 → (K_3 y_1 x_9)) ∧
  ((mm.1 3 (mm.2 7 i y_2.toNatClampNeg) 4) = p0 → ∀ x_10 : Int32, x_10 = y_1 + 1 → (∀ x_11 : Int32, x_11 = y_2 + 1 → (K_3 x_10 x_11))))))))
def w_X8_countIn (i : Nat) (p0 : Int32) (mm : Mm) (Q9 : Int32 → Prop) : Prop :=
  ∃ n, itr (α := Int32 × Int32) (fun K a => w_X8_countIn_B4 i p0 mm Q9 (fun z0 z1 => K (z0, z1)) a.1 a.2) n (0, 0)
def rm_X8_countIn : Room := { frames := 0, cells := 0, slots := 0, locals := 0 }
theorem hy_X8_countIn : yX8_countIn.cls = RX8 ∧ yX8_countIn.cls ≠ "java/lang/invoke/MethodHandle" ∧ yX8_countIn.cls ≠ "java/lang/invoke/VarHandle" ∧ (parseMethodDescriptor yX8_countIn.desc).map (fun d => d.parameters.length) = some 1 := by decide +kernel
set_option maxRecDepth 100000 in
set_option maxHeartbeats 4000000 in
theorem c_X8_countIn {l : Launch} {D : va_G} {cA : Nat → ClassId} {ad : Nat → Nat → Nat} {A : Nat → Prop} (ax : Ax ad GC A) (i : Nat) (hi : ok 1 i) (p0 : Int32) (mm : Mm) (Q9 : Int32 → Prop) (h : w_X8_countIn i p0 mm Q9) : Met l yX8_countIn (.code yX8_countIn cX8_countIn 4 (some .int) :: TG) rm_X8_countIn (PcM TT D cA ad false GC (ZC ad A) [.ref (ad 1 i), .int p0] mm) (AnsI TT D cA ad false GC A (fun r mm' => Q9 r ∧ mm = mm')) 0 0 A := by
  have zo := ZC_ok ad A
  unfold w_X8_countIn at h
  refine enterI pl_X8 ⟨rfl, rfl⟩ rfl (Nat.le_of_ble_eq_true rfl) ?_
  intro p e s m args below meth c QQ X hK hZ hnm hE
  refine q_iconst (v := 0) X dX8_countIn_0 (by decide) ?_
  refine q_istore_n (lv' := [(2, .int 0), (0, .ref (ad 1 i)), (1, .int p0)]) X dX8_countIn_1 rfl (by decide) rfl ?_
  refine q_iconst (v := 0) X dX8_countIn_2 (by decide) ?_
  refine q_istore_n (lv' := [(3, .int 0), (2, .int 0), (0, .ref (ad 1 i)), (1, .int p0)]) X dX8_countIn_3 rfl (by decide) rfl ?_
  refine q_sub [2, 3, 1, 0] rfl ?_
  have L4 : ∀ (n : Nat) (y_1 : Int32) (y_2 : Int32), itr (α := Int32 × Int32) (fun K a => w_X8_countIn_B4 i p0 mm Q9 (fun z0 z1 => K (z0, z1)) a.1 a.2) n (y_1, y_2) → V p l e rm_X8_countIn s m args below meth c QQ 4 A 0 0 (Rep TT D cA ad false GC mm) 4 [(0, .ref (ad 1 i)), (1, .int p0), (2, .int y_1), (3, .int y_2)] [] := by
    intro n
    induction n with
    | zero => intro y_1 y_2 h; exact h.elim
    | succ n ih_4 =>
      intro y_1 y_2 h
      have h : w_X8_countIn_B4 i p0 mm Q9 (fun z0 z1 => itr (α := Int32 × Int32) (fun K a => w_X8_countIn_B4 i p0 mm Q9 (fun z0 z1 => K (z0, z1)) a.1 a.2) n (z0, z1)) y_1 y_2 := h
      unfold w_X8_countIn_B4 at h
      refine q_iload_n (j := 3) X dX8_countIn_4 rfl rfl ?_
      refine q_aload_n (j := 0) X dX8_countIn_5 rfl rfl ?_
      refine q_get (k := 1) (v := .int (mm.1 1 i 1)) X hK rfl rfl (Nat.le_of_ble_eq_true rfl) inTX8 (gc (t := 1) (by decide) hi) kw_1_230 rfl rfl dX8_countIn_6 ?_
      refine q_icmp_ge (tgt := 34) X dX8_countIn_9 (by decide) (fun c_5 => ?_) (fun c_5 => ?_)
      · have h := h.1 c_5
        refine q_iload_n (j := 2) X dX8_countIn_34 rfl rfl ?_
        exact hE _ _ _ _ dX8_countIn_35 ⟨h, rfl⟩
      · have h := h.2 c_5
        refine q_aload_n (j := 0) X dX8_countIn_12 rfl rfl ?_
        refine q_get (k := 6) (v := .ref (ad 7 i)) X hK rfl rfl (Nat.le_of_ble_eq_true rfl) inTX8 (gc (t := 1) (by decide) hi) kw_2_2 rfl (rv_nn (a := ad 7) (r := i) hi.1) dX8_countIn_13 ?_
        refine q_iload_n (j := 3) X dX8_countIn_16 rfl rfl ?_
        obtain ⟨b_6, h⟩ := h
        refine q_aald (t := 7) (i := i) (jn := y_2.toNatClampNeg) (v := rv (ad 3) (mm.2 7 i y_2.toNatClampNeg)) X hK rfl rfl (gc (t := 7) (by decide) hi) rfl b_6 rfl rfl dX8_countIn_17 ?_
        obtain ⟨k_7, h⟩ := h
        rw [rv_nn (a := ad 3) (r := (mm.2 7 i y_2.toNatClampNeg)) k_7.1]
        refine q_getN (k := 4) (v := .int (mm.1 3 (mm.2 7 i y_2.toNatClampNeg) 4)) X hK rfl rfl (Nat.le_of_ble_eq_true rfl) inTX2 (gc (t := 3) (by decide) k_7) (List.mem_of_getElem? (i := 25) rfl) rfl rfl dX8_countIn_18 ?_
        refine q_iload_n (j := 1) X dX8_countIn_21 rfl rfl ?_
        refine q_icmp_ne (tgt := 28) X dX8_countIn_22 (by decide) (fun c_8 => ?_) (fun c_8 => ?_)
        · have h := h.1 c_8
          obtain ⟨x_9, ex_9⟩ : ∃ z : Int32, z = y_2 + 1 := ⟨_, rfl⟩
          have h := h x_9 ex_9
          refine q_iinc (j := 3) (v := x_9) (lv' := [(3, .int x_9), (0, .ref (ad 1 i)), (1, .int p0), (2, .int y_1)]) X dX8_countIn_28 rfl (by rw [ex_9]; rfl) (by decide) rfl ?_
          refine q_goto (tgt := 4) X dX8_countIn_31 (by decide) ?_
          refine q_sub [1, 2, 3, 0] rfl ?_
          exact ih_4 y_1 x_9 h
        · have h := h.2 c_8
          obtain ⟨x_10, ex_10⟩ : ∃ z : Int32, z = y_1 + 1 := ⟨_, rfl⟩
          have h := h x_10 ex_10
          refine q_iinc (j := 2) (v := x_10) (lv' := [(2, .int x_10), (0, .ref (ad 1 i)), (1, .int p0), (3, .int y_2)]) X dX8_countIn_25 rfl (by rw [ex_10]; rfl) (by decide) rfl ?_
          obtain ⟨x_11, ex_11⟩ : ∃ z : Int32, z = y_2 + 1 := ⟨_, rfl⟩
          have h := h x_11 ex_11
          refine q_iinc (j := 3) (v := x_11) (lv' := [(3, .int x_11), (2, .int x_10), (0, .ref (ad 1 i)), (1, .int p0)]) X dX8_countIn_28 rfl (by rw [ex_11]; rfl) (by decide) rfl ?_
          refine q_goto (tgt := 4) X dX8_countIn_31 (by decide) ?_
          refine q_sub [2, 3, 1, 0] rfl ?_
          exact ih_4 x_10 x_11 h
  obtain ⟨n_12, h⟩ := h
  exact L4 n_12 0 0 h
theorem dX9_receipts_0 : decode cX9_receipts 0 = .ok (.aload_n 0, 1) := by decide +kernel
theorem dX9_receipts_1 : decode cX9_receipts 1 = .ok (.getfield 10, 3) := by decide +kernel
theorem dX9_receipts_4 : decode cX9_receipts 4 = .ok (.getfield 198, 3) := by decide +kernel
theorem dX9_receipts_7 : decode cX9_receipts 7 = .ok (.ireturn, 1) := by decide +kernel
def w_X9_receipts  (mm : Mm) (Q9 : Int32 → Prop) : Prop :=
  Q9 (mm.1 1 1 4)
def rm_X9_receipts : Room := { frames := 0, cells := 0, slots := 0, locals := 0 }
theorem hy_X9_receipts : yX9_receipts.cls = RX9 ∧ yX9_receipts.cls ≠ "java/lang/invoke/MethodHandle" ∧ yX9_receipts.cls ≠ "java/lang/invoke/VarHandle" ∧ (parseMethodDescriptor yX9_receipts.desc).map (fun d => d.parameters.length) = some 0 := by decide +kernel
set_option maxRecDepth 100000 in
set_option maxHeartbeats 4000000 in
theorem c_X9_receipts {l : Launch} {D : va_G} {cA : Nat → ClassId} {ad : Nat → Nat → Nat} {A : Nat → Prop} (ax : Ax ad GC A)  (mm : Mm) (Q9 : Int32 → Prop) (h : w_X9_receipts mm Q9) : Met l yX9_receipts (.code yX9_receipts cX9_receipts 1 (some .int) :: TG) rm_X9_receipts (PcM TT D cA ad false GC (ZC ad A) [.ref (ad 0 1)] mm) (AnsI TT D cA ad false GC A (fun r mm' => Q9 r ∧ mm = mm')) 0 0 A := by
  have zo := ZC_ok ad A
  unfold w_X9_receipts at h
  refine enterI pl_X9 ⟨rfl, rfl⟩ rfl (Nat.le_of_ble_eq_true rfl) ?_
  intro p e s m args below meth c QQ X hK hZ hnm hE
  refine q_aload_n (j := 0) X dX9_receipts_0 rfl rfl ?_
  refine q_get (k := 0) (v := .ref (ad 1 1)) X hK rfl rfl (Nat.le_of_ble_eq_true rfl) inTX9 (gc (t := 0) (by decide) (ok1 (t := 0) (Nat.le_of_ble_eq_true rfl))) kw_2_111 rfl (rv_nn (a := ad 1) (r := 1) (ok1 (t := 1) (Nat.le_of_ble_eq_true rfl)).1) dX9_receipts_1 ?_
  refine q_getN (k := 4) (v := .int (mm.1 1 1 4)) X hK rfl rfl (Nat.le_of_ble_eq_true rfl) inTX8 (gc (t := 1) (by decide) (ok1 (t := 1) (Nat.le_of_ble_eq_true rfl))) (List.mem_of_getElem? (i := 72) rfl) rfl rfl dX9_receipts_4 ?_
  exact hE _ _ _ _ dX9_receipts_7 ⟨h, rfl⟩
theorem dX9_bond_0 : decode cX9_bond 0 = .ok (.aload_n 0, 1) := by decide +kernel
theorem dX9_bond_1 : decode cX9_bond 1 = .ok (.getfield 10, 3) := by decide +kernel
theorem dX9_bond_4 : decode cX9_bond 4 = .ok (.getfield 227, 3) := by decide +kernel
theorem dX9_bond_7 : decode cX9_bond 7 = .ok (.getfield 231, 3) := by decide +kernel
theorem dX9_bond_10 : decode cX9_bond 10 = .ok (.ireturn, 1) := by decide +kernel
def w_X9_bond  (mm : Mm) (Q9 : Int32 → Prop) : Prop :=
  Q9 (mm.1 2 1 0)
def rm_X9_bond : Room := { frames := 0, cells := 0, slots := 0, locals := 0 }
theorem hy_X9_bond : yX9_bond.cls = RX9 ∧ yX9_bond.cls ≠ "java/lang/invoke/MethodHandle" ∧ yX9_bond.cls ≠ "java/lang/invoke/VarHandle" ∧ (parseMethodDescriptor yX9_bond.desc).map (fun d => d.parameters.length) = some 0 := by decide +kernel
set_option maxRecDepth 100000 in
set_option maxHeartbeats 4000000 in
theorem c_X9_bond {l : Launch} {D : va_G} {cA : Nat → ClassId} {ad : Nat → Nat → Nat} {A : Nat → Prop} (ax : Ax ad GC A)  (mm : Mm) (Q9 : Int32 → Prop) (h : w_X9_bond mm Q9) : Met l yX9_bond (.code yX9_bond cX9_bond 1 (some .int) :: TG) rm_X9_bond (PcM TT D cA ad false GC (ZC ad A) [.ref (ad 0 1)] mm) (AnsI TT D cA ad false GC A (fun r mm' => Q9 r ∧ mm = mm')) 0 0 A := by
  have zo := ZC_ok ad A
  unfold w_X9_bond at h
  refine enterI pl_X9 ⟨rfl, rfl⟩ rfl (Nat.le_of_ble_eq_true rfl) ?_
  intro p e s m args below meth c QQ X hK hZ hnm hE
  refine q_aload_n (j := 0) X dX9_bond_0 rfl rfl ?_
  refine q_get (k := 0) (v := .ref (ad 1 1)) X hK rfl rfl (Nat.le_of_ble_eq_true rfl) inTX9 (gc (t := 0) (by decide) (ok1 (t := 0) (Nat.le_of_ble_eq_true rfl))) kw_2_111 rfl (rv_nn (a := ad 1) (r := 1) (ok1 (t := 1) (Nat.le_of_ble_eq_true rfl)).1) dX9_bond_1 ?_
  refine q_getN (k := 5) (v := .ref (ad 2 1)) X hK rfl rfl (Nat.le_of_ble_eq_true rfl) inTX8 (gc (t := 1) (by decide) (ok1 (t := 1) (Nat.le_of_ble_eq_true rfl))) (List.mem_of_getElem? (i := 74) rfl) rfl (rv_nn (a := ad 2) (r := 1) (ok1 (t := 2) (Nat.le_of_ble_eq_true rfl)).1) dX9_bond_4 ?_
  refine q_getN (k := 0) (v := .int (mm.1 2 1 0)) X hK rfl rfl (Nat.le_of_ble_eq_true rfl) inTX6 (gc (t := 2) (by decide) (ok1 (t := 2) (Nat.le_of_ble_eq_true rfl))) (List.mem_of_getElem? (i := 2) rfl) rfl rfl dX9_bond_7 ?_
  exact hE _ _ _ _ dX9_bond_10 ⟨h, rfl⟩
theorem dX9_dutyAtStake_0 : decode cX9_dutyAtStake 0 = .ok (.aload_n 0, 1) := by decide +kernel
theorem dX9_dutyAtStake_1 : decode cX9_dutyAtStake 1 = .ok (.getfield 10, 3) := by decide +kernel
theorem dX9_dutyAtStake_4 : decode cX9_dutyAtStake 4 = .ok (.invokevirtual 168, 3) := by decide +kernel
theorem dX9_dutyAtStake_7 : decode cX9_dutyAtStake 7 = .ok (.ireturn, 1) := by decide +kernel
def w_X9_dutyAtStake  (mm : Mm) (Q9 : Int32 → Prop) : Prop :=
  w_X8_stake 1 mm (fun (r_1 : Int32) => Q9 r_1)
def rm_X9_dutyAtStake : Room := { frames := 3, cells := 0, slots := 0, locals := 68 }
theorem hy_X9_dutyAtStake : yX9_dutyAtStake.cls = RX9 ∧ yX9_dutyAtStake.cls ≠ "java/lang/invoke/MethodHandle" ∧ yX9_dutyAtStake.cls ≠ "java/lang/invoke/VarHandle" ∧ (parseMethodDescriptor yX9_dutyAtStake.desc).map (fun d => d.parameters.length) = some 0 := by decide +kernel
set_option maxRecDepth 100000 in
set_option maxHeartbeats 4000000 in
theorem c_X9_dutyAtStake {l : Launch} {D : va_G} {cA : Nat → ClassId} {ad : Nat → Nat → Nat} {A : Nat → Prop} (ax : Ax ad GC A)  (mm : Mm) (Q9 : Int32 → Prop) (h : w_X9_dutyAtStake mm Q9) : Met l yX9_dutyAtStake (.code yX9_dutyAtStake cX9_dutyAtStake 1 (some .int) :: TG) rm_X9_dutyAtStake (PcM TT D cA ad false GC (ZC ad A) [.ref (ad 0 1)] mm) (AnsI TT D cA ad false GC A (fun r mm' => Q9 r ∧ mm = mm')) 0 0 A := by
  have zo := ZC_ok ad A
  unfold w_X9_dutyAtStake at h
  refine enterI pl_X9 ⟨rfl, rfl⟩ rfl (Nat.le_of_ble_eq_true rfl) ?_
  intro p e s m args below meth c QQ X hK hZ hnm hE
  refine q_aload_n (j := 0) X dX9_dutyAtStake_0 rfl rfl ?_
  refine q_get (k := 0) (v := .ref (ad 1 1)) X hK rfl rfl (Nat.le_of_ble_eq_true rfl) inTX9 (gc (t := 0) (by decide) (ok1 (t := 0) (Nat.le_of_ble_eq_true rfl))) kw_2_111 rfl (rv_nn (a := ad 1) (r := 1) (ok1 (t := 1) (Nat.le_of_ble_eq_true rfl)).1) dX9_dutyAtStake_1 ?_
  refine q_calli (q_runVN X hK hZ zo (gc (t := 1) (by decide) (ok1 (t := 1) (Nat.le_of_ble_eq_true rfl))) rfl rfl [] [] rfl rfl (Nat.le_of_ble_eq_true rfl) dX9_dutyAtStake_4 ⟨Nat.le_of_ble_eq_true rfl, Nat.le_of_ble_eq_true rfl⟩ (c_X8_stake ax 1 (ok1 (t := 1) (Nat.le_of_ble_eq_true rfl)) mm _ h) rfl rfl (List.mem_of_getElem? (i := 103) rfl) kw_1_2 kw_2_178 kw_2_177 ks_5 hy_X8_stake.2 ⟨Nat.le_of_ble_eq_true rfl, Nat.le_of_ble_eq_true rfl⟩) (fun r_1 m_2 h => ?_)
  obtain ⟨h, hm⟩ := h
  subst hm
  exact hE _ _ _ _ dX9_dutyAtStake_7 ⟨h, rfl⟩
theorem dX9_account_0 : decode cX9_account 0 = .ok (.aload_n 0, 1) := by decide +kernel
theorem dX9_account_1 : decode cX9_account 1 = .ok (.getfield 10, 3) := by decide +kernel
theorem dX9_account_4 : decode cX9_account 4 = .ok (.getfield 227, 3) := by decide +kernel
theorem dX9_account_7 : decode cX9_account 7 = .ok (.getfield 236, 3) := by decide +kernel
theorem dX9_account_10 : decode cX9_account 10 = .ok (.ireturn, 1) := by decide +kernel
def w_X9_account  (mm : Mm) (Q9 : Int32 → Prop) : Prop :=
  Q9 (mm.1 2 1 1)
def rm_X9_account : Room := { frames := 0, cells := 0, slots := 0, locals := 0 }
theorem hy_X9_account : yX9_account.cls = RX9 ∧ yX9_account.cls ≠ "java/lang/invoke/MethodHandle" ∧ yX9_account.cls ≠ "java/lang/invoke/VarHandle" ∧ (parseMethodDescriptor yX9_account.desc).map (fun d => d.parameters.length) = some 0 := by decide +kernel
set_option maxRecDepth 100000 in
set_option maxHeartbeats 4000000 in
theorem c_X9_account {l : Launch} {D : va_G} {cA : Nat → ClassId} {ad : Nat → Nat → Nat} {A : Nat → Prop} (ax : Ax ad GC A)  (mm : Mm) (Q9 : Int32 → Prop) (h : w_X9_account mm Q9) : Met l yX9_account (.code yX9_account cX9_account 1 (some .int) :: TG) rm_X9_account (PcM TT D cA ad false GC (ZC ad A) [.ref (ad 0 1)] mm) (AnsI TT D cA ad false GC A (fun r mm' => Q9 r ∧ mm = mm')) 0 0 A := by
  have zo := ZC_ok ad A
  unfold w_X9_account at h
  refine enterI pl_X9 ⟨rfl, rfl⟩ rfl (Nat.le_of_ble_eq_true rfl) ?_
  intro p e s m args below meth c QQ X hK hZ hnm hE
  refine q_aload_n (j := 0) X dX9_account_0 rfl rfl ?_
  refine q_get (k := 0) (v := .ref (ad 1 1)) X hK rfl rfl (Nat.le_of_ble_eq_true rfl) inTX9 (gc (t := 0) (by decide) (ok1 (t := 0) (Nat.le_of_ble_eq_true rfl))) kw_2_111 rfl (rv_nn (a := ad 1) (r := 1) (ok1 (t := 1) (Nat.le_of_ble_eq_true rfl)).1) dX9_account_1 ?_
  refine q_getN (k := 5) (v := .ref (ad 2 1)) X hK rfl rfl (Nat.le_of_ble_eq_true rfl) inTX8 (gc (t := 1) (by decide) (ok1 (t := 1) (Nat.le_of_ble_eq_true rfl))) (List.mem_of_getElem? (i := 74) rfl) rfl (rv_nn (a := ad 2) (r := 1) (ok1 (t := 2) (Nat.le_of_ble_eq_true rfl)).1) dX9_account_4 ?_
  refine q_getN (k := 1) (v := .int (mm.1 2 1 1)) X hK rfl rfl (Nat.le_of_ble_eq_true rfl) inTX6 (gc (t := 2) (by decide) (ok1 (t := 2) (Nat.le_of_ble_eq_true rfl))) (List.mem_of_getElem? (i := 5) rfl) rfl rfl dX9_account_7 ?_
  exact hE _ _ _ _ dX9_account_10 ⟨h, rfl⟩
theorem dX9_debt_0 : decode cX9_debt 0 = .ok (.aload_n 0, 1) := by decide +kernel
theorem dX9_debt_1 : decode cX9_debt 1 = .ok (.getfield 10, 3) := by decide +kernel
theorem dX9_debt_4 : decode cX9_debt 4 = .ok (.getfield 227, 3) := by decide +kernel
theorem dX9_debt_7 : decode cX9_debt 7 = .ok (.getfield 239, 3) := by decide +kernel
theorem dX9_debt_10 : decode cX9_debt 10 = .ok (.ireturn, 1) := by decide +kernel
def w_X9_debt  (mm : Mm) (Q9 : Int32 → Prop) : Prop :=
  Q9 (mm.1 2 1 2)
def rm_X9_debt : Room := { frames := 0, cells := 0, slots := 0, locals := 0 }
theorem hy_X9_debt : yX9_debt.cls = RX9 ∧ yX9_debt.cls ≠ "java/lang/invoke/MethodHandle" ∧ yX9_debt.cls ≠ "java/lang/invoke/VarHandle" ∧ (parseMethodDescriptor yX9_debt.desc).map (fun d => d.parameters.length) = some 0 := by decide +kernel
set_option maxRecDepth 100000 in
set_option maxHeartbeats 4000000 in
theorem c_X9_debt {l : Launch} {D : va_G} {cA : Nat → ClassId} {ad : Nat → Nat → Nat} {A : Nat → Prop} (ax : Ax ad GC A)  (mm : Mm) (Q9 : Int32 → Prop) (h : w_X9_debt mm Q9) : Met l yX9_debt (.code yX9_debt cX9_debt 1 (some .int) :: TG) rm_X9_debt (PcM TT D cA ad false GC (ZC ad A) [.ref (ad 0 1)] mm) (AnsI TT D cA ad false GC A (fun r mm' => Q9 r ∧ mm = mm')) 0 0 A := by
  have zo := ZC_ok ad A
  unfold w_X9_debt at h
  refine enterI pl_X9 ⟨rfl, rfl⟩ rfl (Nat.le_of_ble_eq_true rfl) ?_
  intro p e s m args below meth c QQ X hK hZ hnm hE
  refine q_aload_n (j := 0) X dX9_debt_0 rfl rfl ?_
  refine q_get (k := 0) (v := .ref (ad 1 1)) X hK rfl rfl (Nat.le_of_ble_eq_true rfl) inTX9 (gc (t := 0) (by decide) (ok1 (t := 0) (Nat.le_of_ble_eq_true rfl))) kw_2_111 rfl (rv_nn (a := ad 1) (r := 1) (ok1 (t := 1) (Nat.le_of_ble_eq_true rfl)).1) dX9_debt_1 ?_
  refine q_getN (k := 5) (v := .ref (ad 2 1)) X hK rfl rfl (Nat.le_of_ble_eq_true rfl) inTX8 (gc (t := 1) (by decide) (ok1 (t := 1) (Nat.le_of_ble_eq_true rfl))) (List.mem_of_getElem? (i := 74) rfl) rfl (rv_nn (a := ad 2) (r := 1) (ok1 (t := 2) (Nat.le_of_ble_eq_true rfl)).1) dX9_debt_4 ?_
  refine q_getN (k := 2) (v := .int (mm.1 2 1 2)) X hK rfl rfl (Nat.le_of_ble_eq_true rfl) inTX6 (gc (t := 2) (by decide) (ok1 (t := 2) (Nat.le_of_ble_eq_true rfl))) (List.mem_of_getElem? (i := 7) rfl) rfl rfl dX9_debt_7 ?_
  exact hE _ _ _ _ dX9_debt_10 ⟨h, rfl⟩
theorem dX9_balance_0 : decode cX9_balance 0 = .ok (.aload_n 0, 1) := by decide +kernel
theorem dX9_balance_1 : decode cX9_balance 1 = .ok (.getfield 10, 3) := by decide +kernel
theorem dX9_balance_4 : decode cX9_balance 4 = .ok (.getfield 227, 3) := by decide +kernel
theorem dX9_balance_7 : decode cX9_balance 7 = .ok (.getfield 236, 3) := by decide +kernel
theorem dX9_balance_10 : decode cX9_balance 10 = .ok (.aload_n 0, 1) := by decide +kernel
theorem dX9_balance_11 : decode cX9_balance 11 = .ok (.getfield 10, 3) := by decide +kernel
theorem dX9_balance_14 : decode cX9_balance 14 = .ok (.getfield 227, 3) := by decide +kernel
theorem dX9_balance_17 : decode cX9_balance 17 = .ok (.getfield 239, 3) := by decide +kernel
theorem dX9_balance_20 : decode cX9_balance 20 = .ok (.isub, 1) := by decide +kernel
theorem dX9_balance_21 : decode cX9_balance 21 = .ok (.ireturn, 1) := by decide +kernel
def w_X9_balance  (mm : Mm) (Q9 : Int32 → Prop) : Prop :=
  Q9 ((mm.1 2 1 1) - (mm.1 2 1 2))
def rm_X9_balance : Room := { frames := 0, cells := 0, slots := 0, locals := 0 }
theorem hy_X9_balance : yX9_balance.cls = RX9 ∧ yX9_balance.cls ≠ "java/lang/invoke/MethodHandle" ∧ yX9_balance.cls ≠ "java/lang/invoke/VarHandle" ∧ (parseMethodDescriptor yX9_balance.desc).map (fun d => d.parameters.length) = some 0 := by decide +kernel
set_option maxRecDepth 100000 in
set_option maxHeartbeats 4000000 in
theorem c_X9_balance {l : Launch} {D : va_G} {cA : Nat → ClassId} {ad : Nat → Nat → Nat} {A : Nat → Prop} (ax : Ax ad GC A)  (mm : Mm) (Q9 : Int32 → Prop) (h : w_X9_balance mm Q9) : Met l yX9_balance (.code yX9_balance cX9_balance 1 (some .int) :: TG) rm_X9_balance (PcM TT D cA ad false GC (ZC ad A) [.ref (ad 0 1)] mm) (AnsI TT D cA ad false GC A (fun r mm' => Q9 r ∧ mm = mm')) 0 0 A := by
  have zo := ZC_ok ad A
  unfold w_X9_balance at h
  refine enterI pl_X9 ⟨rfl, rfl⟩ rfl (Nat.le_of_ble_eq_true rfl) ?_
  intro p e s m args below meth c QQ X hK hZ hnm hE
  refine q_aload_n (j := 0) X dX9_balance_0 rfl rfl ?_
  refine q_get (k := 0) (v := .ref (ad 1 1)) X hK rfl rfl (Nat.le_of_ble_eq_true rfl) inTX9 (gc (t := 0) (by decide) (ok1 (t := 0) (Nat.le_of_ble_eq_true rfl))) kw_2_111 rfl (rv_nn (a := ad 1) (r := 1) (ok1 (t := 1) (Nat.le_of_ble_eq_true rfl)).1) dX9_balance_1 ?_
  refine q_getN (k := 5) (v := .ref (ad 2 1)) X hK rfl rfl (Nat.le_of_ble_eq_true rfl) inTX8 (gc (t := 1) (by decide) (ok1 (t := 1) (Nat.le_of_ble_eq_true rfl))) (List.mem_of_getElem? (i := 74) rfl) rfl (rv_nn (a := ad 2) (r := 1) (ok1 (t := 2) (Nat.le_of_ble_eq_true rfl)).1) dX9_balance_4 ?_
  refine q_getN (k := 1) (v := .int (mm.1 2 1 1)) X hK rfl rfl (Nat.le_of_ble_eq_true rfl) inTX6 (gc (t := 2) (by decide) (ok1 (t := 2) (Nat.le_of_ble_eq_true rfl))) (List.mem_of_getElem? (i := 5) rfl) rfl rfl dX9_balance_7 ?_
  refine q_aload_n (j := 0) X dX9_balance_10 rfl rfl ?_
  refine q_get (k := 0) (v := .ref (ad 1 1)) X hK rfl rfl (Nat.le_of_ble_eq_true rfl) inTX9 (gc (t := 0) (by decide) (ok1 (t := 0) (Nat.le_of_ble_eq_true rfl))) kw_2_111 rfl (rv_nn (a := ad 1) (r := 1) (ok1 (t := 1) (Nat.le_of_ble_eq_true rfl)).1) dX9_balance_11 ?_
  refine q_getN (k := 5) (v := .ref (ad 2 1)) X hK rfl rfl (Nat.le_of_ble_eq_true rfl) inTX8 (gc (t := 1) (by decide) (ok1 (t := 1) (Nat.le_of_ble_eq_true rfl))) (List.mem_of_getElem? (i := 74) rfl) rfl (rv_nn (a := ad 2) (r := 1) (ok1 (t := 2) (Nat.le_of_ble_eq_true rfl)).1) dX9_balance_14 ?_
  refine q_getN (k := 2) (v := .int (mm.1 2 1 2)) X hK rfl rfl (Nat.le_of_ble_eq_true rfl) inTX6 (gc (t := 2) (by decide) (ok1 (t := 2) (Nat.le_of_ble_eq_true rfl))) (List.mem_of_getElem? (i := 7) rfl) rfl rfl dX9_balance_17 ?_
  refine q_isub X dX9_balance_20 ?_
  exact hE _ _ _ _ dX9_balance_21 ⟨h, rfl⟩
theorem dX9_balanceByTotals_0 : decode cX9_balanceByTotals 0 = .ok (.aload_n 0, 1) := by decide +kernel
theorem dX9_balanceByTotals_1 : decode cX9_balanceByTotals 1 = .ok (.getfield 10, 3) := by decide +kernel
theorem dX9_balanceByTotals_4 : decode cX9_balanceByTotals 4 = .ok (.getfield 227, 3) := by decide +kernel
theorem dX9_balanceByTotals_7 : decode cX9_balanceByTotals 7 = .ok (.astore_n 1, 1) := by decide +kernel
theorem dX9_balanceByTotals_8 : decode cX9_balanceByTotals 8 = .ok (.aload_n 1, 1) := by decide +kernel
theorem dX9_balanceByTotals_9 : decode cX9_balanceByTotals 9 = .ok (.getfield 242, 3) := by decide +kernel
theorem dX9_balanceByTotals_12 : decode cX9_balanceByTotals 12 = .ok (.aload_n 1, 1) := by decide +kernel
theorem dX9_balanceByTotals_13 : decode cX9_balanceByTotals 13 = .ok (.getfield 245, 3) := by decide +kernel
theorem dX9_balanceByTotals_16 : decode cX9_balanceByTotals 16 = .ok (.iadd, 1) := by decide +kernel
theorem dX9_balanceByTotals_17 : decode cX9_balanceByTotals 17 = .ok (.aload_n 1, 1) := by decide +kernel
theorem dX9_balanceByTotals_18 : decode cX9_balanceByTotals 18 = .ok (.getfield 248, 3) := by decide +kernel
theorem dX9_balanceByTotals_21 : decode cX9_balanceByTotals 21 = .ok (.isub, 1) := by decide +kernel
theorem dX9_balanceByTotals_22 : decode cX9_balanceByTotals 22 = .ok (.aload_n 1, 1) := by decide +kernel
theorem dX9_balanceByTotals_23 : decode cX9_balanceByTotals 23 = .ok (.getfield 251, 3) := by decide +kernel
theorem dX9_balanceByTotals_26 : decode cX9_balanceByTotals 26 = .ok (.isub, 1) := by decide +kernel
theorem dX9_balanceByTotals_27 : decode cX9_balanceByTotals 27 = .ok (.ireturn, 1) := by decide +kernel
def w_X9_balanceByTotals  (mm : Mm) (Q9 : Int32 → Prop) : Prop :=
  Q9 ((((mm.1 2 1 3) + (mm.1 2 1 6)) - (mm.1 2 1 4)) - (mm.1 2 1 5))
def rm_X9_balanceByTotals : Room := { frames := 0, cells := 0, slots := 0, locals := 0 }
theorem hy_X9_balanceByTotals : yX9_balanceByTotals.cls = RX9 ∧ yX9_balanceByTotals.cls ≠ "java/lang/invoke/MethodHandle" ∧ yX9_balanceByTotals.cls ≠ "java/lang/invoke/VarHandle" ∧ (parseMethodDescriptor yX9_balanceByTotals.desc).map (fun d => d.parameters.length) = some 0 := by decide +kernel
set_option maxRecDepth 100000 in
set_option maxHeartbeats 4000000 in
theorem c_X9_balanceByTotals {l : Launch} {D : va_G} {cA : Nat → ClassId} {ad : Nat → Nat → Nat} {A : Nat → Prop} (ax : Ax ad GC A)  (mm : Mm) (Q9 : Int32 → Prop) (h : w_X9_balanceByTotals mm Q9) : Met l yX9_balanceByTotals (.code yX9_balanceByTotals cX9_balanceByTotals 2 (some .int) :: TG) rm_X9_balanceByTotals (PcM TT D cA ad false GC (ZC ad A) [.ref (ad 0 1)] mm) (AnsI TT D cA ad false GC A (fun r mm' => Q9 r ∧ mm = mm')) 0 0 A := by
  have zo := ZC_ok ad A
  unfold w_X9_balanceByTotals at h
  refine enterI pl_X9 ⟨rfl, rfl⟩ rfl (Nat.le_of_ble_eq_true rfl) ?_
  intro p e s m args below meth c QQ X hK hZ hnm hE
  refine q_aload_n (j := 0) X dX9_balanceByTotals_0 rfl rfl ?_
  refine q_get (k := 0) (v := .ref (ad 1 1)) X hK rfl rfl (Nat.le_of_ble_eq_true rfl) inTX9 (gc (t := 0) (by decide) (ok1 (t := 0) (Nat.le_of_ble_eq_true rfl))) kw_2_111 rfl (rv_nn (a := ad 1) (r := 1) (ok1 (t := 1) (Nat.le_of_ble_eq_true rfl)).1) dX9_balanceByTotals_1 ?_
  refine q_getN (k := 5) (v := .ref (ad 2 1)) X hK rfl rfl (Nat.le_of_ble_eq_true rfl) inTX8 (gc (t := 1) (by decide) (ok1 (t := 1) (Nat.le_of_ble_eq_true rfl))) (List.mem_of_getElem? (i := 74) rfl) rfl (rv_nn (a := ad 2) (r := 1) (ok1 (t := 2) (Nat.le_of_ble_eq_true rfl)).1) dX9_balanceByTotals_4 ?_
  refine q_astore_n (lv' := [(1, .ref (ad 2 1)), (0, .ref (ad 0 1))]) X dX9_balanceByTotals_7 rfl (by decide) rfl ?_
  refine q_aload_n (j := 0) X dX9_balanceByTotals_8 rfl rfl ?_
  refine q_getN (k := 3) (v := .int (mm.1 2 1 3)) X hK rfl rfl (Nat.le_of_ble_eq_true rfl) inTX6 (gc (t := 2) (by decide) (ok1 (t := 2) (Nat.le_of_ble_eq_true rfl))) (List.mem_of_getElem? (i := 8) rfl) rfl rfl dX9_balanceByTotals_9 ?_
  refine q_aload_n (j := 0) X dX9_balanceByTotals_12 rfl rfl ?_
  refine q_getN (k := 6) (v := .int (mm.1 2 1 6)) X hK rfl rfl (Nat.le_of_ble_eq_true rfl) inTX6 (gc (t := 2) (by decide) (ok1 (t := 2) (Nat.le_of_ble_eq_true rfl))) (List.mem_of_getElem? (i := 11) rfl) rfl rfl dX9_balanceByTotals_13 ?_
  refine q_iadd X dX9_balanceByTotals_16 ?_
  refine q_aload_n (j := 0) X dX9_balanceByTotals_17 rfl rfl ?_
  refine q_getN (k := 4) (v := .int (mm.1 2 1 4)) X hK rfl rfl (Nat.le_of_ble_eq_true rfl) inTX6 (gc (t := 2) (by decide) (ok1 (t := 2) (Nat.le_of_ble_eq_true rfl))) (List.mem_of_getElem? (i := 9) rfl) rfl rfl dX9_balanceByTotals_18 ?_
  refine q_isub X dX9_balanceByTotals_21 ?_
  refine q_aload_n (j := 0) X dX9_balanceByTotals_22 rfl rfl ?_
  refine q_getN (k := 5) (v := .int (mm.1 2 1 5)) X hK rfl rfl (Nat.le_of_ble_eq_true rfl) inTX6 (gc (t := 2) (by decide) (ok1 (t := 2) (Nat.le_of_ble_eq_true rfl))) (List.mem_of_getElem? (i := 10) rfl) rfl rfl dX9_balanceByTotals_23 ?_
  refine q_isub X dX9_balanceByTotals_26 ?_
  exact hE _ _ _ _ dX9_balanceByTotals_27 ⟨h, rfl⟩
theorem dX9_charges_0 : decode cX9_charges 0 = .ok (.aload_n 0, 1) := by decide +kernel
theorem dX9_charges_1 : decode cX9_charges 1 = .ok (.getfield 10, 3) := by decide +kernel
theorem dX9_charges_4 : decode cX9_charges 4 = .ok (.getfield 227, 3) := by decide +kernel
theorem dX9_charges_7 : decode cX9_charges 7 = .ok (.getfield 251, 3) := by decide +kernel
theorem dX9_charges_10 : decode cX9_charges 10 = .ok (.ireturn, 1) := by decide +kernel
def w_X9_charges  (mm : Mm) (Q9 : Int32 → Prop) : Prop :=
  Q9 (mm.1 2 1 5)
def rm_X9_charges : Room := { frames := 0, cells := 0, slots := 0, locals := 0 }
theorem hy_X9_charges : yX9_charges.cls = RX9 ∧ yX9_charges.cls ≠ "java/lang/invoke/MethodHandle" ∧ yX9_charges.cls ≠ "java/lang/invoke/VarHandle" ∧ (parseMethodDescriptor yX9_charges.desc).map (fun d => d.parameters.length) = some 0 := by decide +kernel
set_option maxRecDepth 100000 in
set_option maxHeartbeats 4000000 in
theorem c_X9_charges {l : Launch} {D : va_G} {cA : Nat → ClassId} {ad : Nat → Nat → Nat} {A : Nat → Prop} (ax : Ax ad GC A)  (mm : Mm) (Q9 : Int32 → Prop) (h : w_X9_charges mm Q9) : Met l yX9_charges (.code yX9_charges cX9_charges 1 (some .int) :: TG) rm_X9_charges (PcM TT D cA ad false GC (ZC ad A) [.ref (ad 0 1)] mm) (AnsI TT D cA ad false GC A (fun r mm' => Q9 r ∧ mm = mm')) 0 0 A := by
  have zo := ZC_ok ad A
  unfold w_X9_charges at h
  refine enterI pl_X9 ⟨rfl, rfl⟩ rfl (Nat.le_of_ble_eq_true rfl) ?_
  intro p e s m args below meth c QQ X hK hZ hnm hE
  refine q_aload_n (j := 0) X dX9_charges_0 rfl rfl ?_
  refine q_get (k := 0) (v := .ref (ad 1 1)) X hK rfl rfl (Nat.le_of_ble_eq_true rfl) inTX9 (gc (t := 0) (by decide) (ok1 (t := 0) (Nat.le_of_ble_eq_true rfl))) kw_2_111 rfl (rv_nn (a := ad 1) (r := 1) (ok1 (t := 1) (Nat.le_of_ble_eq_true rfl)).1) dX9_charges_1 ?_
  refine q_getN (k := 5) (v := .ref (ad 2 1)) X hK rfl rfl (Nat.le_of_ble_eq_true rfl) inTX8 (gc (t := 1) (by decide) (ok1 (t := 1) (Nat.le_of_ble_eq_true rfl))) (List.mem_of_getElem? (i := 74) rfl) rfl (rv_nn (a := ad 2) (r := 1) (ok1 (t := 2) (Nat.le_of_ble_eq_true rfl)).1) dX9_charges_4 ?_
  refine q_getN (k := 5) (v := .int (mm.1 2 1 5)) X hK rfl rfl (Nat.le_of_ble_eq_true rfl) inTX6 (gc (t := 2) (by decide) (ok1 (t := 2) (Nat.le_of_ble_eq_true rfl))) (List.mem_of_getElem? (i := 10) rfl) rfl rfl dX9_charges_7 ?_
  exact hE _ _ _ _ dX9_charges_10 ⟨h, rfl⟩
theorem dX9_drawbacks_0 : decode cX9_drawbacks 0 = .ok (.aload_n 0, 1) := by decide +kernel
theorem dX9_drawbacks_1 : decode cX9_drawbacks 1 = .ok (.getfield 10, 3) := by decide +kernel
theorem dX9_drawbacks_4 : decode cX9_drawbacks 4 = .ok (.getfield 227, 3) := by decide +kernel
theorem dX9_drawbacks_7 : decode cX9_drawbacks 7 = .ok (.getfield 245, 3) := by decide +kernel
theorem dX9_drawbacks_10 : decode cX9_drawbacks 10 = .ok (.ireturn, 1) := by decide +kernel
def w_X9_drawbacks  (mm : Mm) (Q9 : Int32 → Prop) : Prop :=
  Q9 (mm.1 2 1 6)
def rm_X9_drawbacks : Room := { frames := 0, cells := 0, slots := 0, locals := 0 }
theorem hy_X9_drawbacks : yX9_drawbacks.cls = RX9 ∧ yX9_drawbacks.cls ≠ "java/lang/invoke/MethodHandle" ∧ yX9_drawbacks.cls ≠ "java/lang/invoke/VarHandle" ∧ (parseMethodDescriptor yX9_drawbacks.desc).map (fun d => d.parameters.length) = some 0 := by decide +kernel
set_option maxRecDepth 100000 in
set_option maxHeartbeats 4000000 in
theorem c_X9_drawbacks {l : Launch} {D : va_G} {cA : Nat → ClassId} {ad : Nat → Nat → Nat} {A : Nat → Prop} (ax : Ax ad GC A)  (mm : Mm) (Q9 : Int32 → Prop) (h : w_X9_drawbacks mm Q9) : Met l yX9_drawbacks (.code yX9_drawbacks cX9_drawbacks 1 (some .int) :: TG) rm_X9_drawbacks (PcM TT D cA ad false GC (ZC ad A) [.ref (ad 0 1)] mm) (AnsI TT D cA ad false GC A (fun r mm' => Q9 r ∧ mm = mm')) 0 0 A := by
  have zo := ZC_ok ad A
  unfold w_X9_drawbacks at h
  refine enterI pl_X9 ⟨rfl, rfl⟩ rfl (Nat.le_of_ble_eq_true rfl) ?_
  intro p e s m args below meth c QQ X hK hZ hnm hE
  refine q_aload_n (j := 0) X dX9_drawbacks_0 rfl rfl ?_
  refine q_get (k := 0) (v := .ref (ad 1 1)) X hK rfl rfl (Nat.le_of_ble_eq_true rfl) inTX9 (gc (t := 0) (by decide) (ok1 (t := 0) (Nat.le_of_ble_eq_true rfl))) kw_2_111 rfl (rv_nn (a := ad 1) (r := 1) (ok1 (t := 1) (Nat.le_of_ble_eq_true rfl)).1) dX9_drawbacks_1 ?_
  refine q_getN (k := 5) (v := .ref (ad 2 1)) X hK rfl rfl (Nat.le_of_ble_eq_true rfl) inTX8 (gc (t := 1) (by decide) (ok1 (t := 1) (Nat.le_of_ble_eq_true rfl))) (List.mem_of_getElem? (i := 74) rfl) rfl (rv_nn (a := ad 2) (r := 1) (ok1 (t := 2) (Nat.le_of_ble_eq_true rfl)).1) dX9_drawbacks_4 ?_
  refine q_getN (k := 6) (v := .int (mm.1 2 1 6)) X hK rfl rfl (Nat.le_of_ble_eq_true rfl) inTX6 (gc (t := 2) (by decide) (ok1 (t := 2) (Nat.le_of_ble_eq_true rfl))) (List.mem_of_getElem? (i := 11) rfl) rfl rfl dX9_drawbacks_7 ?_
  exact hE _ _ _ _ dX9_drawbacks_10 ⟨h, rfl⟩
theorem dX8_stockOf_0 : decode cX8_stockOf 0 = .ok (.iconst 0, 1) := by decide +kernel
theorem dX8_stockOf_1 : decode cX8_stockOf 1 = .ok (.istore_n 2, 1) := by decide +kernel
theorem dX8_stockOf_2 : decode cX8_stockOf 2 = .ok (.iconst 0, 1) := by decide +kernel
theorem dX8_stockOf_3 : decode cX8_stockOf 3 = .ok (.istore_n 3, 1) := by decide +kernel
theorem dX8_stockOf_4 : decode cX8_stockOf 4 = .ok (.iload_n 3, 1) := by decide +kernel
theorem dX8_stockOf_5 : decode cX8_stockOf 5 = .ok (.aload_n 0, 1) := by decide +kernel
theorem dX8_stockOf_6 : decode cX8_stockOf 6 = .ok (.getfield 62, 3) := by decide +kernel
theorem dX8_stockOf_9 : decode cX8_stockOf 9 = .ok (.if_icmp .ge 34, 3) := by decide +kernel
theorem dX8_stockOf_12 : decode cX8_stockOf 12 = .ok (.aload_n 0, 1) := by decide +kernel
theorem dX8_stockOf_13 : decode cX8_stockOf 13 = .ok (.getfield 20, 3) := by decide +kernel
theorem dX8_stockOf_16 : decode cX8_stockOf 16 = .ok (.iload_n 3, 1) := by decide +kernel
theorem dX8_stockOf_17 : decode cX8_stockOf 17 = .ok (.aaload, 1) := by decide +kernel
theorem dX8_stockOf_18 : decode cX8_stockOf 18 = .ok (.getfield 113, 3) := by decide +kernel
theorem dX8_stockOf_21 : decode cX8_stockOf 21 = .ok (.iload_n 1, 1) := by decide +kernel
theorem dX8_stockOf_22 : decode cX8_stockOf 22 = .ok (.if_icmp .ne 15, 3) := by decide +kernel
theorem dX8_stockOf_25 : decode cX8_stockOf 25 = .ok (.iload_n 2, 1) := by decide +kernel
theorem dX8_stockOf_26 : decode cX8_stockOf 26 = .ok (.aload_n 0, 1) := by decide +kernel
theorem dX8_stockOf_27 : decode cX8_stockOf 27 = .ok (.getfield 20, 3) := by decide +kernel
theorem dX8_stockOf_30 : decode cX8_stockOf 30 = .ok (.iload_n 3, 1) := by decide +kernel
theorem dX8_stockOf_31 : decode cX8_stockOf 31 = .ok (.aaload, 1) := by decide +kernel
theorem dX8_stockOf_32 : decode cX8_stockOf 32 = .ok (.getfield 97, 3) := by decide +kernel
theorem dX8_stockOf_35 : decode cX8_stockOf 35 = .ok (.iadd, 1) := by decide +kernel
theorem dX8_stockOf_36 : decode cX8_stockOf 36 = .ok (.istore_n 2, 1) := by decide +kernel
theorem dX8_stockOf_37 : decode cX8_stockOf 37 = .ok (.iinc 3 1, 3) := by decide +kernel
theorem dX8_stockOf_40 : decode cX8_stockOf 40 = .ok (.goto (-36), 3) := by decide +kernel
theorem dX8_stockOf_43 : decode cX8_stockOf 43 = .ok (.iload_n 2, 1) := by decide +kernel
theorem dX8_stockOf_44 : decode cX8_stockOf 44 = .ok (.ireturn, 1) := by decide +kernel
def w_X8_stockOf_B4 (i : Nat) (p0 : Int32) (mm : Mm) (Q9 : Int32 → Prop) (K_3 : Int32 → Int32 → Prop) (y_1 : Int32) (y_2 : Int32) : Prop :=
  (((mm.1 1 i 1) ≤ y_2 → Q9 y_1) ∧
  (¬ (mm.1 1 i 1) ≤ y_2 → vp_in y_2 16 ∧ (ok 3 (mm.2 7 i y_2.toNatClampNeg) ∧ (((¬ (mm.1 3 (mm.2 7 i y_2.toNatClampNeg) 1) = p0 → ∀ x_9 : Int32, x_9 = y_2 + 1 → (K_3 y_1 x_9)) ∧
  ((mm.1 3 (mm.2 7 i y_2.toNatClampNeg) 1) = p0 → ∀ x_10 : Int32, x_10 = (y_1 + (mm.1 3 (mm.2 7 i y_2.toNatClampNeg) 2)) → (∀ x_11 : Int32, x_11 = y_2 + 1 → (K_3 x_10 x_11))))))))
def w_X8_stockOf (i : Nat) (p0 : Int32) (mm : Mm) (Q9 : Int32 → Prop) : Prop :=
  ∃ n, itr (α := Int32 × Int32) (fun K a => w_X8_stockOf_B4 i p0 mm Q9 (fun z0 z1 => K (z0, z1)) a.1 a.2) n (0, 0)
def rm_X8_stockOf : Room := { frames := 0, cells := 0, slots := 0, locals := 0 }
theorem hy_X8_stockOf : yX8_stockOf.cls = RX8 ∧ yX8_stockOf.cls ≠ "java/lang/invoke/MethodHandle" ∧ yX8_stockOf.cls ≠ "java/lang/invoke/VarHandle" ∧ (parseMethodDescriptor yX8_stockOf.desc).map (fun d => d.parameters.length) = some 1 := by decide +kernel
set_option maxRecDepth 100000 in
set_option maxHeartbeats 4000000 in
theorem c_X8_stockOf {l : Launch} {D : va_G} {cA : Nat → ClassId} {ad : Nat → Nat → Nat} {A : Nat → Prop} (ax : Ax ad GC A) (i : Nat) (hi : ok 1 i) (p0 : Int32) (mm : Mm) (Q9 : Int32 → Prop) (h : w_X8_stockOf i p0 mm Q9) : Met l yX8_stockOf (.code yX8_stockOf cX8_stockOf 4 (some .int) :: TG) rm_X8_stockOf (PcM TT D cA ad false GC (ZC ad A) [.ref (ad 1 i), .int p0] mm) (AnsI TT D cA ad false GC A (fun r mm' => Q9 r ∧ mm = mm')) 0 0 A := by
  have zo := ZC_ok ad A
  unfold w_X8_stockOf at h
  refine enterI pl_X8 ⟨rfl, rfl⟩ rfl (Nat.le_of_ble_eq_true rfl) ?_
  intro p e s m args below meth c QQ X hK hZ hnm hE
  refine q_iconst (v := 0) X dX8_stockOf_0 (by decide) ?_
  refine q_istore_n (lv' := [(2, .int 0), (0, .ref (ad 1 i)), (1, .int p0)]) X dX8_stockOf_1 rfl (by decide) rfl ?_
  refine q_iconst (v := 0) X dX8_stockOf_2 (by decide) ?_
  refine q_istore_n (lv' := [(3, .int 0), (2, .int 0), (0, .ref (ad 1 i)), (1, .int p0)]) X dX8_stockOf_3 rfl (by decide) rfl ?_
  refine q_sub [2, 3, 1, 0] rfl ?_
  have L4 : ∀ (n : Nat) (y_1 : Int32) (y_2 : Int32), itr (α := Int32 × Int32) (fun K a => w_X8_stockOf_B4 i p0 mm Q9 (fun z0 z1 => K (z0, z1)) a.1 a.2) n (y_1, y_2) → V p l e rm_X8_stockOf s m args below meth c QQ 4 A 0 0 (Rep TT D cA ad false GC mm) 4 [(0, .ref (ad 1 i)), (1, .int p0), (2, .int y_1), (3, .int y_2)] [] := by
    intro n
    induction n with
    | zero => intro y_1 y_2 h; exact h.elim
    | succ n ih_4 =>
      intro y_1 y_2 h
      have h : w_X8_stockOf_B4 i p0 mm Q9 (fun z0 z1 => itr (α := Int32 × Int32) (fun K a => w_X8_stockOf_B4 i p0 mm Q9 (fun z0 z1 => K (z0, z1)) a.1 a.2) n (z0, z1)) y_1 y_2 := h
      unfold w_X8_stockOf_B4 at h
      refine q_iload_n (j := 3) X dX8_stockOf_4 rfl rfl ?_
      refine q_aload_n (j := 0) X dX8_stockOf_5 rfl rfl ?_
      refine q_get (k := 1) (v := .int (mm.1 1 i 1)) X hK rfl rfl (Nat.le_of_ble_eq_true rfl) inTX8 (gc (t := 1) (by decide) hi) kw_1_230 rfl rfl dX8_stockOf_6 ?_
      refine q_icmp_ge (tgt := 43) X dX8_stockOf_9 (by decide) (fun c_5 => ?_) (fun c_5 => ?_)
      · have h := h.1 c_5
        refine q_iload_n (j := 2) X dX8_stockOf_43 rfl rfl ?_
        exact hE _ _ _ _ dX8_stockOf_44 ⟨h, rfl⟩
      · have h := h.2 c_5
        refine q_aload_n (j := 0) X dX8_stockOf_12 rfl rfl ?_
        refine q_get (k := 6) (v := .ref (ad 7 i)) X hK rfl rfl (Nat.le_of_ble_eq_true rfl) inTX8 (gc (t := 1) (by decide) hi) kw_2_2 rfl (rv_nn (a := ad 7) (r := i) hi.1) dX8_stockOf_13 ?_
        refine q_iload_n (j := 3) X dX8_stockOf_16 rfl rfl ?_
        obtain ⟨b_6, h⟩ := h
        refine q_aald (t := 7) (i := i) (jn := y_2.toNatClampNeg) (v := rv (ad 3) (mm.2 7 i y_2.toNatClampNeg)) X hK rfl rfl (gc (t := 7) (by decide) hi) rfl b_6 rfl rfl dX8_stockOf_17 ?_
        obtain ⟨k_7, h⟩ := h
        rw [rv_nn (a := ad 3) (r := (mm.2 7 i y_2.toNatClampNeg)) k_7.1]
        refine q_getN (k := 1) (v := .int (mm.1 3 (mm.2 7 i y_2.toNatClampNeg) 1)) X hK rfl rfl (Nat.le_of_ble_eq_true rfl) inTX2 (gc (t := 3) (by decide) k_7) (List.mem_of_getElem? (i := 16) rfl) rfl rfl dX8_stockOf_18 ?_
        refine q_iload_n (j := 1) X dX8_stockOf_21 rfl rfl ?_
        refine q_icmp_ne (tgt := 37) X dX8_stockOf_22 (by decide) (fun c_8 => ?_) (fun c_8 => ?_)
        · have h := h.1 c_8
          obtain ⟨x_9, ex_9⟩ : ∃ z : Int32, z = y_2 + 1 := ⟨_, rfl⟩
          have h := h x_9 ex_9
          refine q_iinc (j := 3) (v := x_9) (lv' := [(3, .int x_9), (0, .ref (ad 1 i)), (1, .int p0), (2, .int y_1)]) X dX8_stockOf_37 rfl (by rw [ex_9]; rfl) (by decide) rfl ?_
          refine q_goto (tgt := 4) X dX8_stockOf_40 (by decide) ?_
          refine q_sub [1, 2, 3, 0] rfl ?_
          exact ih_4 y_1 x_9 h
        · have h := h.2 c_8
          refine q_iload_n (j := 2) X dX8_stockOf_25 rfl rfl ?_
          refine q_aload_n (j := 0) X dX8_stockOf_26 rfl rfl ?_
          refine q_get (k := 6) (v := .ref (ad 7 i)) X hK rfl rfl (Nat.le_of_ble_eq_true rfl) inTX8 (gc (t := 1) (by decide) hi) kw_2_2 rfl (rv_nn (a := ad 7) (r := i) hi.1) dX8_stockOf_27 ?_
          refine q_iload_n (j := 3) X dX8_stockOf_30 rfl rfl ?_
          refine q_aald (t := 7) (i := i) (jn := y_2.toNatClampNeg) (v := rv (ad 3) (mm.2 7 i y_2.toNatClampNeg)) X hK rfl rfl (gc (t := 7) (by decide) hi) rfl b_6 rfl rfl dX8_stockOf_31 ?_
          rw [rv_nn (a := ad 3) (r := (mm.2 7 i y_2.toNatClampNeg)) k_7.1]
          refine q_getN (k := 2) (v := .int (mm.1 3 (mm.2 7 i y_2.toNatClampNeg) 2)) X hK rfl rfl (Nat.le_of_ble_eq_true rfl) inTX2 (gc (t := 3) (by decide) k_7) (List.mem_of_getElem? (i := 19) rfl) rfl rfl dX8_stockOf_32 ?_
          refine q_iadd X dX8_stockOf_35 ?_
          refine q_topi (fun x_10 ex_10 => ?_)
          have h := h x_10 ex_10
          refine q_istore_n (lv' := [(2, .int x_10), (0, .ref (ad 1 i)), (1, .int p0), (3, .int y_2)]) X dX8_stockOf_36 rfl (by decide) rfl ?_
          obtain ⟨x_11, ex_11⟩ : ∃ z : Int32, z = y_2 + 1 := ⟨_, rfl⟩
          have h := h x_11 ex_11
          refine q_iinc (j := 3) (v := x_11) (lv' := [(3, .int x_11), (2, .int x_10), (0, .ref (ad 1 i)), (1, .int p0)]) X dX8_stockOf_37 rfl (by rw [ex_11]; rfl) (by decide) rfl ?_
          refine q_goto (tgt := 4) X dX8_stockOf_40 (by decide) ?_
          refine q_sub [2, 3, 1, 0] rfl ?_
          exact ih_4 x_10 x_11 h
  obtain ⟨n_12, h⟩ := h
  exact L4 n_12 0 0 h
theorem dX8_nextLate_0 : decode cX8_nextLate 0 = .ok (.iconst (-1), 1) := by decide +kernel
theorem dX8_nextLate_1 : decode cX8_nextLate 1 = .ok (.istore_n 1, 1) := by decide +kernel
theorem dX8_nextLate_2 : decode cX8_nextLate 2 = .ok (.iconst 0, 1) := by decide +kernel
theorem dX8_nextLate_3 : decode cX8_nextLate 3 = .ok (.istore_n 2, 1) := by decide +kernel
theorem dX8_nextLate_4 : decode cX8_nextLate 4 = .ok (.iload_n 2, 1) := by decide +kernel
theorem dX8_nextLate_5 : decode cX8_nextLate 5 = .ok (.aload_n 0, 1) := by decide +kernel
theorem dX8_nextLate_6 : decode cX8_nextLate 6 = .ok (.getfield 62, 3) := by decide +kernel
theorem dX8_nextLate_9 : decode cX8_nextLate 9 = .ok (.if_icmp .ge 50, 3) := by decide +kernel
theorem dX8_nextLate_12 : decode cX8_nextLate 12 = .ok (.aload_n 0, 1) := by decide +kernel
theorem dX8_nextLate_13 : decode cX8_nextLate 13 = .ok (.aload_n 0, 1) := by decide +kernel
theorem dX8_nextLate_14 : decode cX8_nextLate 14 = .ok (.getfield 20, 3) := by decide +kernel
theorem dX8_nextLate_17 : decode cX8_nextLate 17 = .ok (.iload_n 2, 1) := by decide +kernel
theorem dX8_nextLate_18 : decode cX8_nextLate 18 = .ok (.aaload, 1) := by decide +kernel
theorem dX8_nextLate_19 : decode cX8_nextLate 19 = .ok (.invokevirtual 179, 3) := by decide +kernel
theorem dX8_nextLate_22 : decode cX8_nextLate 22 = .ok (.ifCond .ne 31, 3) := by decide +kernel
theorem dX8_nextLate_25 : decode cX8_nextLate 25 = .ok (.iload_n 1, 1) := by decide +kernel
theorem dX8_nextLate_26 : decode cX8_nextLate 26 = .ok (.iconst (-1), 1) := by decide +kernel
theorem dX8_nextLate_27 : decode cX8_nextLate 27 = .ok (.if_icmp .eq 24, 3) := by decide +kernel
theorem dX8_nextLate_30 : decode cX8_nextLate 30 = .ok (.aload_n 0, 1) := by decide +kernel
theorem dX8_nextLate_31 : decode cX8_nextLate 31 = .ok (.getfield 20, 3) := by decide +kernel
theorem dX8_nextLate_34 : decode cX8_nextLate 34 = .ok (.iload_n 2, 1) := by decide +kernel
theorem dX8_nextLate_35 : decode cX8_nextLate 35 = .ok (.aaload, 1) := by decide +kernel
theorem dX8_nextLate_36 : decode cX8_nextLate 36 = .ok (.getfield 106, 3) := by decide +kernel
theorem dX8_nextLate_39 : decode cX8_nextLate 39 = .ok (.aload_n 0, 1) := by decide +kernel
theorem dX8_nextLate_40 : decode cX8_nextLate 40 = .ok (.getfield 20, 3) := by decide +kernel
theorem dX8_nextLate_43 : decode cX8_nextLate 43 = .ok (.iload_n 1, 1) := by decide +kernel
theorem dX8_nextLate_44 : decode cX8_nextLate 44 = .ok (.aaload, 1) := by decide +kernel
theorem dX8_nextLate_45 : decode cX8_nextLate 45 = .ok (.getfield 106, 3) := by decide +kernel
theorem dX8_nextLate_48 : decode cX8_nextLate 48 = .ok (.if_icmp .ge 5, 3) := by decide +kernel
theorem dX8_nextLate_51 : decode cX8_nextLate 51 = .ok (.iload_n 2, 1) := by decide +kernel
theorem dX8_nextLate_52 : decode cX8_nextLate 52 = .ok (.istore_n 1, 1) := by decide +kernel
theorem dX8_nextLate_53 : decode cX8_nextLate 53 = .ok (.iinc 2 1, 3) := by decide +kernel
theorem dX8_nextLate_56 : decode cX8_nextLate 56 = .ok (.goto (-52), 3) := by decide +kernel
theorem dX8_nextLate_59 : decode cX8_nextLate 59 = .ok (.iload_n 1, 1) := by decide +kernel
theorem dX8_nextLate_60 : decode cX8_nextLate 60 = .ok (.ireturn, 1) := by decide +kernel
def w_X8_nextLate_B4 (i : Nat) (mm : Mm) (Q9 : Int32 → Prop) (K_3 : Int32 → Int32 → Prop) (y_1 : Int32) (y_2 : Int32) : Prop :=
  (((mm.1 1 i 1) ≤ y_2 → Q9 y_1) ∧
  (¬ (mm.1 1 i 1) ≤ y_2 → vp_in y_2 16 ∧ (ok 3 (mm.2 7 i y_2.toNatClampNeg) ∧ w_X8_isLate i (mm.2 7 i y_2.toNatClampNeg) mm (fun (r_8 : Int32) => ((¬ r_8 = 0 → ∀ x_11 : Int32, x_11 = y_2 + 1 → (K_3 y_1 x_11)) ∧
  (r_8 = 0 → ((y_1 = (-1) → ∀ x_13 : Int32, x_13 = y_2 + 1 → (K_3 y_2 x_13)) ∧
  (¬ y_1 = (-1) → vp_in y_1 16 ∧ (ok 3 (mm.2 7 i y_1.toNatClampNeg) ∧ ((((mm.1 3 (mm.2 7 i y_1.toNatClampNeg) 5) ≤ (mm.1 3 (mm.2 7 i y_2.toNatClampNeg) 5) → ∀ x_17 : Int32, x_17 = y_2 + 1 → (K_3 y_1 x_17)) ∧
  (¬ (mm.1 3 (mm.2 7 i y_1.toNatClampNeg) 5) ≤ (mm.1 3 (mm.2 7 i y_2.toNatClampNeg) 5) → ∀ x_18 : Int32, x_18 = y_2 + 1 → (K_3 y_2 x_18)))))))))))))
def w_X8_nextLate (i : Nat) (mm : Mm) (Q9 : Int32 → Prop) : Prop :=
  ∃ n, itr (α := Int32 × Int32) (fun K a => w_X8_nextLate_B4 i mm Q9 (fun z0 z1 => K (z0, z1)) a.1 a.2) n ((-1), 0)
def rm_X8_nextLate : Room := { frames := 2, cells := 0, slots := 0, locals := 42 }
theorem hy_X8_nextLate : yX8_nextLate.cls = RX8 ∧ yX8_nextLate.cls ≠ "java/lang/invoke/MethodHandle" ∧ yX8_nextLate.cls ≠ "java/lang/invoke/VarHandle" ∧ (parseMethodDescriptor yX8_nextLate.desc).map (fun d => d.parameters.length) = some 0 := by decide +kernel
set_option maxRecDepth 100000 in
set_option maxHeartbeats 4000000 in
theorem c_X8_nextLate {l : Launch} {D : va_G} {cA : Nat → ClassId} {ad : Nat → Nat → Nat} {A : Nat → Prop} (ax : Ax ad GC A) (i : Nat) (hi : ok 1 i) (mm : Mm) (Q9 : Int32 → Prop) (h : w_X8_nextLate i mm Q9) : Met l yX8_nextLate (.code yX8_nextLate cX8_nextLate 3 (some .int) :: TG) rm_X8_nextLate (PcM TT D cA ad false GC (ZC ad A) [.ref (ad 1 i)] mm) (AnsI TT D cA ad false GC A (fun r mm' => Q9 r ∧ mm = mm')) 0 0 A := by
  have zo := ZC_ok ad A
  unfold w_X8_nextLate at h
  refine enterI pl_X8 ⟨rfl, rfl⟩ rfl (Nat.le_of_ble_eq_true rfl) ?_
  intro p e s m args below meth c QQ X hK hZ hnm hE
  refine q_iconst (v := (-1)) X dX8_nextLate_0 (by decide) ?_
  refine q_istore_n (lv' := [(1, .int (-1)), (0, .ref (ad 1 i))]) X dX8_nextLate_1 rfl (by decide) rfl ?_
  refine q_iconst (v := 0) X dX8_nextLate_2 (by decide) ?_
  refine q_istore_n (lv' := [(2, .int 0), (1, .int (-1)), (0, .ref (ad 1 i))]) X dX8_nextLate_3 rfl (by decide) rfl ?_
  refine q_sub [2, 1, 0] rfl ?_
  have L4 : ∀ (n : Nat) (y_1 : Int32) (y_2 : Int32), itr (α := Int32 × Int32) (fun K a => w_X8_nextLate_B4 i mm Q9 (fun z0 z1 => K (z0, z1)) a.1 a.2) n (y_1, y_2) → V p l e rm_X8_nextLate s m args below meth c QQ 3 A 0 0 (Rep TT D cA ad false GC mm) 4 [(0, .ref (ad 1 i)), (1, .int y_1), (2, .int y_2)] [] := by
    intro n
    induction n with
    | zero => intro y_1 y_2 h; exact h.elim
    | succ n ih_4 =>
      intro y_1 y_2 h
      have h : w_X8_nextLate_B4 i mm Q9 (fun z0 z1 => itr (α := Int32 × Int32) (fun K a => w_X8_nextLate_B4 i mm Q9 (fun z0 z1 => K (z0, z1)) a.1 a.2) n (z0, z1)) y_1 y_2 := h
      unfold w_X8_nextLate_B4 at h
      refine q_iload_n (j := 2) X dX8_nextLate_4 rfl rfl ?_
      refine q_aload_n (j := 0) X dX8_nextLate_5 rfl rfl ?_
      refine q_get (k := 1) (v := .int (mm.1 1 i 1)) X hK rfl rfl (Nat.le_of_ble_eq_true rfl) inTX8 (gc (t := 1) (by decide) hi) kw_1_230 rfl rfl dX8_nextLate_6 ?_
      refine q_icmp_ge (tgt := 59) X dX8_nextLate_9 (by decide) (fun c_5 => ?_) (fun c_5 => ?_)
      · have h := h.1 c_5
        refine q_iload_n (j := 1) X dX8_nextLate_59 rfl rfl ?_
        exact hE _ _ _ _ dX8_nextLate_60 ⟨h, rfl⟩
      · have h := h.2 c_5
        refine q_aload_n (j := 0) X dX8_nextLate_12 rfl rfl ?_
        refine q_aload_n (j := 0) X dX8_nextLate_13 rfl rfl ?_
        refine q_get (k := 6) (v := .ref (ad 7 i)) X hK rfl rfl (Nat.le_of_ble_eq_true rfl) inTX8 (gc (t := 1) (by decide) hi) kw_2_2 rfl (rv_nn (a := ad 7) (r := i) hi.1) dX8_nextLate_14 ?_
        refine q_iload_n (j := 2) X dX8_nextLate_17 rfl rfl ?_
        obtain ⟨b_6, h⟩ := h
        refine q_aald (t := 7) (i := i) (jn := y_2.toNatClampNeg) (v := rv (ad 3) (mm.2 7 i y_2.toNatClampNeg)) X hK rfl rfl (gc (t := 7) (by decide) hi) rfl b_6 rfl rfl dX8_nextLate_18 ?_
        obtain ⟨k_7, h⟩ := h
        rw [rv_nn (a := ad 3) (r := (mm.2 7 i y_2.toNatClampNeg)) k_7.1]
        refine q_calli (q_runV X hK hZ zo (gc (t := 1) (by decide) hi) rfl rfl [.ref (ad 3 (mm.2 7 i y_2.toNatClampNeg))] [] rfl rfl (Nat.le_of_ble_eq_true rfl) dX8_nextLate_19 ⟨Nat.le_of_ble_eq_true rfl, Nat.le_of_ble_eq_true rfl⟩ (c_X8_isLate ax i hi (mm.2 7 i y_2.toNatClampNeg) k_7 mm _ h) rfl rfl (gV kw_3_161 kw_3_163 ks_30 kw_1_2 kw_3_164) hy_X8_isLate ⟨Nat.le_of_ble_eq_true rfl, Nat.le_of_ble_eq_true rfl⟩) (fun r_8 m_9 h => ?_)
        obtain ⟨h, hm⟩ := h
        subst hm
        refine q_if_ne (tgt := 53) X dX8_nextLate_22 (by decide) (fun c_10 => ?_) (fun c_10 => ?_)
        · have h := h.1 c_10
          obtain ⟨x_11, ex_11⟩ : ∃ z : Int32, z = y_2 + 1 := ⟨_, rfl⟩
          have h := h x_11 ex_11
          refine q_iinc (j := 2) (v := x_11) (lv' := [(2, .int x_11), (0, .ref (ad 1 i)), (1, .int y_1)]) X dX8_nextLate_53 rfl (by rw [ex_11]; rfl) (by decide) rfl ?_
          refine q_goto (tgt := 4) X dX8_nextLate_56 (by decide) ?_
          refine q_sub [1, 2, 0] rfl ?_
          exact ih_4 y_1 x_11 h
        · have h := h.2 c_10
          refine q_iload_n (j := 1) X dX8_nextLate_25 rfl rfl ?_
          refine q_iconst (v := (-1)) X dX8_nextLate_26 (by decide) ?_
          refine q_icmp_eq (tgt := 51) X dX8_nextLate_27 (by decide) (fun c_12 => ?_) (fun c_12 => ?_)
          · have h := h.1 c_12
            refine q_iload_n (j := 2) X dX8_nextLate_51 rfl rfl ?_
            refine q_istore_n (lv' := [(1, .int y_2), (0, .ref (ad 1 i)), (2, .int y_2)]) X dX8_nextLate_52 rfl (by decide) rfl ?_
            obtain ⟨x_13, ex_13⟩ : ∃ z : Int32, z = y_2 + 1 := ⟨_, rfl⟩
            have h := h x_13 ex_13
            refine q_iinc (j := 2) (v := x_13) (lv' := [(2, .int x_13), (1, .int y_2), (0, .ref (ad 1 i))]) X dX8_nextLate_53 rfl (by rw [ex_13]; rfl) (by decide) rfl ?_
            refine q_goto (tgt := 4) X dX8_nextLate_56 (by decide) ?_
            refine q_sub [2, 1, 0] rfl ?_
            exact ih_4 y_2 x_13 h
          · have h := h.2 c_12
            refine q_aload_n (j := 0) X dX8_nextLate_30 rfl rfl ?_
            refine q_get (k := 6) (v := .ref (ad 7 i)) X hK rfl rfl (Nat.le_of_ble_eq_true rfl) inTX8 (gc (t := 1) (by decide) hi) kw_2_2 rfl (rv_nn (a := ad 7) (r := i) hi.1) dX8_nextLate_31 ?_
            refine q_iload_n (j := 2) X dX8_nextLate_34 rfl rfl ?_
            refine q_aald (t := 7) (i := i) (jn := y_2.toNatClampNeg) (v := rv (ad 3) (mm.2 7 i y_2.toNatClampNeg)) X hK rfl rfl (gc (t := 7) (by decide) hi) rfl b_6 rfl rfl dX8_nextLate_35 ?_
            rw [rv_nn (a := ad 3) (r := (mm.2 7 i y_2.toNatClampNeg)) k_7.1]
            refine q_getN (k := 5) (v := .int (mm.1 3 (mm.2 7 i y_2.toNatClampNeg) 5)) X hK rfl rfl (Nat.le_of_ble_eq_true rfl) inTX2 (gc (t := 3) (by decide) k_7) (List.mem_of_getElem? (i := 28) rfl) rfl rfl dX8_nextLate_36 ?_
            refine q_aload_n (j := 0) X dX8_nextLate_39 rfl rfl ?_
            refine q_get (k := 6) (v := .ref (ad 7 i)) X hK rfl rfl (Nat.le_of_ble_eq_true rfl) inTX8 (gc (t := 1) (by decide) hi) kw_2_2 rfl (rv_nn (a := ad 7) (r := i) hi.1) dX8_nextLate_40 ?_
            refine q_iload_n (j := 1) X dX8_nextLate_43 rfl rfl ?_
            obtain ⟨b_14, h⟩ := h
            refine q_aald (t := 7) (i := i) (jn := y_1.toNatClampNeg) (v := rv (ad 3) (mm.2 7 i y_1.toNatClampNeg)) X hK rfl rfl (gc (t := 7) (by decide) hi) rfl b_14 rfl rfl dX8_nextLate_44 ?_
            obtain ⟨k_15, h⟩ := h
            rw [rv_nn (a := ad 3) (r := (mm.2 7 i y_1.toNatClampNeg)) k_15.1]
            refine q_getN (k := 5) (v := .int (mm.1 3 (mm.2 7 i y_1.toNatClampNeg) 5)) X hK rfl rfl (Nat.le_of_ble_eq_true rfl) inTX2 (gc (t := 3) (by decide) k_15) (List.mem_of_getElem? (i := 28) rfl) rfl rfl dX8_nextLate_45 ?_
            refine q_icmp_ge (tgt := 53) X dX8_nextLate_48 (by decide) (fun c_16 => ?_) (fun c_16 => ?_)
            · have h := h.1 c_16
              obtain ⟨x_17, ex_17⟩ : ∃ z : Int32, z = y_2 + 1 := ⟨_, rfl⟩
              have h := h x_17 ex_17
              refine q_iinc (j := 2) (v := x_17) (lv' := [(2, .int x_17), (0, .ref (ad 1 i)), (1, .int y_1)]) X dX8_nextLate_53 rfl (by rw [ex_17]; rfl) (by decide) rfl ?_
              refine q_goto (tgt := 4) X dX8_nextLate_56 (by decide) ?_
              refine q_sub [1, 2, 0] rfl ?_
              exact ih_4 y_1 x_17 h
            · have h := h.2 c_16
              refine q_iload_n (j := 2) X dX8_nextLate_51 rfl rfl ?_
              refine q_istore_n (lv' := [(1, .int y_2), (0, .ref (ad 1 i)), (2, .int y_2)]) X dX8_nextLate_52 rfl (by decide) rfl ?_
              obtain ⟨x_18, ex_18⟩ : ∃ z : Int32, z = y_2 + 1 := ⟨_, rfl⟩
              have h := h x_18 ex_18
              refine q_iinc (j := 2) (v := x_18) (lv' := [(2, .int x_18), (1, .int y_2), (0, .ref (ad 1 i))]) X dX8_nextLate_53 rfl (by rw [ex_18]; rfl) (by decide) rfl ?_
              refine q_goto (tgt := 4) X dX8_nextLate_56 (by decide) ?_
              refine q_sub [2, 1, 0] rfl ?_
              exact ih_4 y_2 x_18 h
  obtain ⟨n_19, h⟩ := h
  exact L4 n_19 (-1) 0 h
theorem dX8_numberAt_0 : decode cX8_numberAt 0 = .ok (.iload_n 1, 1) := by decide +kernel
theorem dX8_numberAt_1 : decode cX8_numberAt 1 = .ok (.iconst 0, 1) := by decide +kernel
theorem dX8_numberAt_2 : decode cX8_numberAt 2 = .ok (.aload_n 0, 1) := by decide +kernel
theorem dX8_numberAt_3 : decode cX8_numberAt 3 = .ok (.getfield 62, 3) := by decide +kernel
theorem dX8_numberAt_6 : decode cX8_numberAt 6 = .ok (.iconst 1, 1) := by decide +kernel
theorem dX8_numberAt_7 : decode cX8_numberAt 7 = .ok (.isub, 1) := by decide +kernel
theorem dX8_numberAt_8 : decode cX8_numberAt 8 = .ok (.invokestatic 93, 3) := by decide +kernel
theorem dX8_numberAt_11 : decode cX8_numberAt 11 = .ok (.ifCond .eq 15, 3) := by decide +kernel
theorem dX8_numberAt_14 : decode cX8_numberAt 14 = .ok (.aload_n 0, 1) := by decide +kernel
theorem dX8_numberAt_15 : decode cX8_numberAt 15 = .ok (.getfield 20, 3) := by decide +kernel
theorem dX8_numberAt_18 : decode cX8_numberAt 18 = .ok (.iload_n 1, 1) := by decide +kernel
theorem dX8_numberAt_19 : decode cX8_numberAt 19 = .ok (.aaload, 1) := by decide +kernel
theorem dX8_numberAt_20 : decode cX8_numberAt 20 = .ok (.getfield 90, 3) := by decide +kernel
theorem dX8_numberAt_23 : decode cX8_numberAt 23 = .ok (.goto 4, 3) := by decide +kernel
theorem dX8_numberAt_26 : decode cX8_numberAt 26 = .ok (.iconst (-1), 1) := by decide +kernel
theorem dX8_numberAt_27 : decode cX8_numberAt 27 = .ok (.ireturn, 1) := by decide +kernel
def w_X8_numberAt (i : Nat) (p0 : Int32) (mm : Mm) (Q9 : Int32 → Prop) : Prop :=
  w_X9_isWithin p0 0 ((mm.1 1 i 1) - 1) mm (fun (r_1 : Int32) => ((r_1 = 0 → Q9 (-1)) ∧
  (¬ r_1 = 0 → vp_in p0 16 ∧ (ok 3 (mm.2 7 i p0.toNatClampNeg) ∧ (Q9 (mm.1 3 (mm.2 7 i p0.toNatClampNeg) 0))))))
def rm_X8_numberAt : Room := { frames := 1, cells := 0, slots := 0, locals := 22 }
theorem hy_X8_numberAt : yX8_numberAt.cls = RX8 ∧ yX8_numberAt.cls ≠ "java/lang/invoke/MethodHandle" ∧ yX8_numberAt.cls ≠ "java/lang/invoke/VarHandle" ∧ (parseMethodDescriptor yX8_numberAt.desc).map (fun d => d.parameters.length) = some 1 := by decide +kernel
set_option maxRecDepth 100000 in
set_option maxHeartbeats 4000000 in
theorem c_X8_numberAt {l : Launch} {D : va_G} {cA : Nat → ClassId} {ad : Nat → Nat → Nat} {A : Nat → Prop} (ax : Ax ad GC A) (i : Nat) (hi : ok 1 i) (p0 : Int32) (mm : Mm) (Q9 : Int32 → Prop) (h : w_X8_numberAt i p0 mm Q9) : Met l yX8_numberAt (.code yX8_numberAt cX8_numberAt 2 (some .int) :: TG) rm_X8_numberAt (PcM TT D cA ad false GC (ZC ad A) [.ref (ad 1 i), .int p0] mm) (AnsI TT D cA ad false GC A (fun r mm' => Q9 r ∧ mm = mm')) 0 0 A := by
  have zo := ZC_ok ad A
  unfold w_X8_numberAt at h
  refine enterI pl_X8 ⟨rfl, rfl⟩ rfl (Nat.le_of_ble_eq_true rfl) ?_
  intro p e s m args below meth c QQ X hK hZ hnm hE
  refine q_iload_n (j := 1) X dX8_numberAt_0 rfl rfl ?_
  refine q_iconst (v := 0) X dX8_numberAt_1 (by decide) ?_
  refine q_aload_n (j := 0) X dX8_numberAt_2 rfl rfl ?_
  refine q_get (k := 1) (v := .int (mm.1 1 i 1)) X hK rfl rfl (Nat.le_of_ble_eq_true rfl) inTX8 (gc (t := 1) (by decide) hi) kw_1_230 rfl rfl dX8_numberAt_3 ?_
  refine q_iconst (v := 1) X dX8_numberAt_6 (by decide) ?_
  refine q_isub X dX8_numberAt_7 ?_
  refine q_calli (q_runSN X hK hZ zo [.int p0, .int 0, .int ((mm.1 1 i 1) - 1)] [] rfl rfl (Nat.le_of_ble_eq_true rfl) dX8_numberAt_8 ⟨Nat.le_of_ble_eq_true rfl, Nat.le_of_ble_eq_true rfl⟩ (c_X9_isWithin ax p0 0 ((mm.1 1 i 1) - 1) mm _ h) rfl rfl (List.mem_of_getElem? (i := 37) rfl) kw_1_1 kw_2_158 kw_2_157 hy_X9_isWithin.2 ⟨Nat.le_of_ble_eq_true rfl, Nat.le_of_ble_eq_true rfl⟩) (fun r_1 m_2 h => ?_)
  obtain ⟨h, hm⟩ := h
  subst hm
  refine q_if_eq (tgt := 26) X dX8_numberAt_11 (by decide) (fun c_3 => ?_) (fun c_3 => ?_)
  · have h := h.1 c_3
    refine q_iconst (v := (-1)) X dX8_numberAt_26 (by decide) ?_
    exact hE _ _ _ _ dX8_numberAt_27 ⟨h, rfl⟩
  · have h := h.2 c_3
    refine q_aload_n (j := 0) X dX8_numberAt_14 rfl rfl ?_
    refine q_get (k := 6) (v := .ref (ad 7 i)) X hK rfl rfl (Nat.le_of_ble_eq_true rfl) inTX8 (gc (t := 1) (by decide) hi) kw_2_2 rfl (rv_nn (a := ad 7) (r := i) hi.1) dX8_numberAt_15 ?_
    refine q_iload_n (j := 1) X dX8_numberAt_18 rfl rfl ?_
    obtain ⟨b_4, h⟩ := h
    refine q_aald (t := 7) (i := i) (jn := p0.toNatClampNeg) (v := rv (ad 3) (mm.2 7 i p0.toNatClampNeg)) X hK rfl rfl (gc (t := 7) (by decide) hi) rfl b_4 rfl rfl dX8_numberAt_19 ?_
    obtain ⟨k_5, h⟩ := h
    rw [rv_nn (a := ad 3) (r := (mm.2 7 i p0.toNatClampNeg)) k_5.1]
    refine q_getN (k := 0) (v := .int (mm.1 3 (mm.2 7 i p0.toNatClampNeg) 0)) X hK rfl rfl (Nat.le_of_ble_eq_true rfl) inTX2 (gc (t := 3) (by decide) k_5) (List.mem_of_getElem? (i := 13) rfl) rfl rfl dX8_numberAt_20 ?_
    refine q_goto (tgt := 27) X dX8_numberAt_23 (by decide) ?_
    exact hE _ _ _ _ dX8_numberAt_27 ⟨h, rfl⟩
theorem dX9_nextOverdue_0 : decode cX9_nextOverdue 0 = .ok (.aload_n 0, 1) := by decide +kernel
theorem dX9_nextOverdue_1 : decode cX9_nextOverdue 1 = .ok (.getfield 10, 3) := by decide +kernel
theorem dX9_nextOverdue_4 : decode cX9_nextOverdue 4 = .ok (.aload_n 0, 1) := by decide +kernel
theorem dX9_nextOverdue_5 : decode cX9_nextOverdue 5 = .ok (.getfield 10, 3) := by decide +kernel
theorem dX9_nextOverdue_8 : decode cX9_nextOverdue 8 = .ok (.invokevirtual 317, 3) := by decide +kernel
theorem dX9_nextOverdue_11 : decode cX9_nextOverdue 11 = .ok (.invokevirtual 320, 3) := by decide +kernel
theorem dX9_nextOverdue_14 : decode cX9_nextOverdue 14 = .ok (.ireturn, 1) := by decide +kernel
def w_X9_nextOverdue  (mm : Mm) (Q9 : Int32 → Prop) : Prop :=
  w_X8_nextLate 1 mm (fun (r_1 : Int32) => w_X8_numberAt 1 r_1 mm (fun (r_3 : Int32) => Q9 r_3))
def rm_X9_nextOverdue : Room := { frames := 3, cells := 0, slots := 0, locals := 64 }
theorem hy_X9_nextOverdue : yX9_nextOverdue.cls = RX9 ∧ yX9_nextOverdue.cls ≠ "java/lang/invoke/MethodHandle" ∧ yX9_nextOverdue.cls ≠ "java/lang/invoke/VarHandle" ∧ (parseMethodDescriptor yX9_nextOverdue.desc).map (fun d => d.parameters.length) = some 0 := by decide +kernel
set_option maxRecDepth 100000 in
set_option maxHeartbeats 4000000 in
theorem c_X9_nextOverdue {l : Launch} {D : va_G} {cA : Nat → ClassId} {ad : Nat → Nat → Nat} {A : Nat → Prop} (ax : Ax ad GC A)  (mm : Mm) (Q9 : Int32 → Prop) (h : w_X9_nextOverdue mm Q9) : Met l yX9_nextOverdue (.code yX9_nextOverdue cX9_nextOverdue 1 (some .int) :: TG) rm_X9_nextOverdue (PcM TT D cA ad false GC (ZC ad A) [.ref (ad 0 1)] mm) (AnsI TT D cA ad false GC A (fun r mm' => Q9 r ∧ mm = mm')) 0 0 A := by
  have zo := ZC_ok ad A
  unfold w_X9_nextOverdue at h
  refine enterI pl_X9 ⟨rfl, rfl⟩ rfl (Nat.le_of_ble_eq_true rfl) ?_
  intro p e s m args below meth c QQ X hK hZ hnm hE
  refine q_aload_n (j := 0) X dX9_nextOverdue_0 rfl rfl ?_
  refine q_get (k := 0) (v := .ref (ad 1 1)) X hK rfl rfl (Nat.le_of_ble_eq_true rfl) inTX9 (gc (t := 0) (by decide) (ok1 (t := 0) (Nat.le_of_ble_eq_true rfl))) kw_2_111 rfl (rv_nn (a := ad 1) (r := 1) (ok1 (t := 1) (Nat.le_of_ble_eq_true rfl)).1) dX9_nextOverdue_1 ?_
  refine q_aload_n (j := 0) X dX9_nextOverdue_4 rfl rfl ?_
  refine q_get (k := 0) (v := .ref (ad 1 1)) X hK rfl rfl (Nat.le_of_ble_eq_true rfl) inTX9 (gc (t := 0) (by decide) (ok1 (t := 0) (Nat.le_of_ble_eq_true rfl))) kw_2_111 rfl (rv_nn (a := ad 1) (r := 1) (ok1 (t := 1) (Nat.le_of_ble_eq_true rfl)).1) dX9_nextOverdue_5 ?_
  refine q_calli (q_runVN X hK hZ zo (gc (t := 1) (by decide) (ok1 (t := 1) (Nat.le_of_ble_eq_true rfl))) rfl rfl [] [.ref (ad 1 1)] rfl rfl (Nat.le_of_ble_eq_true rfl) dX9_nextOverdue_8 ⟨Nat.le_of_ble_eq_true rfl, Nat.le_of_ble_eq_true rfl⟩ (c_X8_nextLate ax 1 (ok1 (t := 1) (Nat.le_of_ble_eq_true rfl)) mm _ h) rfl rfl (List.mem_of_getElem? (i := 106) rfl) kw_1_2 kw_6_217 kw_6_216 ks_84 hy_X8_nextLate.2 ⟨Nat.le_of_ble_eq_true rfl, Nat.le_of_ble_eq_true rfl⟩) (fun r_1 m_2 h => ?_)
  obtain ⟨h, hm⟩ := h
  subst hm
  refine q_calli (q_runVN X hK hZ zo (gc (t := 1) (by decide) (ok1 (t := 1) (Nat.le_of_ble_eq_true rfl))) rfl rfl [.int r_1] [] rfl rfl (Nat.le_of_ble_eq_true rfl) dX9_nextOverdue_11 ⟨Nat.le_of_ble_eq_true rfl, Nat.le_of_ble_eq_true rfl⟩ (c_X8_numberAt ax 1 (ok1 (t := 1) (Nat.le_of_ble_eq_true rfl)) r_1 mm _ h) rfl rfl (List.mem_of_getElem? (i := 87) rfl) kw_1_2 kw_5_216 kw_5_215 ks_67 hy_X8_numberAt.2 ⟨Nat.le_of_ble_eq_true rfl, Nat.le_of_ble_eq_true rfl⟩) (fun r_3 m_4 h => ?_)
  obtain ⟨h, hm⟩ := h
  subst hm
  exact hE _ _ _ _ dX9_nextOverdue_14 ⟨h, rfl⟩
theorem dX8_tellDuties_0 : decode cX8_tellDuties 0 = .ok (.iconst 0, 1) := by decide +kernel
theorem dX8_tellDuties_1 : decode cX8_tellDuties 1 = .ok (.istore_n 1, 1) := by decide +kernel
theorem dX8_tellDuties_2 : decode cX8_tellDuties 2 = .ok (.iload_n 1, 1) := by decide +kernel
theorem dX8_tellDuties_3 : decode cX8_tellDuties 3 = .ok (.aload_n 0, 1) := by decide +kernel
theorem dX8_tellDuties_4 : decode cX8_tellDuties 4 = .ok (.getfield 62, 3) := by decide +kernel
theorem dX8_tellDuties_7 : decode cX8_tellDuties 7 = .ok (.if_icmp .ge 35, 3) := by decide +kernel
theorem dX8_tellDuties_10 : decode cX8_tellDuties 10 = .ok (.aload_n 0, 1) := by decide +kernel
theorem dX8_tellDuties_11 : decode cX8_tellDuties 11 = .ok (.getfield 42, 3) := by decide +kernel
theorem dX8_tellDuties_14 : decode cX8_tellDuties 14 = .ok (.iload_n 1, 1) := by decide +kernel
theorem dX8_tellDuties_15 : decode cX8_tellDuties 15 = .ok (.aload_n 0, 1) := by decide +kernel
theorem dX8_tellDuties_16 : decode cX8_tellDuties 16 = .ok (.aload_n 0, 1) := by decide +kernel
theorem dX8_tellDuties_17 : decode cX8_tellDuties 17 = .ok (.getfield 20, 3) := by decide +kernel
theorem dX8_tellDuties_20 : decode cX8_tellDuties 20 = .ok (.iload_n 1, 1) := by decide +kernel
theorem dX8_tellDuties_21 : decode cX8_tellDuties 21 = .ok (.aaload, 1) := by decide +kernel
theorem dX8_tellDuties_22 : decode cX8_tellDuties 22 = .ok (.aload_n 0, 1) := by decide +kernel
theorem dX8_tellDuties_23 : decode cX8_tellDuties 23 = .ok (.aload_n 0, 1) := by decide +kernel
theorem dX8_tellDuties_24 : decode cX8_tellDuties 24 = .ok (.getfield 20, 3) := by decide +kernel
theorem dX8_tellDuties_27 : decode cX8_tellDuties 27 = .ok (.iload_n 1, 1) := by decide +kernel
theorem dX8_tellDuties_28 : decode cX8_tellDuties 28 = .ok (.aaload, 1) := by decide +kernel
theorem dX8_tellDuties_29 : decode cX8_tellDuties 29 = .ok (.invokevirtual 109, 3) := by decide +kernel
theorem dX8_tellDuties_32 : decode cX8_tellDuties 32 = .ok (.invokevirtual 127, 3) := by decide +kernel
theorem dX8_tellDuties_35 : decode cX8_tellDuties 35 = .ok (.iastore, 1) := by decide +kernel
theorem dX8_tellDuties_36 : decode cX8_tellDuties 36 = .ok (.iinc 1 1, 3) := by decide +kernel
theorem dX8_tellDuties_39 : decode cX8_tellDuties 39 = .ok (.goto (-37), 3) := by decide +kernel
theorem dX8_tellDuties_42 : decode cX8_tellDuties 42 = .ok (.return_, 1) := by decide +kernel
def w_X8_tellDuties_B2 (i : Nat) (Q9 : Mm → Prop) (K_3 : Int32 → Mm → Prop) (y_1 : Int32) (m_2 : Mm) : Prop :=
  (((m_2.1 1 i 1) ≤ y_1 → Q9 m_2) ∧
  (¬ (m_2.1 1 i 1) ≤ y_1 → vp_in y_1 16 ∧ (ok 3 (m_2.2 7 i y_1.toNatClampNeg) ∧ w_X8_ageNow i (m_2.2 7 i y_1.toNatClampNeg) m_2 (fun (r_8 : Int32) => w_X8_wholeDuty i (m_2.2 7 i y_1.toNatClampNeg) r_8 m_2 (fun (r_10 : Int32) => ∀ m_12 : Mm, m_12 = sI m_2 11 i y_1.toNatClampNeg r_10 → (∀ x_13 : Int32, x_13 = y_1 + 1 → (K_3 x_13 m_12)))))))
def w_X8_tellDuties (i : Nat) (mm : Mm) (Q9 : Mm → Prop) : Prop :=
  ∃ n, itr (α := Int32 × Mm) (fun K a => w_X8_tellDuties_B2 i Q9 (fun z0 z1 => K (z0, z1)) a.1 a.2) n (0, mm)
def rm_X8_tellDuties : Room := { frames := 2, cells := 0, slots := 0, locals := 46 }
theorem hy_X8_tellDuties : yX8_tellDuties.cls = RX8 ∧ yX8_tellDuties.cls ≠ "java/lang/invoke/MethodHandle" ∧ yX8_tellDuties.cls ≠ "java/lang/invoke/VarHandle" ∧ (parseMethodDescriptor yX8_tellDuties.desc).map (fun d => d.parameters.length) = some 0 := by decide +kernel
set_option maxRecDepth 100000 in
set_option maxHeartbeats 4000000 in
theorem c_X8_tellDuties {l : Launch} {D : va_G} {cA : Nat → ClassId} {ad : Nat → Nat → Nat} {A : Nat → Prop} (ax : Ax ad GC A) (i : Nat) (hi : ok 1 i) (mm : Mm) (Q9 : Mm → Prop) (h : w_X8_tellDuties i mm Q9) : Met l yX8_tellDuties (.code yX8_tellDuties cX8_tellDuties 2 none :: TG) rm_X8_tellDuties (PcM TT D cA ad false GC (ZC ad A) [.ref (ad 1 i)] mm) (AnsV TT D cA ad false GC A Q9) 0 0 A := by
  have zo := ZC_ok ad A
  unfold w_X8_tellDuties at h
  refine enterV pl_X8 ⟨rfl, rfl⟩ rfl (Nat.le_of_ble_eq_true rfl) ?_
  intro p e s m args below meth c QQ X hK hZ hnm hE
  refine q_iconst (v := 0) X dX8_tellDuties_0 (by decide) ?_
  refine q_istore_n (lv' := [(1, .int 0), (0, .ref (ad 1 i))]) X dX8_tellDuties_1 rfl (by decide) rfl ?_
  refine q_sub [1, 0] rfl ?_
  have L2 : ∀ (n : Nat) (y_1 : Int32) (m_2 : Mm), itr (α := Int32 × Mm) (fun K a => w_X8_tellDuties_B2 i Q9 (fun z0 z1 => K (z0, z1)) a.1 a.2) n (y_1, m_2) → V p l e rm_X8_tellDuties s m args below meth c QQ 2 A 0 0 (Rep TT D cA ad false GC m_2) 2 [(0, .ref (ad 1 i)), (1, .int y_1)] [] := by
    intro n
    induction n with
    | zero => intro y_1 m_2 h; exact h.elim
    | succ n ih_4 =>
      intro y_1 m_2 h
      have h : w_X8_tellDuties_B2 i Q9 (fun z0 z1 => itr (α := Int32 × Mm) (fun K a => w_X8_tellDuties_B2 i Q9 (fun z0 z1 => K (z0, z1)) a.1 a.2) n (z0, z1)) y_1 m_2 := h
      unfold w_X8_tellDuties_B2 at h
      refine q_iload_n (j := 1) X dX8_tellDuties_2 rfl rfl ?_
      refine q_aload_n (j := 0) X dX8_tellDuties_3 rfl rfl ?_
      refine q_get (k := 1) (v := .int (m_2.1 1 i 1)) X hK rfl rfl (Nat.le_of_ble_eq_true rfl) inTX8 (gc (t := 1) (by decide) hi) kw_1_230 rfl rfl dX8_tellDuties_4 ?_
      refine q_icmp_ge (tgt := 42) X dX8_tellDuties_7 (by decide) (fun c_5 => ?_) (fun c_5 => ?_)
      · have h := h.1 c_5
        exact hE _ _ _ dX8_tellDuties_42 h
      · have h := h.2 c_5
        refine q_aload_n (j := 0) X dX8_tellDuties_10 rfl rfl ?_
        refine q_get (k := 10) (v := .ref (ad 11 i)) X hK rfl rfl (Nat.le_of_ble_eq_true rfl) inTX8 (gc (t := 1) (by decide) hi) kw_2_12 rfl (rv_nn (a := ad 11) (r := i) hi.1) dX8_tellDuties_11 ?_
        refine q_iload_n (j := 1) X dX8_tellDuties_14 rfl rfl ?_
        refine q_aload_n (j := 0) X dX8_tellDuties_15 rfl rfl ?_
        refine q_aload_n (j := 0) X dX8_tellDuties_16 rfl rfl ?_
        refine q_get (k := 6) (v := .ref (ad 7 i)) X hK rfl rfl (Nat.le_of_ble_eq_true rfl) inTX8 (gc (t := 1) (by decide) hi) kw_2_2 rfl (rv_nn (a := ad 7) (r := i) hi.1) dX8_tellDuties_17 ?_
        refine q_iload_n (j := 1) X dX8_tellDuties_20 rfl rfl ?_
        obtain ⟨b_6, h⟩ := h
        refine q_aald (t := 7) (i := i) (jn := y_1.toNatClampNeg) (v := rv (ad 3) (m_2.2 7 i y_1.toNatClampNeg)) X hK rfl rfl (gc (t := 7) (by decide) hi) rfl b_6 rfl rfl dX8_tellDuties_21 ?_
        refine q_aload_n (j := 0) X dX8_tellDuties_22 rfl rfl ?_
        refine q_aload_n (j := 0) X dX8_tellDuties_23 rfl rfl ?_
        refine q_get (k := 6) (v := .ref (ad 7 i)) X hK rfl rfl (Nat.le_of_ble_eq_true rfl) inTX8 (gc (t := 1) (by decide) hi) kw_2_2 rfl (rv_nn (a := ad 7) (r := i) hi.1) dX8_tellDuties_24 ?_
        refine q_iload_n (j := 1) X dX8_tellDuties_27 rfl rfl ?_
        refine q_aald (t := 7) (i := i) (jn := y_1.toNatClampNeg) (v := rv (ad 3) (m_2.2 7 i y_1.toNatClampNeg)) X hK rfl rfl (gc (t := 7) (by decide) hi) rfl b_6 rfl rfl dX8_tellDuties_28 ?_
        obtain ⟨k_7, h⟩ := h
        rw [rv_nn (a := ad 3) (r := (m_2.2 7 i y_1.toNatClampNeg)) k_7.1]
        refine q_calli (q_runV X hK hZ zo (gc (t := 1) (by decide) hi) rfl rfl [.ref (ad 3 (m_2.2 7 i y_1.toNatClampNeg))] [.ref (ad 3 (m_2.2 7 i y_1.toNatClampNeg)), .ref (ad 1 i), .int y_1, .ref (ad 11 i)] rfl rfl (Nat.le_of_ble_eq_true rfl) dX8_tellDuties_29 ⟨Nat.le_of_ble_eq_true rfl, Nat.le_of_ble_eq_true rfl⟩ (c_X8_ageNow ax i hi (m_2.2 7 i y_1.toNatClampNeg) k_7 m_2 _ h) rfl rfl (gV kw_2_179 kw_2_181 ks_6 kw_1_2 kw_2_182) hy_X8_ageNow ⟨Nat.le_of_ble_eq_true rfl, Nat.le_of_ble_eq_true rfl⟩) (fun r_8 m_9 h => ?_)
        obtain ⟨h, hm⟩ := h
        subst hm
        refine q_calli (q_runV X hK hZ zo (gc (t := 1) (by decide) hi) rfl rfl [.ref (ad 3 (m_2.2 7 i y_1.toNatClampNeg)), .int r_8] [.int y_1, .ref (ad 11 i)] rfl rfl (Nat.le_of_ble_eq_true rfl) dX8_tellDuties_32 ⟨Nat.le_of_ble_eq_true rfl, Nat.le_of_ble_eq_true rfl⟩ (c_X8_wholeDuty ax i hi (m_2.2 7 i y_1.toNatClampNeg) k_7 r_8 m_2 _ h) rfl rfl (gV kw_2_183 kw_2_185 ks_7 kw_1_2 kw_2_186) hy_X8_wholeDuty ⟨Nat.le_of_ble_eq_true rfl, Nat.le_of_ble_eq_true rfl⟩) (fun r_10 m_11 h => ?_)
        obtain ⟨h, hm⟩ := h
        subst hm
        refine q_iast (t := 11) (i := i) (jn := y_1.toNatClampNeg) X ax hK rfl rfl (gc (t := 11) (by decide) hi) rfl b_6 rfl rfl dX8_tellDuties_35 ?_
        refine q_nmP (fun m_12 em_12 => ?_)
        have h := h m_12 em_12
        obtain ⟨x_13, ex_13⟩ : ∃ z : Int32, z = y_1 + 1 := ⟨_, rfl⟩
        have h := h x_13 ex_13
        refine q_iinc (j := 1) (v := x_13) (lv' := [(1, .int x_13), (0, .ref (ad 1 i))]) X dX8_tellDuties_36 rfl (by rw [ex_13]; rfl) (by decide) rfl ?_
        refine q_goto (tgt := 2) X dX8_tellDuties_39 (by decide) ?_
        refine q_sub [1, 0] rfl ?_
        exact ih_4 x_13 m_12 h
  obtain ⟨n_14, h⟩ := h
  exact L2 n_14 0 mm h
theorem dX8_isCheaper_0 : decode cX8_isCheaper 0 = .ok (.aload_n 0, 1) := by decide +kernel
theorem dX8_isCheaper_1 : decode cX8_isCheaper 1 = .ok (.getfield 42, 3) := by decide +kernel
theorem dX8_isCheaper_4 : decode cX8_isCheaper 4 = .ok (.iload_n 1, 1) := by decide +kernel
theorem dX8_isCheaper_5 : decode cX8_isCheaper 5 = .ok (.iaload, 1) := by decide +kernel
theorem dX8_isCheaper_6 : decode cX8_isCheaper 6 = .ok (.i2l, 1) := by decide +kernel
theorem dX8_isCheaper_7 : decode cX8_isCheaper 7 = .ok (.aload_n 0, 1) := by decide +kernel
theorem dX8_isCheaper_8 : decode cX8_isCheaper 8 = .ok (.getfield 20, 3) := by decide +kernel
theorem dX8_isCheaper_11 : decode cX8_isCheaper 11 = .ok (.iload_n 2, 1) := by decide +kernel
theorem dX8_isCheaper_12 : decode cX8_isCheaper 12 = .ok (.aaload, 1) := by decide +kernel
theorem dX8_isCheaper_13 : decode cX8_isCheaper 13 = .ok (.getfield 97, 3) := by decide +kernel
theorem dX8_isCheaper_16 : decode cX8_isCheaper 16 = .ok (.i2l, 1) := by decide +kernel
theorem dX8_isCheaper_17 : decode cX8_isCheaper 17 = .ok (.lmul, 1) := by decide +kernel
theorem dX8_isCheaper_18 : decode cX8_isCheaper 18 = .ok (.lstore_n 3, 1) := by decide +kernel
theorem dX8_isCheaper_19 : decode cX8_isCheaper 19 = .ok (.aload_n 0, 1) := by decide +kernel
theorem dX8_isCheaper_20 : decode cX8_isCheaper 20 = .ok (.getfield 42, 3) := by decide +kernel
theorem dX8_isCheaper_23 : decode cX8_isCheaper 23 = .ok (.iload_n 2, 1) := by decide +kernel
theorem dX8_isCheaper_24 : decode cX8_isCheaper 24 = .ok (.iaload, 1) := by decide +kernel
theorem dX8_isCheaper_25 : decode cX8_isCheaper 25 = .ok (.i2l, 1) := by decide +kernel
theorem dX8_isCheaper_26 : decode cX8_isCheaper 26 = .ok (.aload_n 0, 1) := by decide +kernel
theorem dX8_isCheaper_27 : decode cX8_isCheaper 27 = .ok (.getfield 20, 3) := by decide +kernel
theorem dX8_isCheaper_30 : decode cX8_isCheaper 30 = .ok (.iload_n 1, 1) := by decide +kernel
theorem dX8_isCheaper_31 : decode cX8_isCheaper 31 = .ok (.aaload, 1) := by decide +kernel
theorem dX8_isCheaper_32 : decode cX8_isCheaper 32 = .ok (.getfield 97, 3) := by decide +kernel
theorem dX8_isCheaper_35 : decode cX8_isCheaper 35 = .ok (.i2l, 1) := by decide +kernel
theorem dX8_isCheaper_36 : decode cX8_isCheaper 36 = .ok (.lmul, 1) := by decide +kernel
theorem dX8_isCheaper_37 : decode cX8_isCheaper 37 = .ok (.lstore 5, 2) := by decide +kernel
theorem dX8_isCheaper_39 : decode cX8_isCheaper 39 = .ok (.lload_n 3, 1) := by decide +kernel
theorem dX8_isCheaper_40 : decode cX8_isCheaper 40 = .ok (.lload 5, 2) := by decide +kernel
theorem dX8_isCheaper_42 : decode cX8_isCheaper 42 = .ok (.lcmp, 1) := by decide +kernel
theorem dX8_isCheaper_43 : decode cX8_isCheaper 43 = .ok (.ifCond .lt 15, 3) := by decide +kernel
theorem dX8_isCheaper_46 : decode cX8_isCheaper 46 = .ok (.lload_n 3, 1) := by decide +kernel
theorem dX8_isCheaper_47 : decode cX8_isCheaper 47 = .ok (.lload 5, 2) := by decide +kernel
theorem dX8_isCheaper_49 : decode cX8_isCheaper 49 = .ok (.lcmp, 1) := by decide +kernel
theorem dX8_isCheaper_50 : decode cX8_isCheaper 50 = .ok (.ifCond .ne 12, 3) := by decide +kernel
theorem dX8_isCheaper_53 : decode cX8_isCheaper 53 = .ok (.iload_n 1, 1) := by decide +kernel
theorem dX8_isCheaper_54 : decode cX8_isCheaper 54 = .ok (.iload_n 2, 1) := by decide +kernel
theorem dX8_isCheaper_55 : decode cX8_isCheaper 55 = .ok (.if_icmp .ge 7, 3) := by decide +kernel
theorem dX8_isCheaper_58 : decode cX8_isCheaper 58 = .ok (.iconst 1, 1) := by decide +kernel
theorem dX8_isCheaper_59 : decode cX8_isCheaper 59 = .ok (.goto 4, 3) := by decide +kernel
theorem dX8_isCheaper_62 : decode cX8_isCheaper 62 = .ok (.iconst 0, 1) := by decide +kernel
theorem dX8_isCheaper_63 : decode cX8_isCheaper 63 = .ok (.ireturn, 1) := by decide +kernel
def w_X8_isCheaper (i : Nat) (p0 : Int32) (p1 : Int32) (mm : Mm) (Q9 : Int32 → Prop) : Prop :=
  vp_in p0 16 ∧ (vp_in p1 16 ∧ (ok 3 (mm.2 7 i p1.toNatClampNeg) ∧ (∀ x_4 : Int64, x_4 = ((Int32.toInt64 (mm.1 11 i p0.toNatClampNeg)) * (Int32.toInt64 (mm.1 3 (mm.2 7 i p1.toNatClampNeg) 2))) → (ok 3 (mm.2 7 i p0.toNatClampNeg) ∧ (∀ x_6 : Int64, x_6 = ((Int32.toInt64 (mm.1 11 i p1.toNatClampNeg)) * (Int32.toInt64 (mm.1 3 (mm.2 7 i p0.toNatClampNeg) 2))) → ((((lg_cmp x_4 x_6) < 0 → Q9 1) ∧
  (¬ (lg_cmp x_4 x_6) < 0 → ((¬ (lg_cmp x_4 x_6) = 0 → Q9 0) ∧
  ((lg_cmp x_4 x_6) = 0 → ((p1 ≤ p0 → Q9 0) ∧
  (¬ p1 ≤ p0 → Q9 1))))))))))))
def rm_X8_isCheaper : Room := { frames := 0, cells := 0, slots := 0, locals := 0 }
theorem hy_X8_isCheaper : yX8_isCheaper.cls = RX8 ∧ yX8_isCheaper.cls ≠ "java/lang/invoke/MethodHandle" ∧ yX8_isCheaper.cls ≠ "java/lang/invoke/VarHandle" ∧ (parseMethodDescriptor yX8_isCheaper.desc).map (fun d => d.parameters.length) = some 2 := by decide +kernel
set_option maxRecDepth 100000 in
set_option maxHeartbeats 4000000 in
theorem c_X8_isCheaper {l : Launch} {D : va_G} {cA : Nat → ClassId} {ad : Nat → Nat → Nat} {A : Nat → Prop} (ax : Ax ad GC A) (i : Nat) (hi : ok 1 i) (p0 : Int32) (p1 : Int32) (mm : Mm) (Q9 : Int32 → Prop) (h : w_X8_isCheaper i p0 p1 mm Q9) : Met l yX8_isCheaper (.code yX8_isCheaper cX8_isCheaper 7 (some .boolean) :: TG) rm_X8_isCheaper (PcM TT D cA ad false GC (ZC ad A) [.ref (ad 1 i), .int p0, .int p1] mm) (AnsI TT D cA ad false GC A (fun r mm' => Q9 r ∧ mm = mm')) 0 0 A := by
  have zo := ZC_ok ad A
  unfold w_X8_isCheaper at h
  refine enterZ pl_X8 ⟨rfl, rfl⟩ rfl (Nat.le_of_ble_eq_true rfl) ?_
  intro p e s m args below meth c QQ X hK hZ hnm hE
  refine q_aload_n (j := 0) X dX8_isCheaper_0 rfl rfl ?_
  refine q_get (k := 10) (v := .ref (ad 11 i)) X hK rfl rfl (Nat.le_of_ble_eq_true rfl) inTX8 (gc (t := 1) (by decide) hi) kw_2_12 rfl (rv_nn (a := ad 11) (r := i) hi.1) dX8_isCheaper_1 ?_
  refine q_iload_n (j := 1) X dX8_isCheaper_4 rfl rfl ?_
  obtain ⟨b_1, h⟩ := h
  refine q_iald (t := 11) (i := i) (jn := p0.toNatClampNeg) (v := .int (mm.1 11 i p0.toNatClampNeg)) X hK rfl rfl (gc (t := 11) (by decide) hi) rfl b_1 rfl rfl dX8_isCheaper_5 ?_
  refine q_i2l X dX8_isCheaper_6 ?_
  refine q_aload_n (j := 0) X dX8_isCheaper_7 rfl rfl ?_
  refine q_get (k := 6) (v := .ref (ad 7 i)) X hK rfl rfl (Nat.le_of_ble_eq_true rfl) inTX8 (gc (t := 1) (by decide) hi) kw_2_2 rfl (rv_nn (a := ad 7) (r := i) hi.1) dX8_isCheaper_8 ?_
  refine q_iload_n (j := 2) X dX8_isCheaper_11 rfl rfl ?_
  obtain ⟨b_2, h⟩ := h
  refine q_aald (t := 7) (i := i) (jn := p1.toNatClampNeg) (v := rv (ad 3) (mm.2 7 i p1.toNatClampNeg)) X hK rfl rfl (gc (t := 7) (by decide) hi) rfl b_2 rfl rfl dX8_isCheaper_12 ?_
  obtain ⟨k_3, h⟩ := h
  rw [rv_nn (a := ad 3) (r := (mm.2 7 i p1.toNatClampNeg)) k_3.1]
  refine q_getN (k := 2) (v := .int (mm.1 3 (mm.2 7 i p1.toNatClampNeg) 2)) X hK rfl rfl (Nat.le_of_ble_eq_true rfl) inTX2 (gc (t := 3) (by decide) k_3) (List.mem_of_getElem? (i := 19) rfl) rfl rfl dX8_isCheaper_13 ?_
  refine q_i2l X dX8_isCheaper_16 ?_
  refine q_lmul X dX8_isCheaper_17 ?_
  refine q_topl (fun x_4 ex_4 => ?_)
  have h := h x_4 ex_4
  refine q_lstore_n (lv' := [(3, .long x_4), (0, .ref (ad 1 i)), (1, .int p0), (2, .int p1)]) X dX8_isCheaper_18 rfl (by decide) rfl ?_
  refine q_aload_n (j := 1) X dX8_isCheaper_19 rfl rfl ?_
  refine q_get (k := 10) (v := .ref (ad 11 i)) X hK rfl rfl (Nat.le_of_ble_eq_true rfl) inTX8 (gc (t := 1) (by decide) hi) kw_2_12 rfl (rv_nn (a := ad 11) (r := i) hi.1) dX8_isCheaper_20 ?_
  refine q_iload_n (j := 3) X dX8_isCheaper_23 rfl rfl ?_
  refine q_iald (t := 11) (i := i) (jn := p1.toNatClampNeg) (v := .int (mm.1 11 i p1.toNatClampNeg)) X hK rfl rfl (gc (t := 11) (by decide) hi) rfl b_2 rfl rfl dX8_isCheaper_24 ?_
  refine q_i2l X dX8_isCheaper_25 ?_
  refine q_aload_n (j := 1) X dX8_isCheaper_26 rfl rfl ?_
  refine q_get (k := 6) (v := .ref (ad 7 i)) X hK rfl rfl (Nat.le_of_ble_eq_true rfl) inTX8 (gc (t := 1) (by decide) hi) kw_2_2 rfl (rv_nn (a := ad 7) (r := i) hi.1) dX8_isCheaper_27 ?_
  refine q_iload_n (j := 2) X dX8_isCheaper_30 rfl rfl ?_
  refine q_aald (t := 7) (i := i) (jn := p0.toNatClampNeg) (v := rv (ad 3) (mm.2 7 i p0.toNatClampNeg)) X hK rfl rfl (gc (t := 7) (by decide) hi) rfl b_1 rfl rfl dX8_isCheaper_31 ?_
  obtain ⟨k_5, h⟩ := h
  rw [rv_nn (a := ad 3) (r := (mm.2 7 i p0.toNatClampNeg)) k_5.1]
  refine q_getN (k := 2) (v := .int (mm.1 3 (mm.2 7 i p0.toNatClampNeg) 2)) X hK rfl rfl (Nat.le_of_ble_eq_true rfl) inTX2 (gc (t := 3) (by decide) k_5) (List.mem_of_getElem? (i := 19) rfl) rfl rfl dX8_isCheaper_32 ?_
  refine q_i2l X dX8_isCheaper_35 ?_
  refine q_lmul X dX8_isCheaper_36 ?_
  refine q_topl (fun x_6 ex_6 => ?_)
  have h := h x_6 ex_6
  refine q_lstore (lv' := [(5, .long x_6), (3, .long x_4), (0, .ref (ad 1 i)), (1, .int p0), (2, .int p1)]) X dX8_isCheaper_37 (by decide) rfl ?_
  refine q_lload_n (j := 1) X dX8_isCheaper_39 rfl rfl ?_
  refine q_lload (j := 0) X dX8_isCheaper_40 rfl ?_
  refine q_lcmp X dX8_isCheaper_42 ?_
  refine q_if_lt (tgt := 58) X dX8_isCheaper_43 (by decide) (fun c_7 => ?_) (fun c_7 => ?_)
  · have h := h.1 c_7
    refine q_iconst (v := 1) X dX8_isCheaper_58 (by decide) ?_
    refine q_goto (tgt := 63) X dX8_isCheaper_59 (by decide) ?_
    exact hE _ _ _ _ dX8_isCheaper_63 (Or.inr rfl) ⟨h, rfl⟩
  · have h := h.2 c_7
    refine q_lload_n (j := 1) X dX8_isCheaper_46 rfl rfl ?_
    refine q_lload (j := 0) X dX8_isCheaper_47 rfl ?_
    refine q_lcmp X dX8_isCheaper_49 ?_
    refine q_if_ne (tgt := 62) X dX8_isCheaper_50 (by decide) (fun c_8 => ?_) (fun c_8 => ?_)
    · have h := h.1 c_8
      refine q_iconst (v := 0) X dX8_isCheaper_62 (by decide) ?_
      exact hE _ _ _ _ dX8_isCheaper_63 (Or.inl rfl) ⟨h, rfl⟩
    · have h := h.2 c_8
      refine q_iload_n (j := 3) X dX8_isCheaper_53 rfl rfl ?_
      refine q_iload_n (j := 4) X dX8_isCheaper_54 rfl rfl ?_
      refine q_icmp_ge (tgt := 62) X dX8_isCheaper_55 (by decide) (fun c_9 => ?_) (fun c_9 => ?_)
      · have h := h.1 c_9
        refine q_iconst (v := 0) X dX8_isCheaper_62 (by decide) ?_
        exact hE _ _ _ _ dX8_isCheaper_63 (Or.inl rfl) ⟨h, rfl⟩
      · have h := h.2 c_9
        refine q_iconst (v := 1) X dX8_isCheaper_58 (by decide) ?_
        refine q_goto (tgt := 63) X dX8_isCheaper_59 (by decide) ?_
        exact hE _ _ _ _ dX8_isCheaper_63 (Or.inr rfl) ⟨h, rfl⟩
