theorem dX9_isWithin_0 : decode cX9_isWithin 0 = .ok (.iload_n 0, 1) := by decide +kernel
theorem dX9_isWithin_1 : decode cX9_isWithin 1 = .ok (.iload_n 1, 1) := by decide +kernel
theorem dX9_isWithin_2 : decode cX9_isWithin 2 = .ok (.if_icmp .lt 12, 3) := by decide +kernel
theorem dX9_isWithin_5 : decode cX9_isWithin 5 = .ok (.iload_n 0, 1) := by decide +kernel
theorem dX9_isWithin_6 : decode cX9_isWithin 6 = .ok (.iload_n 2, 1) := by decide +kernel
theorem dX9_isWithin_7 : decode cX9_isWithin 7 = .ok (.if_icmp .gt 7, 3) := by decide +kernel
theorem dX9_isWithin_10 : decode cX9_isWithin 10 = .ok (.iconst 1, 1) := by decide +kernel
theorem dX9_isWithin_11 : decode cX9_isWithin 11 = .ok (.goto 4, 3) := by decide +kernel
theorem dX9_isWithin_14 : decode cX9_isWithin 14 = .ok (.iconst 0, 1) := by decide +kernel
theorem dX9_isWithin_15 : decode cX9_isWithin 15 = .ok (.ireturn, 1) := by decide +kernel
def w_X9_isWithin (p0 : Int32) (p1 : Int32) (p2 : Int32) (mm : Mm) (Q9 : Int32 → Prop) : Prop :=
  ((p0 < p1 → Q9 0) ∧
  (¬ p0 < p1 → ((p2 < p0 → Q9 0) ∧
  (¬ p2 < p0 → Q9 1))))
def rm_X9_isWithin : Room := { frames := 0, cells := 0, slots := 0, locals := 0 }
theorem hy_X9_isWithin : yX9_isWithin.cls = RX9 ∧ yX9_isWithin.cls ≠ "java/lang/invoke/MethodHandle" ∧ yX9_isWithin.cls ≠ "java/lang/invoke/VarHandle" ∧ (parseMethodDescriptor yX9_isWithin.desc).map (fun d => d.parameters.length) = some 3 := by decide +kernel
set_option maxRecDepth 100000 in
set_option maxHeartbeats 4000000 in
theorem c_X9_isWithin {l : Launch} {D : va_G} {cA : Nat → ClassId} {ad : Nat → Nat → Nat} {A : Nat → Prop} (ax : Ax ad GC A) (p0 : Int32) (p1 : Int32) (p2 : Int32) (mm : Mm) (Q9 : Int32 → Prop) (h : w_X9_isWithin p0 p1 p2 mm Q9) : Met l yX9_isWithin (.code yX9_isWithin cX9_isWithin 3 (some .boolean) :: TG) rm_X9_isWithin (PcM TT D cA ad false GC (ZC ad A) [.int p0, .int p1, .int p2] mm) (AnsI TT D cA ad false GC A (fun r mm' => Q9 r ∧ mm = mm')) 0 0 A := by
  have zo := ZC_ok ad A
  unfold w_X9_isWithin at h
  refine enterZ pl_X9 ⟨rfl, rfl⟩ rfl (Nat.le_of_ble_eq_true rfl) ?_
  intro p e s m args below meth c QQ X hK hZ hnm hE
  refine q_iload_n (j := 0) X dX9_isWithin_0 rfl rfl ?_
  refine q_iload_n (j := 1) X dX9_isWithin_1 rfl rfl ?_
  refine q_icmp_lt (tgt := 14) X dX9_isWithin_2 (by decide) (fun c_1 => ?_) (fun c_1 => ?_)
  · have h := h.1 c_1
    refine q_iconst (v := 0) X dX9_isWithin_14 (by decide) ?_
    exact hE _ _ _ _ dX9_isWithin_15 (Or.inl rfl) ⟨h, rfl⟩
  · have h := h.2 c_1
    refine q_iload_n (j := 0) X dX9_isWithin_5 rfl rfl ?_
    refine q_iload_n (j := 2) X dX9_isWithin_6 rfl rfl ?_
    refine q_icmp_gt (tgt := 14) X dX9_isWithin_7 (by decide) (fun c_2 => ?_) (fun c_2 => ?_)
    · have h := h.1 c_2
      refine q_iconst (v := 0) X dX9_isWithin_14 (by decide) ?_
      exact hE _ _ _ _ dX9_isWithin_15 (Or.inl rfl) ⟨h, rfl⟩
    · have h := h.2 c_2
      refine q_iconst (v := 1) X dX9_isWithin_10 (by decide) ?_
      refine q_goto (tgt := 15) X dX9_isWithin_11 (by decide) ?_
      exact hE _ _ _ _ dX9_isWithin_15 (Or.inr rfl) ⟨h, rfl⟩
theorem dX9_areGoods_0 : decode cX9_areGoods 0 = .ok (.iload_n 0, 1) := by decide +kernel
theorem dX9_areGoods_1 : decode cX9_areGoods 1 = .ok (.iconst 0, 1) := by decide +kernel
theorem dX9_areGoods_2 : decode cX9_areGoods 2 = .ok (.iconst 5, 1) := by decide +kernel
theorem dX9_areGoods_3 : decode cX9_areGoods 3 = .ok (.invokestatic 107, 3) := by decide +kernel
theorem dX9_areGoods_6 : decode cX9_areGoods 6 = .ok (.ifCond .eq 38, 3) := by decide +kernel
theorem dX9_areGoods_9 : decode cX9_areGoods 9 = .ok (.iload_n 1, 1) := by decide +kernel
theorem dX9_areGoods_10 : decode cX9_areGoods 10 = .ok (.iconst 1, 1) := by decide +kernel
theorem dX9_areGoods_11 : decode cX9_areGoods 11 = .ok (.sipush 999, 3) := by decide +kernel
theorem dX9_areGoods_14 : decode cX9_areGoods 14 = .ok (.invokestatic 107, 3) := by decide +kernel
theorem dX9_areGoods_17 : decode cX9_areGoods 17 = .ok (.ifCond .eq 27, 3) := by decide +kernel
theorem dX9_areGoods_20 : decode cX9_areGoods 20 = .ok (.iload_n 2, 1) := by decide +kernel
theorem dX9_areGoods_21 : decode cX9_areGoods 21 = .ok (.iconst 1, 1) := by decide +kernel
theorem dX9_areGoods_22 : decode cX9_areGoods 22 = .ok (.sipush 9999, 3) := by decide +kernel
theorem dX9_areGoods_25 : decode cX9_areGoods 25 = .ok (.invokestatic 107, 3) := by decide +kernel
theorem dX9_areGoods_28 : decode cX9_areGoods 28 = .ok (.ifCond .eq 16, 3) := by decide +kernel
theorem dX9_areGoods_31 : decode cX9_areGoods 31 = .ok (.iload_n 3, 1) := by decide +kernel
theorem dX9_areGoods_32 : decode cX9_areGoods 32 = .ok (.iconst 0, 1) := by decide +kernel
theorem dX9_areGoods_33 : decode cX9_areGoods 33 = .ok (.iconst 4, 1) := by decide +kernel
theorem dX9_areGoods_34 : decode cX9_areGoods 34 = .ok (.invokestatic 107, 3) := by decide +kernel
theorem dX9_areGoods_37 : decode cX9_areGoods 37 = .ok (.ifCond .eq 7, 3) := by decide +kernel
theorem dX9_areGoods_40 : decode cX9_areGoods 40 = .ok (.iconst 1, 1) := by decide +kernel
theorem dX9_areGoods_41 : decode cX9_areGoods 41 = .ok (.goto 4, 3) := by decide +kernel
theorem dX9_areGoods_44 : decode cX9_areGoods 44 = .ok (.iconst 0, 1) := by decide +kernel
theorem dX9_areGoods_45 : decode cX9_areGoods 45 = .ok (.ireturn, 1) := by decide +kernel
def w_X9_areGoods (p0 : Int32) (p1 : Int32) (p2 : Int32) (p3 : Int32) (mm : Mm) (Q9 : Int32 → Prop) : Prop :=
  w_X9_isWithin p0 0 5 mm (fun (r_1 : Int32) => ((r_1 = 0 → Q9 0) ∧
  (¬ r_1 = 0 → w_X9_isWithin p1 1 999 mm (fun (r_4 : Int32) => ((r_4 = 0 → Q9 0) ∧
  (¬ r_4 = 0 → w_X9_isWithin p2 1 9999 mm (fun (r_7 : Int32) => ((r_7 = 0 → Q9 0) ∧
  (¬ r_7 = 0 → w_X9_isWithin p3 0 4 mm (fun (r_10 : Int32) => ((r_10 = 0 → Q9 0) ∧
  (¬ r_10 = 0 → Q9 1))))))))))))
def rm_X9_areGoods : Room := { frames := 1, cells := 0, slots := 0, locals := 22 }
theorem hy_X9_areGoods : yX9_areGoods.cls = RX9 ∧ yX9_areGoods.cls ≠ "java/lang/invoke/MethodHandle" ∧ yX9_areGoods.cls ≠ "java/lang/invoke/VarHandle" ∧ (parseMethodDescriptor yX9_areGoods.desc).map (fun d => d.parameters.length) = some 4 := by decide +kernel
set_option maxRecDepth 100000 in
set_option maxHeartbeats 4000000 in
theorem c_X9_areGoods {l : Launch} {D : va_G} {cA : Nat → ClassId} {ad : Nat → Nat → Nat} {A : Nat → Prop} (ax : Ax ad GC A) (p0 : Int32) (p1 : Int32) (p2 : Int32) (p3 : Int32) (mm : Mm) (Q9 : Int32 → Prop) (h : w_X9_areGoods p0 p1 p2 p3 mm Q9) : Met l yX9_areGoods (.code yX9_areGoods cX9_areGoods 4 (some .boolean) :: TG) rm_X9_areGoods (PcM TT D cA ad false GC (ZC ad A) [.int p0, .int p1, .int p2, .int p3] mm) (AnsI TT D cA ad false GC A (fun r mm' => Q9 r ∧ mm = mm')) 0 0 A := by
  have zo := ZC_ok ad A
  unfold w_X9_areGoods at h
  refine enterZ pl_X9 ⟨rfl, rfl⟩ rfl (Nat.le_of_ble_eq_true rfl) ?_
  intro p e s m args below meth c QQ X hK hZ hnm hE
  refine q_iload_n (j := 0) X dX9_areGoods_0 rfl rfl ?_
  refine q_iconst (v := 0) X dX9_areGoods_1 (by decide) ?_
  refine q_iconst (v := 5) X dX9_areGoods_2 (by decide) ?_
  refine q_calli (q_runS X hK hZ zo [.int p0, .int 0, .int 5] [] rfl rfl (Nat.le_of_ble_eq_true rfl) dX9_areGoods_3 ⟨Nat.le_of_ble_eq_true rfl, Nat.le_of_ble_eq_true rfl⟩ (c_X9_isWithin ax p0 0 5 mm _ h) rfl rfl (gS kw_2_156 kw_2_157 kw_1_1 kw_2_158) hy_X9_isWithin.2 ⟨Nat.le_of_ble_eq_true rfl, Nat.le_of_ble_eq_true rfl⟩) (fun r_1 m_2 h => ?_)
  obtain ⟨h, hm⟩ := h
  subst hm
  refine q_if_eq (tgt := 44) X dX9_areGoods_6 (by decide) (fun c_3 => ?_) (fun c_3 => ?_)
  · have h := h.1 c_3
    refine q_iconst (v := 0) X dX9_areGoods_44 (by decide) ?_
    exact hE _ _ _ _ dX9_areGoods_45 (Or.inl rfl) ⟨h, rfl⟩
  · have h := h.2 c_3
    refine q_iload_n (j := 1) X dX9_areGoods_9 rfl rfl ?_
    refine q_iconst (v := 1) X dX9_areGoods_10 (by decide) ?_
    refine q_sipush (v := 999) X dX9_areGoods_11 (by decide) ?_
    refine q_calli (q_runS X hK hZ zo [.int p1, .int 1, .int 999] [] rfl rfl (Nat.le_of_ble_eq_true rfl) dX9_areGoods_14 ⟨Nat.le_of_ble_eq_true rfl, Nat.le_of_ble_eq_true rfl⟩ (c_X9_isWithin ax p1 1 999 mm _ h) rfl rfl (gS kw_2_156 kw_2_157 kw_1_1 kw_2_158) hy_X9_isWithin.2 ⟨Nat.le_of_ble_eq_true rfl, Nat.le_of_ble_eq_true rfl⟩) (fun r_4 m_5 h => ?_)
    obtain ⟨h, hm⟩ := h
    subst hm
    refine q_if_eq (tgt := 44) X dX9_areGoods_17 (by decide) (fun c_6 => ?_) (fun c_6 => ?_)
    · have h := h.1 c_6
      refine q_iconst (v := 0) X dX9_areGoods_44 (by decide) ?_
      exact hE _ _ _ _ dX9_areGoods_45 (Or.inl rfl) ⟨h, rfl⟩
    · have h := h.2 c_6
      refine q_iload_n (j := 2) X dX9_areGoods_20 rfl rfl ?_
      refine q_iconst (v := 1) X dX9_areGoods_21 (by decide) ?_
      refine q_sipush (v := 9999) X dX9_areGoods_22 (by decide) ?_
      refine q_calli (q_runS X hK hZ zo [.int p2, .int 1, .int 9999] [] rfl rfl (Nat.le_of_ble_eq_true rfl) dX9_areGoods_25 ⟨Nat.le_of_ble_eq_true rfl, Nat.le_of_ble_eq_true rfl⟩ (c_X9_isWithin ax p2 1 9999 mm _ h) rfl rfl (gS kw_2_156 kw_2_157 kw_1_1 kw_2_158) hy_X9_isWithin.2 ⟨Nat.le_of_ble_eq_true rfl, Nat.le_of_ble_eq_true rfl⟩) (fun r_7 m_8 h => ?_)
      obtain ⟨h, hm⟩ := h
      subst hm
      refine q_if_eq (tgt := 44) X dX9_areGoods_28 (by decide) (fun c_9 => ?_) (fun c_9 => ?_)
      · have h := h.1 c_9
        refine q_iconst (v := 0) X dX9_areGoods_44 (by decide) ?_
        exact hE _ _ _ _ dX9_areGoods_45 (Or.inl rfl) ⟨h, rfl⟩
      · have h := h.2 c_9
        refine q_iload_n (j := 3) X dX9_areGoods_31 rfl rfl ?_
        refine q_iconst (v := 0) X dX9_areGoods_32 (by decide) ?_
        refine q_iconst (v := 4) X dX9_areGoods_33 (by decide) ?_
        refine q_calli (q_runS X hK hZ zo [.int p3, .int 0, .int 4] [] rfl rfl (Nat.le_of_ble_eq_true rfl) dX9_areGoods_34 ⟨Nat.le_of_ble_eq_true rfl, Nat.le_of_ble_eq_true rfl⟩ (c_X9_isWithin ax p3 0 4 mm _ h) rfl rfl (gS kw_2_156 kw_2_157 kw_1_1 kw_2_158) hy_X9_isWithin.2 ⟨Nat.le_of_ble_eq_true rfl, Nat.le_of_ble_eq_true rfl⟩) (fun r_10 m_11 h => ?_)
        obtain ⟨h, hm⟩ := h
        subst hm
        refine q_if_eq (tgt := 44) X dX9_areGoods_37 (by decide) (fun c_12 => ?_) (fun c_12 => ?_)
        · have h := h.1 c_12
          refine q_iconst (v := 0) X dX9_areGoods_44 (by decide) ?_
          exact hE _ _ _ _ dX9_areGoods_45 (Or.inl rfl) ⟨h, rfl⟩
        · have h := h.2 c_12
          refine q_iconst (v := 1) X dX9_areGoods_40 (by decide) ?_
          refine q_goto (tgt := 45) X dX9_areGoods_41 (by decide) ?_
          exact hE _ _ _ _ dX9_areGoods_45 (Or.inr rfl) ⟨h, rfl⟩
theorem dX0_isSealed_0 : decode cX0_isSealed 0 = .ok (.aload_n 0, 1) := by decide +kernel
theorem dX0_isSealed_1 : decode cX0_isSealed 1 = .ok (.getfield 9, 3) := by decide +kernel
theorem dX0_isSealed_4 : decode cX0_isSealed 4 = .ok (.iconst (-1), 1) := by decide +kernel
theorem dX0_isSealed_5 : decode cX0_isSealed 5 = .ok (.if_icmp .eq 7, 3) := by decide +kernel
theorem dX0_isSealed_8 : decode cX0_isSealed 8 = .ok (.iconst 1, 1) := by decide +kernel
theorem dX0_isSealed_9 : decode cX0_isSealed 9 = .ok (.goto 4, 3) := by decide +kernel
theorem dX0_isSealed_12 : decode cX0_isSealed 12 = .ok (.iconst 0, 1) := by decide +kernel
theorem dX0_isSealed_13 : decode cX0_isSealed 13 = .ok (.ireturn, 1) := by decide +kernel
def w_X0_isSealed (i : Nat) (mm : Mm) (Q9 : Int32 → Prop) : Prop :=
  (((mm.1 5 i 0) = (-1) → Q9 0) ∧
  (¬ (mm.1 5 i 0) = (-1) → Q9 1))
def rm_X0_isSealed : Room := { frames := 0, cells := 0, slots := 0, locals := 0 }
theorem hy_X0_isSealed : yX0_isSealed.cls = RX0 ∧ yX0_isSealed.cls ≠ "java/lang/invoke/MethodHandle" ∧ yX0_isSealed.cls ≠ "java/lang/invoke/VarHandle" ∧ (parseMethodDescriptor yX0_isSealed.desc).map (fun d => d.parameters.length) = some 0 := by decide +kernel
set_option maxRecDepth 100000 in
set_option maxHeartbeats 4000000 in
theorem c_X0_isSealed {l : Launch} {D : va_G} {cA : Nat → ClassId} {ad : Nat → Nat → Nat} {A : Nat → Prop} (ax : Ax ad GC A) (i : Nat) (hi : ok 5 i) (mm : Mm) (Q9 : Int32 → Prop) (h : w_X0_isSealed i mm Q9) : Met l yX0_isSealed (.code yX0_isSealed cX0_isSealed 1 (some .boolean) :: TG) rm_X0_isSealed (PcM TT D cA ad false GC (ZC ad A) [.ref (ad 5 i)] mm) (AnsI TT D cA ad false GC A (fun r mm' => Q9 r ∧ mm = mm')) 0 0 A := by
  have zo := ZC_ok ad A
  unfold w_X0_isSealed at h
  refine enterZ pl_X0 ⟨rfl, rfl⟩ rfl (Nat.le_of_ble_eq_true rfl) ?_
  intro p e s m args below meth c QQ X hK hZ hnm hE
  refine q_aload_n (j := 0) X dX0_isSealed_0 rfl rfl ?_
  refine q_get (k := 0) (v := .int (mm.1 5 i 0)) X hK rfl rfl (Nat.le_of_ble_eq_true rfl) inTX0 (gc (t := 5) (by decide) hi) kw_1_166 rfl rfl dX0_isSealed_1 ?_
  refine q_iconst (v := (-1)) X dX0_isSealed_4 (by decide) ?_
  refine q_icmp_eq (tgt := 12) X dX0_isSealed_5 (by decide) (fun c_1 => ?_) (fun c_1 => ?_)
  · have h := h.1 c_1
    refine q_iconst (v := 0) X dX0_isSealed_12 (by decide) ?_
    exact hE _ _ _ _ dX0_isSealed_13 (Or.inl rfl) ⟨h, rfl⟩
  · have h := h.2 c_1
    refine q_iconst (v := 1) X dX0_isSealed_8 (by decide) ?_
    refine q_goto (tgt := 13) X dX0_isSealed_9 (by decide) ?_
    exact hE _ _ _ _ dX0_isSealed_13 (Or.inr rfl) ⟨h, rfl⟩
theorem dX8_roomLeft_0 : decode cX8_roomLeft 0 = .ok (.sipush 2000, 3) := by decide +kernel
theorem dX8_roomLeft_3 : decode cX8_roomLeft 3 = .ok (.istore_n 2, 1) := by decide +kernel
theorem dX8_roomLeft_4 : decode cX8_roomLeft 4 = .ok (.iconst 0, 1) := by decide +kernel
theorem dX8_roomLeft_5 : decode cX8_roomLeft 5 = .ok (.istore_n 3, 1) := by decide +kernel
theorem dX8_roomLeft_6 : decode cX8_roomLeft 6 = .ok (.iload_n 3, 1) := by decide +kernel
theorem dX8_roomLeft_7 : decode cX8_roomLeft 7 = .ok (.aload_n 0, 1) := by decide +kernel
theorem dX8_roomLeft_8 : decode cX8_roomLeft 8 = .ok (.getfield 62, 3) := by decide +kernel
theorem dX8_roomLeft_11 : decode cX8_roomLeft 11 = .ok (.if_icmp .ge 34, 3) := by decide +kernel
theorem dX8_roomLeft_14 : decode cX8_roomLeft 14 = .ok (.aload_n 0, 1) := by decide +kernel
theorem dX8_roomLeft_15 : decode cX8_roomLeft 15 = .ok (.getfield 20, 3) := by decide +kernel
theorem dX8_roomLeft_18 : decode cX8_roomLeft 18 = .ok (.iload_n 3, 1) := by decide +kernel
theorem dX8_roomLeft_19 : decode cX8_roomLeft 19 = .ok (.aaload, 1) := by decide +kernel
theorem dX8_roomLeft_20 : decode cX8_roomLeft 20 = .ok (.getfield 150, 3) := by decide +kernel
theorem dX8_roomLeft_23 : decode cX8_roomLeft 23 = .ok (.iload_n 1, 1) := by decide +kernel
theorem dX8_roomLeft_24 : decode cX8_roomLeft 24 = .ok (.if_icmp .ne 15, 3) := by decide +kernel
theorem dX8_roomLeft_27 : decode cX8_roomLeft 27 = .ok (.iload_n 2, 1) := by decide +kernel
theorem dX8_roomLeft_28 : decode cX8_roomLeft 28 = .ok (.aload_n 0, 1) := by decide +kernel
theorem dX8_roomLeft_29 : decode cX8_roomLeft 29 = .ok (.getfield 20, 3) := by decide +kernel
theorem dX8_roomLeft_32 : decode cX8_roomLeft 32 = .ok (.iload_n 3, 1) := by decide +kernel
theorem dX8_roomLeft_33 : decode cX8_roomLeft 33 = .ok (.aaload, 1) := by decide +kernel
theorem dX8_roomLeft_34 : decode cX8_roomLeft 34 = .ok (.getfield 97, 3) := by decide +kernel
theorem dX8_roomLeft_37 : decode cX8_roomLeft 37 = .ok (.isub, 1) := by decide +kernel
theorem dX8_roomLeft_38 : decode cX8_roomLeft 38 = .ok (.istore_n 2, 1) := by decide +kernel
theorem dX8_roomLeft_39 : decode cX8_roomLeft 39 = .ok (.iinc 3 1, 3) := by decide +kernel
theorem dX8_roomLeft_42 : decode cX8_roomLeft 42 = .ok (.goto (-36), 3) := by decide +kernel
theorem dX8_roomLeft_45 : decode cX8_roomLeft 45 = .ok (.iload_n 2, 1) := by decide +kernel
theorem dX8_roomLeft_46 : decode cX8_roomLeft 46 = .ok (.ireturn, 1) := by decide +kernel
def w_X8_roomLeft_B6 (i : Nat) (p0 : Int32) (mm : Mm) (Q9 : Int32 → Prop) (K_3 : Int32 → Int32 → Prop) (y_1 : Int32) (y_2 : Int32) : Prop :=
  (((mm.1 1 i 1) ≤ y_2 → Q9 y_1) ∧
  (¬ (mm.1 1 i 1) ≤ y_2 → vp_in y_2 16 ∧ (ok 3 (mm.2 7 i y_2.toNatClampNeg) ∧ (((¬ (mm.1 3 (mm.2 7 i y_2.toNatClampNeg) 4) = p0 → ∀ x_9 : Int32, x_9 = y_2 + 1 → (K_3 y_1 x_9)) ∧
  ((mm.1 3 (mm.2 7 i y_2.toNatClampNeg) 4) = p0 → ∀ x_10 : Int32, x_10 = (y_1 - (mm.1 3 (mm.2 7 i y_2.toNatClampNeg) 2)) → (∀ x_11 : Int32, x_11 = y_2 + 1 → (K_3 x_10 x_11))))))))
def w_X8_roomLeft (i : Nat) (p0 : Int32) (mm : Mm) (Q9 : Int32 → Prop) : Prop :=
  ∃ n, itr (α := Int32 × Int32) (fun K a => w_X8_roomLeft_B6 i p0 mm Q9 (fun z0 z1 => K (z0, z1)) a.1 a.2) n (2000, 0)
def rm_X8_roomLeft : Room := { frames := 0, cells := 0, slots := 0, locals := 0 }
theorem hy_X8_roomLeft : yX8_roomLeft.cls = RX8 ∧ yX8_roomLeft.cls ≠ "java/lang/invoke/MethodHandle" ∧ yX8_roomLeft.cls ≠ "java/lang/invoke/VarHandle" ∧ (parseMethodDescriptor yX8_roomLeft.desc).map (fun d => d.parameters.length) = some 1 := by decide +kernel
set_option maxRecDepth 100000 in
set_option maxHeartbeats 4000000 in
theorem c_X8_roomLeft {l : Launch} {D : va_G} {cA : Nat → ClassId} {ad : Nat → Nat → Nat} {A : Nat → Prop} (ax : Ax ad GC A) (i : Nat) (hi : ok 1 i) (p0 : Int32) (mm : Mm) (Q9 : Int32 → Prop) (h : w_X8_roomLeft i p0 mm Q9) : Met l yX8_roomLeft (.code yX8_roomLeft cX8_roomLeft 4 (some .int) :: TG) rm_X8_roomLeft (PcM TT D cA ad false GC (ZC ad A) [.ref (ad 1 i), .int p0] mm) (AnsI TT D cA ad false GC A (fun r mm' => Q9 r ∧ mm = mm')) 0 0 A := by
  have zo := ZC_ok ad A
  unfold w_X8_roomLeft at h
  refine enterI pl_X8 ⟨rfl, rfl⟩ rfl (Nat.le_of_ble_eq_true rfl) ?_
  intro p e s m args below meth c QQ X hK hZ hnm hE
  refine q_sipush (v := 2000) X dX8_roomLeft_0 (by decide) ?_
  refine q_istore_n (lv' := [(2, .int 2000), (0, .ref (ad 1 i)), (1, .int p0)]) X dX8_roomLeft_3 rfl (by decide) rfl ?_
  refine q_iconst (v := 0) X dX8_roomLeft_4 (by decide) ?_
  refine q_istore_n (lv' := [(3, .int 0), (2, .int 2000), (0, .ref (ad 1 i)), (1, .int p0)]) X dX8_roomLeft_5 rfl (by decide) rfl ?_
  refine q_sub [2, 3, 1, 0] rfl ?_
  have L6 : ∀ (n : Nat) (y_1 : Int32) (y_2 : Int32), itr (α := Int32 × Int32) (fun K a => w_X8_roomLeft_B6 i p0 mm Q9 (fun z0 z1 => K (z0, z1)) a.1 a.2) n (y_1, y_2) → V p l e rm_X8_roomLeft s m args below meth c QQ 4 A 0 0 (Rep TT D cA ad false GC mm) 6 [(0, .ref (ad 1 i)), (1, .int p0), (2, .int y_1), (3, .int y_2)] [] := by
    intro n
    induction n with
    | zero => intro y_1 y_2 h; exact h.elim
    | succ n ih_4 =>
      intro y_1 y_2 h
      have h : w_X8_roomLeft_B6 i p0 mm Q9 (fun z0 z1 => itr (α := Int32 × Int32) (fun K a => w_X8_roomLeft_B6 i p0 mm Q9 (fun z0 z1 => K (z0, z1)) a.1 a.2) n (z0, z1)) y_1 y_2 := h
      unfold w_X8_roomLeft_B6 at h
      refine q_iload_n (j := 3) X dX8_roomLeft_6 rfl rfl ?_
      refine q_aload_n (j := 0) X dX8_roomLeft_7 rfl rfl ?_
      refine q_get (k := 1) (v := .int (mm.1 1 i 1)) X hK rfl rfl (Nat.le_of_ble_eq_true rfl) inTX8 (gc (t := 1) (by decide) hi) kw_1_230 rfl rfl dX8_roomLeft_8 ?_
      refine q_icmp_ge (tgt := 45) X dX8_roomLeft_11 (by decide) (fun c_5 => ?_) (fun c_5 => ?_)
      · have h := h.1 c_5
        refine q_iload_n (j := 2) X dX8_roomLeft_45 rfl rfl ?_
        exact hE _ _ _ _ dX8_roomLeft_46 ⟨h, rfl⟩
      · have h := h.2 c_5
        refine q_aload_n (j := 0) X dX8_roomLeft_14 rfl rfl ?_
        refine q_get (k := 6) (v := .ref (ad 7 i)) X hK rfl rfl (Nat.le_of_ble_eq_true rfl) inTX8 (gc (t := 1) (by decide) hi) kw_2_2 rfl (rv_nn (a := ad 7) (r := i) hi.1) dX8_roomLeft_15 ?_
        refine q_iload_n (j := 3) X dX8_roomLeft_18 rfl rfl ?_
        obtain ⟨b_6, h⟩ := h
        refine q_aald (t := 7) (i := i) (jn := y_2.toNatClampNeg) (v := rv (ad 3) (mm.2 7 i y_2.toNatClampNeg)) X hK rfl rfl (gc (t := 7) (by decide) hi) rfl b_6 rfl rfl dX8_roomLeft_19 ?_
        obtain ⟨k_7, h⟩ := h
        rw [rv_nn (a := ad 3) (r := (mm.2 7 i y_2.toNatClampNeg)) k_7.1]
        refine q_getN (k := 4) (v := .int (mm.1 3 (mm.2 7 i y_2.toNatClampNeg) 4)) X hK rfl rfl (Nat.le_of_ble_eq_true rfl) inTX2 (gc (t := 3) (by decide) k_7) (List.mem_of_getElem? (i := 25) rfl) rfl rfl dX8_roomLeft_20 ?_
        refine q_iload_n (j := 1) X dX8_roomLeft_23 rfl rfl ?_
        refine q_icmp_ne (tgt := 39) X dX8_roomLeft_24 (by decide) (fun c_8 => ?_) (fun c_8 => ?_)
        · have h := h.1 c_8
          obtain ⟨x_9, ex_9⟩ : ∃ z : Int32, z = y_2 + 1 := ⟨_, rfl⟩
          have h := h x_9 ex_9
          refine q_iinc (j := 3) (v := x_9) (lv' := [(3, .int x_9), (0, .ref (ad 1 i)), (1, .int p0), (2, .int y_1)]) X dX8_roomLeft_39 rfl (by rw [ex_9]; rfl) (by decide) rfl ?_
          refine q_goto (tgt := 6) X dX8_roomLeft_42 (by decide) ?_
          refine q_sub [1, 2, 3, 0] rfl ?_
          exact ih_4 y_1 x_9 h
        · have h := h.2 c_8
          refine q_iload_n (j := 2) X dX8_roomLeft_27 rfl rfl ?_
          refine q_aload_n (j := 0) X dX8_roomLeft_28 rfl rfl ?_
          refine q_get (k := 6) (v := .ref (ad 7 i)) X hK rfl rfl (Nat.le_of_ble_eq_true rfl) inTX8 (gc (t := 1) (by decide) hi) kw_2_2 rfl (rv_nn (a := ad 7) (r := i) hi.1) dX8_roomLeft_29 ?_
          refine q_iload_n (j := 3) X dX8_roomLeft_32 rfl rfl ?_
          refine q_aald (t := 7) (i := i) (jn := y_2.toNatClampNeg) (v := rv (ad 3) (mm.2 7 i y_2.toNatClampNeg)) X hK rfl rfl (gc (t := 7) (by decide) hi) rfl b_6 rfl rfl dX8_roomLeft_33 ?_
          rw [rv_nn (a := ad 3) (r := (mm.2 7 i y_2.toNatClampNeg)) k_7.1]
          refine q_getN (k := 2) (v := .int (mm.1 3 (mm.2 7 i y_2.toNatClampNeg) 2)) X hK rfl rfl (Nat.le_of_ble_eq_true rfl) inTX2 (gc (t := 3) (by decide) k_7) (List.mem_of_getElem? (i := 19) rfl) rfl rfl dX8_roomLeft_34 ?_
          refine q_isub X dX8_roomLeft_37 ?_
          refine q_topi (fun x_10 ex_10 => ?_)
          have h := h x_10 ex_10
          refine q_istore_n (lv' := [(2, .int x_10), (0, .ref (ad 1 i)), (1, .int p0), (3, .int y_2)]) X dX8_roomLeft_38 rfl (by decide) rfl ?_
          obtain ⟨x_11, ex_11⟩ : ∃ z : Int32, z = y_2 + 1 := ⟨_, rfl⟩
          have h := h x_11 ex_11
          refine q_iinc (j := 3) (v := x_11) (lv' := [(3, .int x_11), (2, .int x_10), (0, .ref (ad 1 i)), (1, .int p0)]) X dX8_roomLeft_39 rfl (by rw [ex_11]; rfl) (by decide) rfl ?_
          refine q_goto (tgt := 6) X dX8_roomLeft_42 (by decide) ?_
          refine q_sub [2, 3, 1, 0] rfl ?_
          exact ih_4 x_10 x_11 h
  obtain ⟨n_12, h⟩ := h
  exact L6 n_12 2000 0 h
theorem dX8_hasPlace_0 : decode cX8_hasPlace 0 = .ok (.aload_n 0, 1) := by decide +kernel
theorem dX8_hasPlace_1 : decode cX8_hasPlace 1 = .ok (.getfield 62, 3) := by decide +kernel
theorem dX8_hasPlace_4 : decode cX8_hasPlace 4 = .ok (.bipush 16, 2) := by decide +kernel
theorem dX8_hasPlace_6 : decode cX8_hasPlace 6 = .ok (.if_icmp .ge 16, 3) := by decide +kernel
theorem dX8_hasPlace_9 : decode cX8_hasPlace 9 = .ok (.aload_n 0, 1) := by decide +kernel
theorem dX8_hasPlace_10 : decode cX8_hasPlace 10 = .ok (.getfield 65, 3) := by decide +kernel
theorem dX8_hasPlace_13 : decode cX8_hasPlace 13 = .ok (.bipush 60, 2) := by decide +kernel
theorem dX8_hasPlace_15 : decode cX8_hasPlace 15 = .ok (.if_icmp .ge 7, 3) := by decide +kernel
theorem dX8_hasPlace_18 : decode cX8_hasPlace 18 = .ok (.iconst 1, 1) := by decide +kernel
theorem dX8_hasPlace_19 : decode cX8_hasPlace 19 = .ok (.goto 4, 3) := by decide +kernel
theorem dX8_hasPlace_22 : decode cX8_hasPlace 22 = .ok (.iconst 0, 1) := by decide +kernel
theorem dX8_hasPlace_23 : decode cX8_hasPlace 23 = .ok (.ireturn, 1) := by decide +kernel
def w_X8_hasPlace (i : Nat) (mm : Mm) (Q9 : Int32 → Prop) : Prop :=
  ((16 ≤ (mm.1 1 i 1) → Q9 0) ∧
  (¬ 16 ≤ (mm.1 1 i 1) → ((60 ≤ (mm.1 1 i 2) → Q9 0) ∧
  (¬ 60 ≤ (mm.1 1 i 2) → Q9 1))))
def rm_X8_hasPlace : Room := { frames := 0, cells := 0, slots := 0, locals := 0 }
theorem hy_X8_hasPlace : yX8_hasPlace.cls = RX8 ∧ yX8_hasPlace.cls ≠ "java/lang/invoke/MethodHandle" ∧ yX8_hasPlace.cls ≠ "java/lang/invoke/VarHandle" ∧ (parseMethodDescriptor yX8_hasPlace.desc).map (fun d => d.parameters.length) = some 0 := by decide +kernel
set_option maxRecDepth 100000 in
set_option maxHeartbeats 4000000 in
theorem c_X8_hasPlace {l : Launch} {D : va_G} {cA : Nat → ClassId} {ad : Nat → Nat → Nat} {A : Nat → Prop} (ax : Ax ad GC A) (i : Nat) (hi : ok 1 i) (mm : Mm) (Q9 : Int32 → Prop) (h : w_X8_hasPlace i mm Q9) : Met l yX8_hasPlace (.code yX8_hasPlace cX8_hasPlace 1 (some .boolean) :: TG) rm_X8_hasPlace (PcM TT D cA ad false GC (ZC ad A) [.ref (ad 1 i)] mm) (AnsI TT D cA ad false GC A (fun r mm' => Q9 r ∧ mm = mm')) 0 0 A := by
  have zo := ZC_ok ad A
  unfold w_X8_hasPlace at h
  refine enterZ pl_X8 ⟨rfl, rfl⟩ rfl (Nat.le_of_ble_eq_true rfl) ?_
  intro p e s m args below meth c QQ X hK hZ hnm hE
  refine q_aload_n (j := 0) X dX8_hasPlace_0 rfl rfl ?_
  refine q_get (k := 1) (v := .int (mm.1 1 i 1)) X hK rfl rfl (Nat.le_of_ble_eq_true rfl) inTX8 (gc (t := 1) (by decide) hi) kw_1_230 rfl rfl dX8_hasPlace_1 ?_
  refine q_bipush (v := 16) X dX8_hasPlace_4 (by decide) ?_
  refine q_icmp_ge (tgt := 22) X dX8_hasPlace_6 (by decide) (fun c_1 => ?_) (fun c_1 => ?_)
  · have h := h.1 c_1
    refine q_iconst (v := 0) X dX8_hasPlace_22 (by decide) ?_
    exact hE _ _ _ _ dX8_hasPlace_23 (Or.inl rfl) ⟨h, rfl⟩
  · have h := h.2 c_1
    refine q_aload_n (j := 0) X dX8_hasPlace_9 rfl rfl ?_
    refine q_get (k := 2) (v := .int (mm.1 1 i 2)) X hK rfl rfl (Nat.le_of_ble_eq_true rfl) inTX8 (gc (t := 1) (by decide) hi) kw_1_233 rfl rfl dX8_hasPlace_10 ?_
    refine q_bipush (v := 60) X dX8_hasPlace_13 (by decide) ?_
    refine q_icmp_ge (tgt := 22) X dX8_hasPlace_15 (by decide) (fun c_2 => ?_) (fun c_2 => ?_)
    · have h := h.1 c_2
      refine q_iconst (v := 0) X dX8_hasPlace_22 (by decide) ?_
      exact hE _ _ _ _ dX8_hasPlace_23 (Or.inl rfl) ⟨h, rfl⟩
    · have h := h.2 c_2
      refine q_iconst (v := 1) X dX8_hasPlace_18 (by decide) ?_
      refine q_goto (tgt := 23) X dX8_hasPlace_19 (by decide) ?_
      exact hE _ _ _ _ dX8_hasPlace_23 (Or.inr rfl) ⟨h, rfl⟩
theorem dX8_ageNow_0 : decode cX8_ageNow 0 = .ok (.aload_n 0, 1) := by decide +kernel
theorem dX8_ageNow_1 : decode cX8_ageNow 1 = .ok (.getfield 58, 3) := by decide +kernel
theorem dX8_ageNow_4 : decode cX8_ageNow 4 = .ok (.aload_n 1, 1) := by decide +kernel
theorem dX8_ageNow_5 : decode cX8_ageNow 5 = .ok (.getfield 106, 3) := by decide +kernel
theorem dX8_ageNow_8 : decode cX8_ageNow 8 = .ok (.isub, 1) := by decide +kernel
theorem dX8_ageNow_9 : decode cX8_ageNow 9 = .ok (.ireturn, 1) := by decide +kernel
def w_X8_ageNow (i : Nat) (p0 : Nat) (mm : Mm) (Q9 : Int32 → Prop) : Prop :=
  Q9 ((mm.1 1 i 0) - (mm.1 3 p0 5))
def rm_X8_ageNow : Room := { frames := 0, cells := 0, slots := 0, locals := 0 }
theorem hy_X8_ageNow : yX8_ageNow.cls = RX8 ∧ yX8_ageNow.cls ≠ "java/lang/invoke/MethodHandle" ∧ yX8_ageNow.cls ≠ "java/lang/invoke/VarHandle" ∧ (parseMethodDescriptor yX8_ageNow.desc).map (fun d => d.parameters.length) = some 1 := by decide +kernel
set_option maxRecDepth 100000 in
set_option maxHeartbeats 4000000 in
theorem c_X8_ageNow {l : Launch} {D : va_G} {cA : Nat → ClassId} {ad : Nat → Nat → Nat} {A : Nat → Prop} (ax : Ax ad GC A) (i : Nat) (hi : ok 1 i) (p0 : Nat) (hp0 : ok 3 p0) (mm : Mm) (Q9 : Int32 → Prop) (h : w_X8_ageNow i p0 mm Q9) : Met l yX8_ageNow (.code yX8_ageNow cX8_ageNow 2 (some .int) :: TG) rm_X8_ageNow (PcM TT D cA ad false GC (ZC ad A) [.ref (ad 1 i), .ref (ad 3 p0)] mm) (AnsI TT D cA ad false GC A (fun r mm' => Q9 r ∧ mm = mm')) 0 0 A := by
  have zo := ZC_ok ad A
  unfold w_X8_ageNow at h
  refine enterI pl_X8 ⟨rfl, rfl⟩ rfl (Nat.le_of_ble_eq_true rfl) ?_
  intro p e s m args below meth c QQ X hK hZ hnm hE
  refine q_aload_n (j := 0) X dX8_ageNow_0 rfl rfl ?_
  refine q_get (k := 0) (v := .int (mm.1 1 i 0)) X hK rfl rfl (Nat.le_of_ble_eq_true rfl) inTX8 (gc (t := 1) (by decide) hi) kw_1_227 rfl rfl dX8_ageNow_1 ?_
  refine q_aload_n (j := 1) X dX8_ageNow_4 rfl rfl ?_
  refine q_getN (k := 5) (v := .int (mm.1 3 p0 5)) X hK rfl rfl (Nat.le_of_ble_eq_true rfl) inTX2 (gc (t := 3) (by decide) hp0) (List.mem_of_getElem? (i := 28) rfl) rfl rfl dX8_ageNow_5 ?_
  refine q_isub X dX8_ageNow_8 ?_
  exact hE _ _ _ _ dX8_ageNow_9 ⟨h, rfl⟩
theorem dX5_dutyOn_0 : decode cX5_dutyOn 0 = .ok (.iload_n 1, 1) := by decide +kernel
theorem dX5_dutyOn_1 : decode cX5_dutyOn 1 = .ok (.aload_n 0, 1) := by decide +kernel
theorem dX5_dutyOn_2 : decode cX5_dutyOn 2 = .ok (.getfield 9, 3) := by decide +kernel
theorem dX5_dutyOn_5 : decode cX5_dutyOn 5 = .ok (.imul, 1) := by decide +kernel
theorem dX5_dutyOn_6 : decode cX5_dutyOn 6 = .ok (.bipush 99, 2) := by decide +kernel
theorem dX5_dutyOn_8 : decode cX5_dutyOn 8 = .ok (.iadd, 1) := by decide +kernel
theorem dX5_dutyOn_9 : decode cX5_dutyOn 9 = .ok (.bipush 100, 2) := by decide +kernel
theorem dX5_dutyOn_11 : decode cX5_dutyOn 11 = .ok (.idiv, 1) := by decide +kernel
theorem dX5_dutyOn_12 : decode cX5_dutyOn 12 = .ok (.iload_n 2, 1) := by decide +kernel
theorem dX5_dutyOn_13 : decode cX5_dutyOn 13 = .ok (.aload_n 0, 1) := by decide +kernel
theorem dX5_dutyOn_14 : decode cX5_dutyOn 14 = .ok (.getfield 15, 3) := by decide +kernel
theorem dX5_dutyOn_17 : decode cX5_dutyOn 17 = .ok (.imul, 1) := by decide +kernel
theorem dX5_dutyOn_18 : decode cX5_dutyOn 18 = .ok (.bipush 99, 2) := by decide +kernel
theorem dX5_dutyOn_20 : decode cX5_dutyOn 20 = .ok (.iadd, 1) := by decide +kernel
theorem dX5_dutyOn_21 : decode cX5_dutyOn 21 = .ok (.bipush 100, 2) := by decide +kernel
theorem dX5_dutyOn_23 : decode cX5_dutyOn 23 = .ok (.idiv, 1) := by decide +kernel
theorem dX5_dutyOn_24 : decode cX5_dutyOn 24 = .ok (.iadd, 1) := by decide +kernel
theorem dX5_dutyOn_25 : decode cX5_dutyOn 25 = .ok (.istore 4, 2) := by decide +kernel
theorem dX5_dutyOn_27 : decode cX5_dutyOn 27 = .ok (.iload_n 3, 1) := by decide +kernel
theorem dX5_dutyOn_28 : decode cX5_dutyOn 28 = .ok (.sipush 200, 3) := by decide +kernel
theorem dX5_dutyOn_31 : decode cX5_dutyOn 31 = .ok (.if_icmp .le 17, 3) := by decide +kernel
theorem dX5_dutyOn_34 : decode cX5_dutyOn 34 = .ok (.iload 4, 2) := by decide +kernel
theorem dX5_dutyOn_36 : decode cX5_dutyOn 36 = .ok (.iload 4, 2) := by decide +kernel
theorem dX5_dutyOn_38 : decode cX5_dutyOn 38 = .ok (.bipush 9, 2) := by decide +kernel
theorem dX5_dutyOn_40 : decode cX5_dutyOn 40 = .ok (.iadd, 1) := by decide +kernel
theorem dX5_dutyOn_41 : decode cX5_dutyOn 41 = .ok (.bipush 10, 2) := by decide +kernel
theorem dX5_dutyOn_43 : decode cX5_dutyOn 43 = .ok (.idiv, 1) := by decide +kernel
theorem dX5_dutyOn_44 : decode cX5_dutyOn 44 = .ok (.iadd, 1) := by decide +kernel
theorem dX5_dutyOn_45 : decode cX5_dutyOn 45 = .ok (.goto 5, 3) := by decide +kernel
theorem dX5_dutyOn_48 : decode cX5_dutyOn 48 = .ok (.iload 4, 2) := by decide +kernel
theorem dX5_dutyOn_50 : decode cX5_dutyOn 50 = .ok (.ireturn, 1) := by decide +kernel
def w_X5_dutyOn (i : Nat) (p0 : Int32) (p1 : Int32) (p2 : Int32) (mm : Mm) (Q9 : Int32 → Prop) : Prop :=
  ∀ x_1 : Int32, x_1 = ((((p0 * (mm.1 6 i 0)) + 99) / 100) + (((p1 * (mm.1 6 i 1)) + 99) / 100)) → (((p2 ≤ 200 → Q9 x_1) ∧
  (¬ p2 ≤ 200 → Q9 (x_1 + ((x_1 + 9) / 10)))))
def rm_X5_dutyOn : Room := { frames := 0, cells := 0, slots := 0, locals := 0 }
theorem hy_X5_dutyOn : yX5_dutyOn.cls = RX5 ∧ yX5_dutyOn.cls ≠ "java/lang/invoke/MethodHandle" ∧ yX5_dutyOn.cls ≠ "java/lang/invoke/VarHandle" ∧ (parseMethodDescriptor yX5_dutyOn.desc).map (fun d => d.parameters.length) = some 3 := by decide +kernel
set_option maxRecDepth 100000 in
set_option maxHeartbeats 4000000 in
theorem c_X5_dutyOn {l : Launch} {D : va_G} {cA : Nat → ClassId} {ad : Nat → Nat → Nat} {A : Nat → Prop} (ax : Ax ad GC A) (i : Nat) (hi : ok 6 i) (p0 : Int32) (p1 : Int32) (p2 : Int32) (mm : Mm) (Q9 : Int32 → Prop) (h : w_X5_dutyOn i p0 p1 p2 mm Q9) : Met l yX5_dutyOn (.code yX5_dutyOn cX5_dutyOn 5 (some .int) :: TG) rm_X5_dutyOn (PcM TT D cA ad false GC (ZC ad A) [.ref (ad 6 i), .int p0, .int p1, .int p2] mm) (AnsI TT D cA ad false GC A (fun r mm' => Q9 r ∧ mm = mm')) 0 0 A := by
  have zo := ZC_ok ad A
  unfold w_X5_dutyOn at h
  refine enterI pl_X5 ⟨rfl, rfl⟩ rfl (Nat.le_of_ble_eq_true rfl) ?_
  intro p e s m args below meth c QQ X hK hZ hnm hE
  refine q_iload_n (j := 1) X dX5_dutyOn_0 rfl rfl ?_
  refine q_aload_n (j := 0) X dX5_dutyOn_1 rfl rfl ?_
  refine q_get (k := 0) (v := .int (mm.1 6 i 0)) X hK rfl rfl (Nat.le_of_ble_eq_true rfl) inTX5 (gc (t := 6) (by decide) hi) kw_1_186 rfl rfl dX5_dutyOn_2 ?_
  refine q_imul X dX5_dutyOn_5 ?_
  refine q_bipush (v := 99) X dX5_dutyOn_6 (by decide) ?_
  refine q_iadd X dX5_dutyOn_8 ?_
  refine q_bipush (v := 100) X dX5_dutyOn_9 (by decide) ?_
  refine q_idiv X dX5_dutyOn_11 (by decide) ?_
  refine q_iload_n (j := 2) X dX5_dutyOn_12 rfl rfl ?_
  refine q_aload_n (j := 0) X dX5_dutyOn_13 rfl rfl ?_
  refine q_get (k := 1) (v := .int (mm.1 6 i 1)) X hK rfl rfl (Nat.le_of_ble_eq_true rfl) inTX5 (gc (t := 6) (by decide) hi) kw_1_189 rfl rfl dX5_dutyOn_14 ?_
  refine q_imul X dX5_dutyOn_17 ?_
  refine q_bipush (v := 99) X dX5_dutyOn_18 (by decide) ?_
  refine q_iadd X dX5_dutyOn_20 ?_
  refine q_bipush (v := 100) X dX5_dutyOn_21 (by decide) ?_
  refine q_idiv X dX5_dutyOn_23 (by decide) ?_
  refine q_iadd X dX5_dutyOn_24 ?_
  refine q_topi (fun x_1 ex_1 => ?_)
  have h := h x_1 ex_1
  refine q_istore (lv' := [(4, .int x_1), (0, .ref (ad 6 i)), (1, .int p0), (2, .int p1), (3, .int p2)]) X dX5_dutyOn_25 (by decide) rfl ?_
  refine q_iload_n (j := 4) X dX5_dutyOn_27 rfl rfl ?_
  refine q_sipush (v := 200) X dX5_dutyOn_28 (by decide) ?_
  refine q_icmp_le (tgt := 48) X dX5_dutyOn_31 (by decide) (fun c_2 => ?_) (fun c_2 => ?_)
  · have h := h.1 c_2
    refine q_iload (j := 0) X dX5_dutyOn_48 rfl ?_
    exact hE _ _ _ _ dX5_dutyOn_50 ⟨h, rfl⟩
  · have h := h.2 c_2
    refine q_iload (j := 0) X dX5_dutyOn_34 rfl ?_
    refine q_iload (j := 0) X dX5_dutyOn_36 rfl ?_
    refine q_bipush (v := 9) X dX5_dutyOn_38 (by decide) ?_
    refine q_iadd X dX5_dutyOn_40 ?_
    refine q_bipush (v := 10) X dX5_dutyOn_41 (by decide) ?_
    refine q_idiv X dX5_dutyOn_43 (by decide) ?_
    refine q_iadd X dX5_dutyOn_44 ?_
    refine q_goto (tgt := 50) X dX5_dutyOn_45 (by decide) ?_
    exact hE _ _ _ _ dX5_dutyOn_50 ⟨h, rfl⟩
theorem dX8_wholeDuty_0 : decode cX8_wholeDuty 0 = .ok (.aload_n 0, 1) := by decide +kernel
theorem dX8_wholeDuty_1 : decode cX8_wholeDuty 1 = .ok (.getfield 38, 3) := by decide +kernel
theorem dX8_wholeDuty_4 : decode cX8_wholeDuty 4 = .ok (.aload_n 1, 1) := by decide +kernel
theorem dX8_wholeDuty_5 : decode cX8_wholeDuty 5 = .ok (.getfield 113, 3) := by decide +kernel
theorem dX8_wholeDuty_8 : decode cX8_wholeDuty 8 = .ok (.aaload, 1) := by decide +kernel
theorem dX8_wholeDuty_9 : decode cX8_wholeDuty 9 = .ok (.aload_n 1, 1) := by decide +kernel
theorem dX8_wholeDuty_10 : decode cX8_wholeDuty 10 = .ok (.getfield 124, 3) := by decide +kernel
theorem dX8_wholeDuty_13 : decode cX8_wholeDuty 13 = .ok (.aload_n 1, 1) := by decide +kernel
theorem dX8_wholeDuty_14 : decode cX8_wholeDuty 14 = .ok (.getfield 97, 3) := by decide +kernel
theorem dX8_wholeDuty_17 : decode cX8_wholeDuty 17 = .ok (.iload_n 2, 1) := by decide +kernel
theorem dX8_wholeDuty_18 : decode cX8_wholeDuty 18 = .ok (.invokevirtual 120, 3) := by decide +kernel
theorem dX8_wholeDuty_21 : decode cX8_wholeDuty 21 = .ok (.ireturn, 1) := by decide +kernel
def w_X8_wholeDuty (i : Nat) (p0 : Nat) (p1 : Int32) (mm : Mm) (Q9 : Int32 → Prop) : Prop :=
  vp_in (mm.1 3 p0 1) 6 ∧ (w_X5_dutyOn (6 * (i - 1) + (mm.1 3 p0 1).toNatClampNeg + 1) (mm.1 3 p0 3) (mm.1 3 p0 2) p1 mm (fun (r_2 : Int32) => Q9 r_2))
def rm_X8_wholeDuty : Room := { frames := 1, cells := 0, slots := 0, locals := 24 }
theorem hy_X8_wholeDuty : yX8_wholeDuty.cls = RX8 ∧ yX8_wholeDuty.cls ≠ "java/lang/invoke/MethodHandle" ∧ yX8_wholeDuty.cls ≠ "java/lang/invoke/VarHandle" ∧ (parseMethodDescriptor yX8_wholeDuty.desc).map (fun d => d.parameters.length) = some 2 := by decide +kernel
set_option maxRecDepth 100000 in
set_option maxHeartbeats 4000000 in
theorem c_X8_wholeDuty {l : Launch} {D : va_G} {cA : Nat → ClassId} {ad : Nat → Nat → Nat} {A : Nat → Prop} (ax : Ax ad GC A) (i : Nat) (hi : ok 1 i) (p0 : Nat) (hp0 : ok 3 p0) (p1 : Int32) (mm : Mm) (Q9 : Int32 → Prop) (h : w_X8_wholeDuty i p0 p1 mm Q9) : Met l yX8_wholeDuty (.code yX8_wholeDuty cX8_wholeDuty 3 (some .int) :: TG) rm_X8_wholeDuty (PcM TT D cA ad false GC (ZC ad A) [.ref (ad 1 i), .ref (ad 3 p0), .int p1] mm) (AnsI TT D cA ad false GC A (fun r mm' => Q9 r ∧ mm = mm')) 0 0 A := by
  have zo := ZC_ok ad A
  unfold w_X8_wholeDuty at h
  refine enterI pl_X8 ⟨rfl, rfl⟩ rfl (Nat.le_of_ble_eq_true rfl) ?_
  intro p e s m args below meth c QQ X hK hZ hnm hE
  refine q_aload_n (j := 0) X dX8_wholeDuty_0 rfl rfl ?_
  refine q_get (k := 9) (v := .ref (ad 10 i)) X hK rfl rfl (Nat.le_of_ble_eq_true rfl) inTX8 (gc (t := 1) (by decide) hi) kw_2_9 rfl (rv_nn (a := ad 10) (r := i) hi.1) dX8_wholeDuty_1 ?_
  refine q_aload_n (j := 1) X dX8_wholeDuty_4 rfl rfl ?_
  refine q_getN (k := 1) (v := .int (mm.1 3 p0 1)) X hK rfl rfl (Nat.le_of_ble_eq_true rfl) inTX2 (gc (t := 3) (by decide) hp0) (List.mem_of_getElem? (i := 16) rfl) rfl rfl dX8_wholeDuty_5 ?_
  obtain ⟨b_1, h⟩ := h
  refine q_aald (t := 10) (i := i) (jn := (mm.1 3 p0 1).toNatClampNeg) (v := .ref (ad 6 (6 * (i - 1) + (mm.1 3 p0 1).toNatClampNeg + 1))) X hK rfl rfl (gc (t := 10) (by decide) hi) rfl b_1 rfl (rv_nn (a := ad 6) (r := (6 * (i - 1) + (mm.1 3 p0 1).toNatClampNeg + 1)) (ok_ki hi b_1).1) dX8_wholeDuty_8 ?_
  refine q_aload_n (j := 1) X dX8_wholeDuty_9 rfl rfl ?_
  refine q_getN (k := 3) (v := .int (mm.1 3 p0 3)) X hK rfl rfl (Nat.le_of_ble_eq_true rfl) inTX2 (gc (t := 3) (by decide) hp0) (List.mem_of_getElem? (i := 22) rfl) rfl rfl dX8_wholeDuty_10 ?_
  refine q_aload_n (j := 1) X dX8_wholeDuty_13 rfl rfl ?_
  refine q_getN (k := 2) (v := .int (mm.1 3 p0 2)) X hK rfl rfl (Nat.le_of_ble_eq_true rfl) inTX2 (gc (t := 3) (by decide) hp0) (List.mem_of_getElem? (i := 19) rfl) rfl rfl dX8_wholeDuty_14 ?_
  refine q_iload_n (j := 2) X dX8_wholeDuty_17 rfl rfl ?_
  refine q_calli (q_runVN X hK hZ zo (gc (t := 6) (by decide) (ok_ki hi b_1)) rfl rfl [.int (mm.1 3 p0 3), .int (mm.1 3 p0 2), .int p1] [] rfl rfl (Nat.le_of_ble_eq_true rfl) dX8_wholeDuty_18 ⟨Nat.le_of_ble_eq_true rfl, Nat.le_of_ble_eq_true rfl⟩ (c_X5_dutyOn ax (6 * (i - 1) + (mm.1 3 p0 1).toNatClampNeg + 1) (ok_ki hi b_1) (mm.1 3 p0 3) (mm.1 3 p0 2) p1 mm _ h) rfl rfl (List.mem_of_getElem? (i := 14) rfl) kw_1_7 kw_2_190 kw_2_189 ks_8 hy_X5_dutyOn.2 ⟨Nat.le_of_ble_eq_true rfl, Nat.le_of_ble_eq_true rfl⟩) (fun r_2 m_3 h => ?_)
  obtain ⟨h, hm⟩ := h
  subst hm
  exact hE _ _ _ _ dX8_wholeDuty_21 ⟨h, rfl⟩
theorem dX8_stake_0 : decode cX8_stake 0 = .ok (.iconst 0, 1) := by decide +kernel
theorem dX8_stake_1 : decode cX8_stake 1 = .ok (.istore_n 1, 1) := by decide +kernel
theorem dX8_stake_2 : decode cX8_stake 2 = .ok (.iconst 0, 1) := by decide +kernel
theorem dX8_stake_3 : decode cX8_stake 3 = .ok (.istore_n 2, 1) := by decide +kernel
theorem dX8_stake_4 : decode cX8_stake 4 = .ok (.iload_n 2, 1) := by decide +kernel
theorem dX8_stake_5 : decode cX8_stake 5 = .ok (.aload_n 0, 1) := by decide +kernel
theorem dX8_stake_6 : decode cX8_stake 6 = .ok (.getfield 62, 3) := by decide +kernel
theorem dX8_stake_9 : decode cX8_stake 9 = .ok (.if_icmp .ge 32, 3) := by decide +kernel
theorem dX8_stake_12 : decode cX8_stake 12 = .ok (.iload_n 1, 1) := by decide +kernel
theorem dX8_stake_13 : decode cX8_stake 13 = .ok (.aload_n 0, 1) := by decide +kernel
theorem dX8_stake_14 : decode cX8_stake 14 = .ok (.aload_n 0, 1) := by decide +kernel
theorem dX8_stake_15 : decode cX8_stake 15 = .ok (.getfield 20, 3) := by decide +kernel
theorem dX8_stake_18 : decode cX8_stake 18 = .ok (.iload_n 2, 1) := by decide +kernel
theorem dX8_stake_19 : decode cX8_stake 19 = .ok (.aaload, 1) := by decide +kernel
theorem dX8_stake_20 : decode cX8_stake 20 = .ok (.aload_n 0, 1) := by decide +kernel
theorem dX8_stake_21 : decode cX8_stake 21 = .ok (.aload_n 0, 1) := by decide +kernel
theorem dX8_stake_22 : decode cX8_stake 22 = .ok (.getfield 20, 3) := by decide +kernel
theorem dX8_stake_25 : decode cX8_stake 25 = .ok (.iload_n 2, 1) := by decide +kernel
theorem dX8_stake_26 : decode cX8_stake 26 = .ok (.aaload, 1) := by decide +kernel
theorem dX8_stake_27 : decode cX8_stake 27 = .ok (.invokevirtual 109, 3) := by decide +kernel
theorem dX8_stake_30 : decode cX8_stake 30 = .ok (.invokevirtual 127, 3) := by decide +kernel
theorem dX8_stake_33 : decode cX8_stake 33 = .ok (.iadd, 1) := by decide +kernel
theorem dX8_stake_34 : decode cX8_stake 34 = .ok (.istore_n 1, 1) := by decide +kernel
theorem dX8_stake_35 : decode cX8_stake 35 = .ok (.iinc 2 1, 3) := by decide +kernel
theorem dX8_stake_38 : decode cX8_stake 38 = .ok (.goto (-34), 3) := by decide +kernel
theorem dX8_stake_41 : decode cX8_stake 41 = .ok (.iload_n 1, 1) := by decide +kernel
theorem dX8_stake_42 : decode cX8_stake 42 = .ok (.ireturn, 1) := by decide +kernel
def w_X8_stake_B4 (i : Nat) (mm : Mm) (Q9 : Int32 → Prop) (K_3 : Int32 → Int32 → Prop) (y_1 : Int32) (y_2 : Int32) : Prop :=
  (((mm.1 1 i 1) ≤ y_2 → Q9 y_1) ∧
  (¬ (mm.1 1 i 1) ≤ y_2 → vp_in y_2 16 ∧ (ok 3 (mm.2 7 i y_2.toNatClampNeg) ∧ w_X8_ageNow i (mm.2 7 i y_2.toNatClampNeg) mm (fun (r_8 : Int32) => w_X8_wholeDuty i (mm.2 7 i y_2.toNatClampNeg) r_8 mm (fun (r_10 : Int32) => ∀ x_12 : Int32, x_12 = (y_1 + r_10) → (∀ x_13 : Int32, x_13 = y_2 + 1 → (K_3 x_12 x_13)))))))
def w_X8_stake (i : Nat) (mm : Mm) (Q9 : Int32 → Prop) : Prop :=
  ∃ n, itr (α := Int32 × Int32) (fun K a => w_X8_stake_B4 i mm Q9 (fun z0 z1 => K (z0, z1)) a.1 a.2) n (0, 0)
def rm_X8_stake : Room := { frames := 2, cells := 0, slots := 0, locals := 46 }
theorem hy_X8_stake : yX8_stake.cls = RX8 ∧ yX8_stake.cls ≠ "java/lang/invoke/MethodHandle" ∧ yX8_stake.cls ≠ "java/lang/invoke/VarHandle" ∧ (parseMethodDescriptor yX8_stake.desc).map (fun d => d.parameters.length) = some 0 := by decide +kernel
set_option maxRecDepth 100000 in
set_option maxHeartbeats 4000000 in
theorem c_X8_stake {l : Launch} {D : va_G} {cA : Nat → ClassId} {ad : Nat → Nat → Nat} {A : Nat → Prop} (ax : Ax ad GC A) (i : Nat) (hi : ok 1 i) (mm : Mm) (Q9 : Int32 → Prop) (h : w_X8_stake i mm Q9) : Met l yX8_stake (.code yX8_stake cX8_stake 3 (some .int) :: TG) rm_X8_stake (PcM TT D cA ad false GC (ZC ad A) [.ref (ad 1 i)] mm) (AnsI TT D cA ad false GC A (fun r mm' => Q9 r ∧ mm = mm')) 0 0 A := by
  have zo := ZC_ok ad A
  unfold w_X8_stake at h
  refine enterI pl_X8 ⟨rfl, rfl⟩ rfl (Nat.le_of_ble_eq_true rfl) ?_
  intro p e s m args below meth c QQ X hK hZ hnm hE
  refine q_iconst (v := 0) X dX8_stake_0 (by decide) ?_
  refine q_istore_n (lv' := [(1, .int 0), (0, .ref (ad 1 i))]) X dX8_stake_1 rfl (by decide) rfl ?_
  refine q_iconst (v := 0) X dX8_stake_2 (by decide) ?_
  refine q_istore_n (lv' := [(2, .int 0), (1, .int 0), (0, .ref (ad 1 i))]) X dX8_stake_3 rfl (by decide) rfl ?_
  refine q_sub [2, 1, 0] rfl ?_
  have L4 : ∀ (n : Nat) (y_1 : Int32) (y_2 : Int32), itr (α := Int32 × Int32) (fun K a => w_X8_stake_B4 i mm Q9 (fun z0 z1 => K (z0, z1)) a.1 a.2) n (y_1, y_2) → V p l e rm_X8_stake s m args below meth c QQ 3 A 0 0 (Rep TT D cA ad false GC mm) 4 [(0, .ref (ad 1 i)), (1, .int y_1), (2, .int y_2)] [] := by
    intro n
    induction n with
    | zero => intro y_1 y_2 h; exact h.elim
    | succ n ih_4 =>
      intro y_1 y_2 h
      have h : w_X8_stake_B4 i mm Q9 (fun z0 z1 => itr (α := Int32 × Int32) (fun K a => w_X8_stake_B4 i mm Q9 (fun z0 z1 => K (z0, z1)) a.1 a.2) n (z0, z1)) y_1 y_2 := h
      unfold w_X8_stake_B4 at h
      refine q_iload_n (j := 2) X dX8_stake_4 rfl rfl ?_
      refine q_aload_n (j := 0) X dX8_stake_5 rfl rfl ?_
      refine q_get (k := 1) (v := .int (mm.1 1 i 1)) X hK rfl rfl (Nat.le_of_ble_eq_true rfl) inTX8 (gc (t := 1) (by decide) hi) kw_1_230 rfl rfl dX8_stake_6 ?_
      refine q_icmp_ge (tgt := 41) X dX8_stake_9 (by decide) (fun c_5 => ?_) (fun c_5 => ?_)
      · have h := h.1 c_5
        refine q_iload_n (j := 1) X dX8_stake_41 rfl rfl ?_
        exact hE _ _ _ _ dX8_stake_42 ⟨h, rfl⟩
      · have h := h.2 c_5
        refine q_iload_n (j := 1) X dX8_stake_12 rfl rfl ?_
        refine q_aload_n (j := 0) X dX8_stake_13 rfl rfl ?_
        refine q_aload_n (j := 0) X dX8_stake_14 rfl rfl ?_
        refine q_get (k := 6) (v := .ref (ad 7 i)) X hK rfl rfl (Nat.le_of_ble_eq_true rfl) inTX8 (gc (t := 1) (by decide) hi) kw_2_2 rfl (rv_nn (a := ad 7) (r := i) hi.1) dX8_stake_15 ?_
        refine q_iload_n (j := 2) X dX8_stake_18 rfl rfl ?_
        obtain ⟨b_6, h⟩ := h
        refine q_aald (t := 7) (i := i) (jn := y_2.toNatClampNeg) (v := rv (ad 3) (mm.2 7 i y_2.toNatClampNeg)) X hK rfl rfl (gc (t := 7) (by decide) hi) rfl b_6 rfl rfl dX8_stake_19 ?_
        refine q_aload_n (j := 0) X dX8_stake_20 rfl rfl ?_
        refine q_aload_n (j := 0) X dX8_stake_21 rfl rfl ?_
        refine q_get (k := 6) (v := .ref (ad 7 i)) X hK rfl rfl (Nat.le_of_ble_eq_true rfl) inTX8 (gc (t := 1) (by decide) hi) kw_2_2 rfl (rv_nn (a := ad 7) (r := i) hi.1) dX8_stake_22 ?_
        refine q_iload_n (j := 2) X dX8_stake_25 rfl rfl ?_
        refine q_aald (t := 7) (i := i) (jn := y_2.toNatClampNeg) (v := rv (ad 3) (mm.2 7 i y_2.toNatClampNeg)) X hK rfl rfl (gc (t := 7) (by decide) hi) rfl b_6 rfl rfl dX8_stake_26 ?_
        obtain ⟨k_7, h⟩ := h
        rw [rv_nn (a := ad 3) (r := (mm.2 7 i y_2.toNatClampNeg)) k_7.1]
        refine q_calli (q_runV X hK hZ zo (gc (t := 1) (by decide) hi) rfl rfl [.ref (ad 3 (mm.2 7 i y_2.toNatClampNeg))] [.ref (ad 3 (mm.2 7 i y_2.toNatClampNeg)), .ref (ad 1 i), .int y_1] rfl rfl (Nat.le_of_ble_eq_true rfl) dX8_stake_27 ⟨Nat.le_of_ble_eq_true rfl, Nat.le_of_ble_eq_true rfl⟩ (c_X8_ageNow ax i hi (mm.2 7 i y_2.toNatClampNeg) k_7 mm _ h) rfl rfl (gV kw_2_179 kw_2_181 ks_6 kw_1_2 kw_2_182) hy_X8_ageNow ⟨Nat.le_of_ble_eq_true rfl, Nat.le_of_ble_eq_true rfl⟩) (fun r_8 m_9 h => ?_)
        obtain ⟨h, hm⟩ := h
        subst hm
        refine q_calli (q_runV X hK hZ zo (gc (t := 1) (by decide) hi) rfl rfl [.ref (ad 3 (mm.2 7 i y_2.toNatClampNeg)), .int r_8] [.int y_1] rfl rfl (Nat.le_of_ble_eq_true rfl) dX8_stake_30 ⟨Nat.le_of_ble_eq_true rfl, Nat.le_of_ble_eq_true rfl⟩ (c_X8_wholeDuty ax i hi (mm.2 7 i y_2.toNatClampNeg) k_7 r_8 mm _ h) rfl rfl (gV kw_2_183 kw_2_185 ks_7 kw_1_2 kw_2_186) hy_X8_wholeDuty ⟨Nat.le_of_ble_eq_true rfl, Nat.le_of_ble_eq_true rfl⟩) (fun r_10 m_11 h => ?_)
        obtain ⟨h, hm⟩ := h
        subst hm
        refine q_iadd X dX8_stake_33 ?_
        refine q_topi (fun x_12 ex_12 => ?_)
        have h := h x_12 ex_12
        refine q_istore_n (lv' := [(1, .int x_12), (0, .ref (ad 1 i)), (2, .int y_2)]) X dX8_stake_34 rfl (by decide) rfl ?_
        obtain ⟨x_13, ex_13⟩ : ∃ z : Int32, z = y_2 + 1 := ⟨_, rfl⟩
        have h := h x_13 ex_13
        refine q_iinc (j := 2) (v := x_13) (lv' := [(2, .int x_13), (1, .int x_12), (0, .ref (ad 1 i))]) X dX8_stake_35 rfl (by rw [ex_13]; rfl) (by decide) rfl ?_
        refine q_goto (tgt := 4) X dX8_stake_38 (by decide) ?_
        refine q_sub [2, 1, 0] rfl ?_
        exact ih_4 x_12 x_13 h
  obtain ⟨n_14, h⟩ := h
  exact L4 n_14 0 0 h
theorem dX8_reasonAgainstEntry_0 : decode cX8_reasonAgainstEntry 0 = .ok (.aload_n 0, 1) := by decide +kernel
theorem dX8_reasonAgainstEntry_1 : decode cX8_reasonAgainstEntry 1 = .ok (.getfield 12, 3) := by decide +kernel
theorem dX8_reasonAgainstEntry_4 : decode cX8_reasonAgainstEntry 4 = .ok (.getfield 153, 3) := by decide +kernel
theorem dX8_reasonAgainstEntry_7 : decode cX8_reasonAgainstEntry 7 = .ok (.ifCond .le 5, 3) := by decide +kernel
theorem dX8_reasonAgainstEntry_10 : decode cX8_reasonAgainstEntry 10 = .ok (.iconst 1, 1) := by decide +kernel
theorem dX8_reasonAgainstEntry_11 : decode cX8_reasonAgainstEntry 11 = .ok (.ireturn, 1) := by decide +kernel
theorem dX8_reasonAgainstEntry_12 : decode cX8_reasonAgainstEntry 12 = .ok (.aload_n 0, 1) := by decide +kernel
theorem dX8_reasonAgainstEntry_13 : decode cX8_reasonAgainstEntry 13 = .ok (.getfield 32, 3) := by decide +kernel
theorem dX8_reasonAgainstEntry_16 : decode cX8_reasonAgainstEntry 16 = .ok (.iload 4, 2) := by decide +kernel
theorem dX8_reasonAgainstEntry_18 : decode cX8_reasonAgainstEntry 18 = .ok (.aaload, 1) := by decide +kernel
theorem dX8_reasonAgainstEntry_19 : decode cX8_reasonAgainstEntry 19 = .ok (.invokevirtual 156, 3) := by decide +kernel
theorem dX8_reasonAgainstEntry_22 : decode cX8_reasonAgainstEntry 22 = .ok (.ifCond .eq 5, 3) := by decide +kernel
theorem dX8_reasonAgainstEntry_25 : decode cX8_reasonAgainstEntry 25 = .ok (.iconst 2, 1) := by decide +kernel
theorem dX8_reasonAgainstEntry_26 : decode cX8_reasonAgainstEntry 26 = .ok (.ireturn, 1) := by decide +kernel
theorem dX8_reasonAgainstEntry_27 : decode cX8_reasonAgainstEntry 27 = .ok (.aload_n 0, 1) := by decide +kernel
theorem dX8_reasonAgainstEntry_28 : decode cX8_reasonAgainstEntry 28 = .ok (.iload 4, 2) := by decide +kernel
theorem dX8_reasonAgainstEntry_30 : decode cX8_reasonAgainstEntry 30 = .ok (.invokevirtual 160, 3) := by decide +kernel
theorem dX8_reasonAgainstEntry_33 : decode cX8_reasonAgainstEntry 33 = .ok (.iload_n 2, 1) := by decide +kernel
theorem dX8_reasonAgainstEntry_34 : decode cX8_reasonAgainstEntry 34 = .ok (.if_icmp .ge 5, 3) := by decide +kernel
theorem dX8_reasonAgainstEntry_37 : decode cX8_reasonAgainstEntry 37 = .ok (.iconst 3, 1) := by decide +kernel
theorem dX8_reasonAgainstEntry_38 : decode cX8_reasonAgainstEntry 38 = .ok (.ireturn, 1) := by decide +kernel
theorem dX8_reasonAgainstEntry_39 : decode cX8_reasonAgainstEntry 39 = .ok (.aload_n 0, 1) := by decide +kernel
theorem dX8_reasonAgainstEntry_40 : decode cX8_reasonAgainstEntry 40 = .ok (.invokevirtual 163, 3) := by decide +kernel
theorem dX8_reasonAgainstEntry_43 : decode cX8_reasonAgainstEntry 43 = .ok (.ifCond .ne 5, 3) := by decide +kernel
theorem dX8_reasonAgainstEntry_46 : decode cX8_reasonAgainstEntry 46 = .ok (.iconst 4, 1) := by decide +kernel
theorem dX8_reasonAgainstEntry_47 : decode cX8_reasonAgainstEntry 47 = .ok (.ireturn, 1) := by decide +kernel
theorem dX8_reasonAgainstEntry_48 : decode cX8_reasonAgainstEntry 48 = .ok (.aload_n 0, 1) := by decide +kernel
theorem dX8_reasonAgainstEntry_49 : decode cX8_reasonAgainstEntry 49 = .ok (.invokevirtual 166, 3) := by decide +kernel
theorem dX8_reasonAgainstEntry_52 : decode cX8_reasonAgainstEntry 52 = .ok (.aload_n 0, 1) := by decide +kernel
theorem dX8_reasonAgainstEntry_53 : decode cX8_reasonAgainstEntry 53 = .ok (.getfield 38, 3) := by decide +kernel
theorem dX8_reasonAgainstEntry_56 : decode cX8_reasonAgainstEntry 56 = .ok (.iload_n 1, 1) := by decide +kernel
theorem dX8_reasonAgainstEntry_57 : decode cX8_reasonAgainstEntry 57 = .ok (.aaload, 1) := by decide +kernel
theorem dX8_reasonAgainstEntry_58 : decode cX8_reasonAgainstEntry 58 = .ok (.iload_n 3, 1) := by decide +kernel
theorem dX8_reasonAgainstEntry_59 : decode cX8_reasonAgainstEntry 59 = .ok (.iload_n 2, 1) := by decide +kernel
theorem dX8_reasonAgainstEntry_60 : decode cX8_reasonAgainstEntry 60 = .ok (.iconst 0, 1) := by decide +kernel
theorem dX8_reasonAgainstEntry_61 : decode cX8_reasonAgainstEntry 61 = .ok (.invokevirtual 120, 3) := by decide +kernel
theorem dX8_reasonAgainstEntry_64 : decode cX8_reasonAgainstEntry 64 = .ok (.iadd, 1) := by decide +kernel
theorem dX8_reasonAgainstEntry_65 : decode cX8_reasonAgainstEntry 65 = .ok (.aload_n 0, 1) := by decide +kernel
theorem dX8_reasonAgainstEntry_66 : decode cX8_reasonAgainstEntry 66 = .ok (.getfield 12, 3) := by decide +kernel
theorem dX8_reasonAgainstEntry_69 : decode cX8_reasonAgainstEntry 69 = .ok (.getfield 170, 3) := by decide +kernel
theorem dX8_reasonAgainstEntry_72 : decode cX8_reasonAgainstEntry 72 = .ok (.if_icmp .le 7, 3) := by decide +kernel
theorem dX8_reasonAgainstEntry_75 : decode cX8_reasonAgainstEntry 75 = .ok (.iconst 5, 1) := by decide +kernel
theorem dX8_reasonAgainstEntry_76 : decode cX8_reasonAgainstEntry 76 = .ok (.goto 4, 3) := by decide +kernel
theorem dX8_reasonAgainstEntry_79 : decode cX8_reasonAgainstEntry 79 = .ok (.iconst 0, 1) := by decide +kernel
theorem dX8_reasonAgainstEntry_80 : decode cX8_reasonAgainstEntry 80 = .ok (.ireturn, 1) := by decide +kernel
def w_X8_reasonAgainstEntry (i : Nat) (p0 : Int32) (p1 : Int32) (p2 : Int32) (p3 : Int32) (mm : Mm) (Q9 : Int32 → Prop) : Prop :=
  (((mm.1 2 i 2) ≤ 0 → vp_in p3 5 ∧ (w_X0_isSealed (5 * (i - 1) + p3.toNatClampNeg + 1) mm (fun (r_3 : Int32) => ((r_3 = 0 → w_X8_roomLeft i p3 mm (fun (r_6 : Int32) => ((p1 ≤ r_6 → w_X8_hasPlace i mm (fun (r_9 : Int32) => ((¬ r_9 = 0 → w_X8_stake i mm (fun (r_12 : Int32) => vp_in p0 6 ∧ (w_X5_dutyOn (6 * (i - 1) + p0.toNatClampNeg + 1) p2 p1 0 mm (fun (r_15 : Int32) => (((r_12 + r_15) ≤ (mm.1 2 i 0) → Q9 0) ∧
  (¬ (r_12 + r_15) ≤ (mm.1 2 i 0) → Q9 5)))))) ∧
  (r_9 = 0 → Q9 4)))) ∧
  (¬ p1 ≤ r_6 → Q9 3)))) ∧
  (¬ r_3 = 0 → Q9 2))))) ∧
  (¬ (mm.1 2 i 2) ≤ 0 → Q9 1))
def rm_X8_reasonAgainstEntry : Room := { frames := 3, cells := 0, slots := 0, locals := 68 }
theorem hy_X8_reasonAgainstEntry : yX8_reasonAgainstEntry.cls = RX8 ∧ yX8_reasonAgainstEntry.cls ≠ "java/lang/invoke/MethodHandle" ∧ yX8_reasonAgainstEntry.cls ≠ "java/lang/invoke/VarHandle" ∧ (parseMethodDescriptor yX8_reasonAgainstEntry.desc).map (fun d => d.parameters.length) = some 4 := by decide +kernel
set_option maxRecDepth 100000 in
set_option maxHeartbeats 4000000 in
theorem c_X8_reasonAgainstEntry {l : Launch} {D : va_G} {cA : Nat → ClassId} {ad : Nat → Nat → Nat} {A : Nat → Prop} (ax : Ax ad GC A) (i : Nat) (hi : ok 1 i) (p0 : Int32) (p1 : Int32) (p2 : Int32) (p3 : Int32) (mm : Mm) (Q9 : Int32 → Prop) (h : w_X8_reasonAgainstEntry i p0 p1 p2 p3 mm Q9) : Met l yX8_reasonAgainstEntry (.code yX8_reasonAgainstEntry cX8_reasonAgainstEntry 5 (some .int) :: TG) rm_X8_reasonAgainstEntry (PcM TT D cA ad false GC (ZC ad A) [.ref (ad 1 i), .int p0, .int p1, .int p2, .int p3] mm) (AnsI TT D cA ad false GC A (fun r mm' => Q9 r ∧ mm = mm')) 0 0 A := by
  have zo := ZC_ok ad A
  unfold w_X8_reasonAgainstEntry at h
  refine enterI pl_X8 ⟨rfl, rfl⟩ rfl (Nat.le_of_ble_eq_true rfl) ?_
  intro p e s m args below meth c QQ X hK hZ hnm hE
  refine q_aload_n (j := 0) X dX8_reasonAgainstEntry_0 rfl rfl ?_
  refine q_get (k := 5) (v := .ref (ad 2 i)) X hK rfl rfl (Nat.le_of_ble_eq_true rfl) inTX8 (gc (t := 1) (by decide) hi) kw_1_239 rfl (rv_nn (a := ad 2) (r := i) hi.1) dX8_reasonAgainstEntry_1 ?_
  refine q_getN (k := 2) (v := .int (mm.1 2 i 2)) X hK rfl rfl (Nat.le_of_ble_eq_true rfl) inTX6 (gc (t := 2) (by decide) hi) (List.mem_of_getElem? (i := 6) rfl) rfl rfl dX8_reasonAgainstEntry_4 ?_
  refine q_if_le (tgt := 12) X dX8_reasonAgainstEntry_7 (by decide) (fun c_1 => ?_) (fun c_1 => ?_)
  · have h := h.1 c_1
    refine q_aload_n (j := 0) X dX8_reasonAgainstEntry_12 rfl rfl ?_
    refine q_get (k := 8) (v := .ref (ad 9 i)) X hK rfl rfl (Nat.le_of_ble_eq_true rfl) inTX8 (gc (t := 1) (by decide) hi) kw_2_6 rfl (rv_nn (a := ad 9) (r := i) hi.1) dX8_reasonAgainstEntry_13 ?_
    refine q_iload (j := 4) X dX8_reasonAgainstEntry_16 rfl ?_
    obtain ⟨b_2, h⟩ := h
    refine q_aald (t := 9) (i := i) (jn := p3.toNatClampNeg) (v := .ref (ad 5 (5 * (i - 1) + p3.toNatClampNeg + 1))) X hK rfl rfl (gc (t := 9) (by decide) hi) rfl b_2 rfl (rv_nn (a := ad 5) (r := (5 * (i - 1) + p3.toNatClampNeg + 1)) (ok_ch hi b_2).1) dX8_reasonAgainstEntry_18 ?_
    refine q_calli (q_runVN X hK hZ zo (gc (t := 5) (by decide) (ok_ch hi b_2)) rfl rfl [] [] rfl rfl (Nat.le_of_ble_eq_true rfl) dX8_reasonAgainstEntry_19 ⟨Nat.le_of_ble_eq_true rfl, Nat.le_of_ble_eq_true rfl⟩ (c_X0_isSealed ax (5 * (i - 1) + p3.toNatClampNeg + 1) (ok_ch hi b_2) mm _ h) rfl rfl (List.mem_of_getElem? (i := 13) rfl) kw_1_6 kw_2_166 kw_2_165 ks_2 hy_X0_isSealed.2 ⟨Nat.le_of_ble_eq_true rfl, Nat.le_of_ble_eq_true rfl⟩) (fun r_3 m_4 h => ?_)
    obtain ⟨h, hm⟩ := h
    subst hm
    refine q_if_eq (tgt := 27) X dX8_reasonAgainstEntry_22 (by decide) (fun c_5 => ?_) (fun c_5 => ?_)
    · have h := h.1 c_5
      refine q_aload_n (j := 0) X dX8_reasonAgainstEntry_27 rfl rfl ?_
      refine q_iload (j := 4) X dX8_reasonAgainstEntry_28 rfl ?_
      refine q_calli (q_runV X hK hZ zo (gc (t := 1) (by decide) hi) rfl rfl [.int p3] [] rfl rfl (Nat.le_of_ble_eq_true rfl) dX8_reasonAgainstEntry_30 ⟨Nat.le_of_ble_eq_true rfl, Nat.le_of_ble_eq_true rfl⟩ (c_X8_roomLeft ax i hi p3 mm _ h) rfl rfl (gV kw_2_167 kw_2_169 ks_3 kw_1_2 kw_2_170) hy_X8_roomLeft ⟨Nat.le_of_ble_eq_true rfl, Nat.le_of_ble_eq_true rfl⟩) (fun r_6 m_7 h => ?_)
      obtain ⟨h, hm⟩ := h
      subst hm
      refine q_iload_n (j := 2) X dX8_reasonAgainstEntry_33 rfl rfl ?_
      refine q_icmp_ge (tgt := 39) X dX8_reasonAgainstEntry_34 (by decide) (fun c_8 => ?_) (fun c_8 => ?_)
      · have h := h.1 c_8
        refine q_aload_n (j := 0) X dX8_reasonAgainstEntry_39 rfl rfl ?_
        refine q_calli (q_runV X hK hZ zo (gc (t := 1) (by decide) hi) rfl rfl [] [] rfl rfl (Nat.le_of_ble_eq_true rfl) dX8_reasonAgainstEntry_40 ⟨Nat.le_of_ble_eq_true rfl, Nat.le_of_ble_eq_true rfl⟩ (c_X8_hasPlace ax i hi mm _ h) rfl rfl (gV kw_2_171 kw_2_173 ks_4 kw_1_2 kw_2_174) hy_X8_hasPlace ⟨Nat.le_of_ble_eq_true rfl, Nat.le_of_ble_eq_true rfl⟩) (fun r_9 m_10 h => ?_)
        obtain ⟨h, hm⟩ := h
        subst hm
        refine q_if_ne (tgt := 48) X dX8_reasonAgainstEntry_43 (by decide) (fun c_11 => ?_) (fun c_11 => ?_)
        · have h := h.1 c_11
          refine q_aload_n (j := 0) X dX8_reasonAgainstEntry_48 rfl rfl ?_
          refine q_calli (q_runV X hK hZ zo (gc (t := 1) (by decide) hi) rfl rfl [] [] rfl rfl (Nat.le_of_ble_eq_true rfl) dX8_reasonAgainstEntry_49 ⟨Nat.le_of_ble_eq_true rfl, Nat.le_of_ble_eq_true rfl⟩ (c_X8_stake ax i hi mm _ h) rfl rfl (gV kw_2_175 kw_2_177 ks_5 kw_1_2 kw_2_178) hy_X8_stake ⟨Nat.le_of_ble_eq_true rfl, Nat.le_of_ble_eq_true rfl⟩) (fun r_12 m_13 h => ?_)
          obtain ⟨h, hm⟩ := h
          subst hm
          refine q_aload_n (j := 0) X dX8_reasonAgainstEntry_52 rfl rfl ?_
          refine q_get (k := 9) (v := .ref (ad 10 i)) X hK rfl rfl (Nat.le_of_ble_eq_true rfl) inTX8 (gc (t := 1) (by decide) hi) kw_2_9 rfl (rv_nn (a := ad 10) (r := i) hi.1) dX8_reasonAgainstEntry_53 ?_
          refine q_iload_n (j := 1) X dX8_reasonAgainstEntry_56 rfl rfl ?_
          obtain ⟨b_14, h⟩ := h
          refine q_aald (t := 10) (i := i) (jn := p0.toNatClampNeg) (v := .ref (ad 6 (6 * (i - 1) + p0.toNatClampNeg + 1))) X hK rfl rfl (gc (t := 10) (by decide) hi) rfl b_14 rfl (rv_nn (a := ad 6) (r := (6 * (i - 1) + p0.toNatClampNeg + 1)) (ok_ki hi b_14).1) dX8_reasonAgainstEntry_57 ?_
          refine q_iload_n (j := 3) X dX8_reasonAgainstEntry_58 rfl rfl ?_
          refine q_iload_n (j := 2) X dX8_reasonAgainstEntry_59 rfl rfl ?_
          refine q_iconst (v := 0) X dX8_reasonAgainstEntry_60 (by decide) ?_
          refine q_calli (q_runVN X hK hZ zo (gc (t := 6) (by decide) (ok_ki hi b_14)) rfl rfl [.int p2, .int p1, .int 0] [.int r_12] rfl rfl (Nat.le_of_ble_eq_true rfl) dX8_reasonAgainstEntry_61 ⟨Nat.le_of_ble_eq_true rfl, Nat.le_of_ble_eq_true rfl⟩ (c_X5_dutyOn ax (6 * (i - 1) + p0.toNatClampNeg + 1) (ok_ki hi b_14) p2 p1 0 mm _ h) rfl rfl (List.mem_of_getElem? (i := 14) rfl) kw_1_7 kw_2_190 kw_2_189 ks_8 hy_X5_dutyOn.2 ⟨Nat.le_of_ble_eq_true rfl, Nat.le_of_ble_eq_true rfl⟩) (fun r_15 m_16 h => ?_)
          obtain ⟨h, hm⟩ := h
          subst hm
          refine q_iadd X dX8_reasonAgainstEntry_64 ?_
          refine q_aload_n (j := 0) X dX8_reasonAgainstEntry_65 rfl rfl ?_
          refine q_get (k := 5) (v := .ref (ad 2 i)) X hK rfl rfl (Nat.le_of_ble_eq_true rfl) inTX8 (gc (t := 1) (by decide) hi) kw_1_239 rfl (rv_nn (a := ad 2) (r := i) hi.1) dX8_reasonAgainstEntry_66 ?_
          refine q_getN (k := 0) (v := .int (mm.1 2 i 0)) X hK rfl rfl (Nat.le_of_ble_eq_true rfl) inTX6 (gc (t := 2) (by decide) hi) (List.mem_of_getElem? (i := 1) rfl) rfl rfl dX8_reasonAgainstEntry_69 ?_
          refine q_icmp_le (tgt := 79) X dX8_reasonAgainstEntry_72 (by decide) (fun c_17 => ?_) (fun c_17 => ?_)
          · have h := h.1 c_17
            refine q_iconst (v := 0) X dX8_reasonAgainstEntry_79 (by decide) ?_
            exact hE _ _ _ _ dX8_reasonAgainstEntry_80 ⟨h, rfl⟩
          · have h := h.2 c_17
            refine q_iconst (v := 5) X dX8_reasonAgainstEntry_75 (by decide) ?_
            refine q_goto (tgt := 80) X dX8_reasonAgainstEntry_76 (by decide) ?_
            exact hE _ _ _ _ dX8_reasonAgainstEntry_80 ⟨h, rfl⟩
        · have h := h.2 c_11
          refine q_iconst (v := 4) X dX8_reasonAgainstEntry_46 (by decide) ?_
          exact hE _ _ _ _ dX8_reasonAgainstEntry_47 ⟨h, rfl⟩
      · have h := h.2 c_8
        refine q_iconst (v := 3) X dX8_reasonAgainstEntry_37 (by decide) ?_
        exact hE _ _ _ _ dX8_reasonAgainstEntry_38 ⟨h, rfl⟩
    · have h := h.2 c_5
      refine q_iconst (v := 2) X dX8_reasonAgainstEntry_25 (by decide) ?_
      exact hE _ _ _ _ dX8_reasonAgainstEntry_26 ⟨h, rfl⟩
  · have h := h.2 c_1
    refine q_iconst (v := 1) X dX8_reasonAgainstEntry_10 (by decide) ?_
    exact hE _ _ _ _ dX8_reasonAgainstEntry_11 ⟨h, rfl⟩
theorem dX6_copyFrom_0 : decode cX6_copyFrom 0 = .ok (.aload_n 0, 1) := by decide +kernel
theorem dX6_copyFrom_1 : decode cX6_copyFrom 1 = .ok (.aload_n 1, 1) := by decide +kernel
theorem dX6_copyFrom_2 : decode cX6_copyFrom 2 = .ok (.getfield 7, 3) := by decide +kernel
theorem dX6_copyFrom_5 : decode cX6_copyFrom 5 = .ok (.putfield 7, 3) := by decide +kernel
theorem dX6_copyFrom_8 : decode cX6_copyFrom 8 = .ok (.aload_n 0, 1) := by decide +kernel
theorem dX6_copyFrom_9 : decode cX6_copyFrom 9 = .ok (.aload_n 1, 1) := by decide +kernel
theorem dX6_copyFrom_10 : decode cX6_copyFrom 10 = .ok (.getfield 13, 3) := by decide +kernel
theorem dX6_copyFrom_13 : decode cX6_copyFrom 13 = .ok (.putfield 13, 3) := by decide +kernel
theorem dX6_copyFrom_16 : decode cX6_copyFrom 16 = .ok (.aload_n 0, 1) := by decide +kernel
theorem dX6_copyFrom_17 : decode cX6_copyFrom 17 = .ok (.aload_n 1, 1) := by decide +kernel
theorem dX6_copyFrom_18 : decode cX6_copyFrom 18 = .ok (.getfield 16, 3) := by decide +kernel
theorem dX6_copyFrom_21 : decode cX6_copyFrom 21 = .ok (.putfield 16, 3) := by decide +kernel
theorem dX6_copyFrom_24 : decode cX6_copyFrom 24 = .ok (.aload_n 0, 1) := by decide +kernel
theorem dX6_copyFrom_25 : decode cX6_copyFrom 25 = .ok (.aload_n 1, 1) := by decide +kernel
theorem dX6_copyFrom_26 : decode cX6_copyFrom 26 = .ok (.getfield 19, 3) := by decide +kernel
theorem dX6_copyFrom_29 : decode cX6_copyFrom 29 = .ok (.putfield 19, 3) := by decide +kernel
theorem dX6_copyFrom_32 : decode cX6_copyFrom 32 = .ok (.aload_n 0, 1) := by decide +kernel
theorem dX6_copyFrom_33 : decode cX6_copyFrom 33 = .ok (.aload_n 1, 1) := by decide +kernel
theorem dX6_copyFrom_34 : decode cX6_copyFrom 34 = .ok (.getfield 22, 3) := by decide +kernel
theorem dX6_copyFrom_37 : decode cX6_copyFrom 37 = .ok (.putfield 22, 3) := by decide +kernel
theorem dX6_copyFrom_40 : decode cX6_copyFrom 40 = .ok (.aload_n 0, 1) := by decide +kernel
theorem dX6_copyFrom_41 : decode cX6_copyFrom 41 = .ok (.aload_n 1, 1) := by decide +kernel
theorem dX6_copyFrom_42 : decode cX6_copyFrom 42 = .ok (.getfield 25, 3) := by decide +kernel
theorem dX6_copyFrom_45 : decode cX6_copyFrom 45 = .ok (.putfield 25, 3) := by decide +kernel
theorem dX6_copyFrom_48 : decode cX6_copyFrom 48 = .ok (.aload_n 0, 1) := by decide +kernel
theorem dX6_copyFrom_49 : decode cX6_copyFrom 49 = .ok (.aload_n 1, 1) := by decide +kernel
theorem dX6_copyFrom_50 : decode cX6_copyFrom 50 = .ok (.getfield 28, 3) := by decide +kernel
theorem dX6_copyFrom_53 : decode cX6_copyFrom 53 = .ok (.putfield 28, 3) := by decide +kernel
theorem dX6_copyFrom_56 : decode cX6_copyFrom 56 = .ok (.return_, 1) := by decide +kernel
def w_X6_copyFrom (i : Nat) (p0 : Nat) (mm : Mm) (Q9 : Mm → Prop) : Prop :=
  ∀ m_1 : Mm, m_1 = sI mm 2 i 0 (mm.1 2 p0 0) → (∀ m_2 : Mm, m_2 = sI m_1 2 i 1 (m_1.1 2 p0 1) → (∀ m_3 : Mm, m_3 = sI m_2 2 i 2 (m_2.1 2 p0 2) → (∀ m_4 : Mm, m_4 = sI m_3 2 i 3 (m_3.1 2 p0 3) → (∀ m_5 : Mm, m_5 = sI m_4 2 i 4 (m_4.1 2 p0 4) → (∀ m_6 : Mm, m_6 = sI m_5 2 i 5 (m_5.1 2 p0 5) → (∀ m_7 : Mm, m_7 = sI m_6 2 i 6 (m_6.1 2 p0 6) → (Q9 m_7)))))))
def rm_X6_copyFrom : Room := { frames := 0, cells := 0, slots := 0, locals := 0 }
theorem hy_X6_copyFrom : yX6_copyFrom.cls = RX6 ∧ yX6_copyFrom.cls ≠ "java/lang/invoke/MethodHandle" ∧ yX6_copyFrom.cls ≠ "java/lang/invoke/VarHandle" ∧ (parseMethodDescriptor yX6_copyFrom.desc).map (fun d => d.parameters.length) = some 1 := by decide +kernel
set_option maxRecDepth 100000 in
set_option maxHeartbeats 4000000 in
theorem c_X6_copyFrom {l : Launch} {D : va_G} {cA : Nat → ClassId} {ad : Nat → Nat → Nat} {A : Nat → Prop} (ax : Ax ad GC A) (i : Nat) (hi : ok 2 i) (p0 : Nat) (hp0 : ok 2 p0) (mm : Mm) (Q9 : Mm → Prop) (h : w_X6_copyFrom i p0 mm Q9) : Met l yX6_copyFrom (.code yX6_copyFrom cX6_copyFrom 2 none :: TG) rm_X6_copyFrom (PcM TT D cA ad false GC (ZC ad A) [.ref (ad 2 i), .ref (ad 2 p0)] mm) (AnsV TT D cA ad false GC A Q9) 0 0 A := by
  have zo := ZC_ok ad A
  unfold w_X6_copyFrom at h
  refine enterV pl_X6 ⟨rfl, rfl⟩ rfl (Nat.le_of_ble_eq_true rfl) ?_
  intro p e s m args below meth c QQ X hK hZ hnm hE
  refine q_aload_n (j := 0) X dX6_copyFrom_0 rfl rfl ?_
  refine q_aload_n (j := 1) X dX6_copyFrom_1 rfl rfl ?_
  refine q_get (k := 0) (v := .int (mm.1 2 p0 0)) X hK rfl rfl (Nat.le_of_ble_eq_true rfl) inTX6 (gc (t := 2) (by decide) hp0) kw_1_38 rfl rfl dX6_copyFrom_2 ?_
  refine q_putI (k := 0) X ax hK rfl rfl (Nat.le_of_ble_eq_true rfl) inTX6 (gc (t := 2) (by decide) hi) tyX6 tyX6_ok nmX6 kw_1_38 rfl rfl (tyX6_ok 0 (Nat.le_of_ble_eq_true rfl)) rfl dX6_copyFrom_5 ?_
  refine q_nmP (fun m_1 em_1 => ?_)
  have h := h m_1 em_1
  refine q_aload_n (j := 0) X dX6_copyFrom_8 rfl rfl ?_
  refine q_aload_n (j := 1) X dX6_copyFrom_9 rfl rfl ?_
  refine q_get (k := 1) (v := .int (m_1.1 2 p0 1)) X hK rfl rfl (Nat.le_of_ble_eq_true rfl) inTX6 (gc (t := 2) (by decide) hp0) kw_1_42 rfl rfl dX6_copyFrom_10 ?_
  refine q_putI (k := 1) X ax hK rfl rfl (Nat.le_of_ble_eq_true rfl) inTX6 (gc (t := 2) (by decide) hi) tyX6 tyX6_ok nmX6 kw_1_42 rfl rfl (tyX6_ok 1 (Nat.le_of_ble_eq_true rfl)) rfl dX6_copyFrom_13 ?_
  refine q_nmP (fun m_2 em_2 => ?_)
  have h := h m_2 em_2
  refine q_aload_n (j := 0) X dX6_copyFrom_16 rfl rfl ?_
  refine q_aload_n (j := 1) X dX6_copyFrom_17 rfl rfl ?_
  refine q_get (k := 2) (v := .int (m_2.1 2 p0 2)) X hK rfl rfl (Nat.le_of_ble_eq_true rfl) inTX6 (gc (t := 2) (by decide) hp0) kw_1_46 rfl rfl dX6_copyFrom_18 ?_
  refine q_putI (k := 2) X ax hK rfl rfl (Nat.le_of_ble_eq_true rfl) inTX6 (gc (t := 2) (by decide) hi) tyX6 tyX6_ok nmX6 kw_1_46 rfl rfl (tyX6_ok 2 (Nat.le_of_ble_eq_true rfl)) rfl dX6_copyFrom_21 ?_
  refine q_nmP (fun m_3 em_3 => ?_)
  have h := h m_3 em_3
  refine q_aload_n (j := 0) X dX6_copyFrom_24 rfl rfl ?_
  refine q_aload_n (j := 1) X dX6_copyFrom_25 rfl rfl ?_
  refine q_get (k := 3) (v := .int (m_3.1 2 p0 3)) X hK rfl rfl (Nat.le_of_ble_eq_true rfl) inTX6 (gc (t := 2) (by decide) hp0) kw_1_49 rfl rfl dX6_copyFrom_26 ?_
  refine q_putI (k := 3) X ax hK rfl rfl (Nat.le_of_ble_eq_true rfl) inTX6 (gc (t := 2) (by decide) hi) tyX6 tyX6_ok nmX6 kw_1_49 rfl rfl (tyX6_ok 3 (Nat.le_of_ble_eq_true rfl)) rfl dX6_copyFrom_29 ?_
  refine q_nmP (fun m_4 em_4 => ?_)
  have h := h m_4 em_4
  refine q_aload_n (j := 0) X dX6_copyFrom_32 rfl rfl ?_
  refine q_aload_n (j := 1) X dX6_copyFrom_33 rfl rfl ?_
  refine q_get (k := 4) (v := .int (m_4.1 2 p0 4)) X hK rfl rfl (Nat.le_of_ble_eq_true rfl) inTX6 (gc (t := 2) (by decide) hp0) kw_1_51 rfl rfl dX6_copyFrom_34 ?_
  refine q_putI (k := 4) X ax hK rfl rfl (Nat.le_of_ble_eq_true rfl) inTX6 (gc (t := 2) (by decide) hi) tyX6 tyX6_ok nmX6 kw_1_51 rfl rfl (tyX6_ok 4 (Nat.le_of_ble_eq_true rfl)) rfl dX6_copyFrom_37 ?_
  refine q_nmP (fun m_5 em_5 => ?_)
  have h := h m_5 em_5
  refine q_aload_n (j := 0) X dX6_copyFrom_40 rfl rfl ?_
  refine q_aload_n (j := 1) X dX6_copyFrom_41 rfl rfl ?_
  refine q_get (k := 5) (v := .int (m_5.1 2 p0 5)) X hK rfl rfl (Nat.le_of_ble_eq_true rfl) inTX6 (gc (t := 2) (by decide) hp0) kw_1_53 rfl rfl dX6_copyFrom_42 ?_
  refine q_putI (k := 5) X ax hK rfl rfl (Nat.le_of_ble_eq_true rfl) inTX6 (gc (t := 2) (by decide) hi) tyX6 tyX6_ok nmX6 kw_1_53 rfl rfl (tyX6_ok 5 (Nat.le_of_ble_eq_true rfl)) rfl dX6_copyFrom_45 ?_
  refine q_nmP (fun m_6 em_6 => ?_)
  have h := h m_6 em_6
  refine q_aload_n (j := 0) X dX6_copyFrom_48 rfl rfl ?_
  refine q_aload_n (j := 1) X dX6_copyFrom_49 rfl rfl ?_
  refine q_get (k := 6) (v := .int (m_6.1 2 p0 6)) X hK rfl rfl (Nat.le_of_ble_eq_true rfl) inTX6 (gc (t := 2) (by decide) hp0) kw_1_55 rfl rfl dX6_copyFrom_50 ?_
  refine q_putI (k := 6) X ax hK rfl rfl (Nat.le_of_ble_eq_true rfl) inTX6 (gc (t := 2) (by decide) hi) tyX6 tyX6_ok nmX6 kw_1_55 rfl rfl (tyX6_ok 6 (Nat.le_of_ble_eq_true rfl)) rfl dX6_copyFrom_53 ?_
  refine q_nmP (fun m_7 em_7 => ?_)
  have h := h m_7 em_7
  exact hE _ _ _ dX6_copyFrom_56 h
theorem dX2_copyFrom_0 : decode cX2_copyFrom 0 = .ok (.aload_n 0, 1) := by decide +kernel
theorem dX2_copyFrom_1 : decode cX2_copyFrom 1 = .ok (.aload_n 1, 1) := by decide +kernel
theorem dX2_copyFrom_2 : decode cX2_copyFrom 2 = .ok (.getfield 7, 3) := by decide +kernel
theorem dX2_copyFrom_5 : decode cX2_copyFrom 5 = .ok (.putfield 7, 3) := by decide +kernel
theorem dX2_copyFrom_8 : decode cX2_copyFrom 8 = .ok (.aload_n 0, 1) := by decide +kernel
theorem dX2_copyFrom_9 : decode cX2_copyFrom 9 = .ok (.aload_n 1, 1) := by decide +kernel
theorem dX2_copyFrom_10 : decode cX2_copyFrom 10 = .ok (.getfield 13, 3) := by decide +kernel
theorem dX2_copyFrom_13 : decode cX2_copyFrom 13 = .ok (.putfield 13, 3) := by decide +kernel
theorem dX2_copyFrom_16 : decode cX2_copyFrom 16 = .ok (.aload_n 0, 1) := by decide +kernel
theorem dX2_copyFrom_17 : decode cX2_copyFrom 17 = .ok (.aload_n 1, 1) := by decide +kernel
theorem dX2_copyFrom_18 : decode cX2_copyFrom 18 = .ok (.getfield 16, 3) := by decide +kernel
theorem dX2_copyFrom_21 : decode cX2_copyFrom 21 = .ok (.putfield 16, 3) := by decide +kernel
theorem dX2_copyFrom_24 : decode cX2_copyFrom 24 = .ok (.aload_n 0, 1) := by decide +kernel
theorem dX2_copyFrom_25 : decode cX2_copyFrom 25 = .ok (.aload_n 1, 1) := by decide +kernel
theorem dX2_copyFrom_26 : decode cX2_copyFrom 26 = .ok (.getfield 19, 3) := by decide +kernel
theorem dX2_copyFrom_29 : decode cX2_copyFrom 29 = .ok (.putfield 19, 3) := by decide +kernel
theorem dX2_copyFrom_32 : decode cX2_copyFrom 32 = .ok (.aload_n 0, 1) := by decide +kernel
theorem dX2_copyFrom_33 : decode cX2_copyFrom 33 = .ok (.aload_n 1, 1) := by decide +kernel
theorem dX2_copyFrom_34 : decode cX2_copyFrom 34 = .ok (.getfield 22, 3) := by decide +kernel
theorem dX2_copyFrom_37 : decode cX2_copyFrom 37 = .ok (.putfield 22, 3) := by decide +kernel
theorem dX2_copyFrom_40 : decode cX2_copyFrom 40 = .ok (.aload_n 0, 1) := by decide +kernel
theorem dX2_copyFrom_41 : decode cX2_copyFrom 41 = .ok (.aload_n 1, 1) := by decide +kernel
theorem dX2_copyFrom_42 : decode cX2_copyFrom 42 = .ok (.getfield 25, 3) := by decide +kernel
theorem dX2_copyFrom_45 : decode cX2_copyFrom 45 = .ok (.putfield 25, 3) := by decide +kernel
theorem dX2_copyFrom_48 : decode cX2_copyFrom 48 = .ok (.aload_n 0, 1) := by decide +kernel
theorem dX2_copyFrom_49 : decode cX2_copyFrom 49 = .ok (.aload_n 1, 1) := by decide +kernel
theorem dX2_copyFrom_50 : decode cX2_copyFrom 50 = .ok (.getfield 28, 3) := by decide +kernel
theorem dX2_copyFrom_53 : decode cX2_copyFrom 53 = .ok (.putfield 28, 3) := by decide +kernel
theorem dX2_copyFrom_56 : decode cX2_copyFrom 56 = .ok (.aload_n 0, 1) := by decide +kernel
theorem dX2_copyFrom_57 : decode cX2_copyFrom 57 = .ok (.aload_n 1, 1) := by decide +kernel
theorem dX2_copyFrom_58 : decode cX2_copyFrom 58 = .ok (.getfield 31, 3) := by decide +kernel
theorem dX2_copyFrom_61 : decode cX2_copyFrom 61 = .ok (.putfield 31, 3) := by decide +kernel
theorem dX2_copyFrom_64 : decode cX2_copyFrom 64 = .ok (.return_, 1) := by decide +kernel
def w_X2_copyFrom (i : Nat) (p0 : Nat) (mm : Mm) (Q9 : Mm → Prop) : Prop :=
  ∀ m_1 : Mm, m_1 = sI mm 3 i 0 (mm.1 3 p0 0) → (∀ m_2 : Mm, m_2 = sI m_1 3 i 1 (m_1.1 3 p0 1) → (∀ m_3 : Mm, m_3 = sI m_2 3 i 2 (m_2.1 3 p0 2) → (∀ m_4 : Mm, m_4 = sI m_3 3 i 3 (m_3.1 3 p0 3) → (∀ m_5 : Mm, m_5 = sI m_4 3 i 4 (m_4.1 3 p0 4) → (∀ m_6 : Mm, m_6 = sI m_5 3 i 5 (m_5.1 3 p0 5) → (∀ m_7 : Mm, m_7 = sI m_6 3 i 6 (m_6.1 3 p0 6) → (isB (m_7.1 3 p0 7) ∧ ∀ m_8 : Mm, m_8 = sI m_7 3 i 7 (m_7.1 3 p0 7) → (Q9 m_8))))))))
def rm_X2_copyFrom : Room := { frames := 0, cells := 0, slots := 0, locals := 0 }
theorem hy_X2_copyFrom : yX2_copyFrom.cls = RX2 ∧ yX2_copyFrom.cls ≠ "java/lang/invoke/MethodHandle" ∧ yX2_copyFrom.cls ≠ "java/lang/invoke/VarHandle" ∧ (parseMethodDescriptor yX2_copyFrom.desc).map (fun d => d.parameters.length) = some 1 := by decide +kernel
set_option maxRecDepth 100000 in
set_option maxHeartbeats 4000000 in
theorem c_X2_copyFrom {l : Launch} {D : va_G} {cA : Nat → ClassId} {ad : Nat → Nat → Nat} {A : Nat → Prop} (ax : Ax ad GC A) (i : Nat) (hi : ok 3 i) (p0 : Nat) (hp0 : ok 3 p0) (mm : Mm) (Q9 : Mm → Prop) (h : w_X2_copyFrom i p0 mm Q9) : Met l yX2_copyFrom (.code yX2_copyFrom cX2_copyFrom 2 none :: TG) rm_X2_copyFrom (PcM TT D cA ad false GC (ZC ad A) [.ref (ad 3 i), .ref (ad 3 p0)] mm) (AnsV TT D cA ad false GC A Q9) 0 0 A := by
  have zo := ZC_ok ad A
  unfold w_X2_copyFrom at h
  refine enterV pl_X2 ⟨rfl, rfl⟩ rfl (Nat.le_of_ble_eq_true rfl) ?_
  intro p e s m args below meth c QQ X hK hZ hnm hE
  refine q_aload_n (j := 0) X dX2_copyFrom_0 rfl rfl ?_
  refine q_aload_n (j := 1) X dX2_copyFrom_1 rfl rfl ?_
  refine q_get (k := 0) (v := .int (mm.1 3 p0 0)) X hK rfl rfl (Nat.le_of_ble_eq_true rfl) inTX2 (gc (t := 3) (by decide) hp0) kw_1_85 rfl rfl dX2_copyFrom_2 ?_
  refine q_putI (k := 0) X ax hK rfl rfl (Nat.le_of_ble_eq_true rfl) inTX2 (gc (t := 3) (by decide) hi) tyX2 tyX2_ok nmX2 kw_1_85 rfl rfl (tyX2_ok 0 (Nat.le_of_ble_eq_true rfl)) rfl dX2_copyFrom_5 ?_
  refine q_nmP (fun m_1 em_1 => ?_)
  have h := h m_1 em_1
  refine q_aload_n (j := 0) X dX2_copyFrom_8 rfl rfl ?_
  refine q_aload_n (j := 1) X dX2_copyFrom_9 rfl rfl ?_
  refine q_get (k := 1) (v := .int (m_1.1 3 p0 1)) X hK rfl rfl (Nat.le_of_ble_eq_true rfl) inTX2 (gc (t := 3) (by decide) hp0) kw_1_89 rfl rfl dX2_copyFrom_10 ?_
  refine q_putI (k := 1) X ax hK rfl rfl (Nat.le_of_ble_eq_true rfl) inTX2 (gc (t := 3) (by decide) hi) tyX2 tyX2_ok nmX2 kw_1_89 rfl rfl (tyX2_ok 1 (Nat.le_of_ble_eq_true rfl)) rfl dX2_copyFrom_13 ?_
  refine q_nmP (fun m_2 em_2 => ?_)
  have h := h m_2 em_2
  refine q_aload_n (j := 0) X dX2_copyFrom_16 rfl rfl ?_
  refine q_aload_n (j := 1) X dX2_copyFrom_17 rfl rfl ?_
  refine q_get (k := 2) (v := .int (m_2.1 3 p0 2)) X hK rfl rfl (Nat.le_of_ble_eq_true rfl) inTX2 (gc (t := 3) (by decide) hp0) kw_1_93 rfl rfl dX2_copyFrom_18 ?_
  refine q_putI (k := 2) X ax hK rfl rfl (Nat.le_of_ble_eq_true rfl) inTX2 (gc (t := 3) (by decide) hi) tyX2 tyX2_ok nmX2 kw_1_93 rfl rfl (tyX2_ok 2 (Nat.le_of_ble_eq_true rfl)) rfl dX2_copyFrom_21 ?_
  refine q_nmP (fun m_3 em_3 => ?_)
  have h := h m_3 em_3
  refine q_aload_n (j := 0) X dX2_copyFrom_24 rfl rfl ?_
  refine q_aload_n (j := 1) X dX2_copyFrom_25 rfl rfl ?_
  refine q_get (k := 3) (v := .int (m_3.1 3 p0 3)) X hK rfl rfl (Nat.le_of_ble_eq_true rfl) inTX2 (gc (t := 3) (by decide) hp0) kw_1_97 rfl rfl dX2_copyFrom_26 ?_
  refine q_putI (k := 3) X ax hK rfl rfl (Nat.le_of_ble_eq_true rfl) inTX2 (gc (t := 3) (by decide) hi) tyX2 tyX2_ok nmX2 kw_1_97 rfl rfl (tyX2_ok 3 (Nat.le_of_ble_eq_true rfl)) rfl dX2_copyFrom_29 ?_
  refine q_nmP (fun m_4 em_4 => ?_)
  have h := h m_4 em_4
  refine q_aload_n (j := 0) X dX2_copyFrom_32 rfl rfl ?_
  refine q_aload_n (j := 1) X dX2_copyFrom_33 rfl rfl ?_
  refine q_get (k := 4) (v := .int (m_4.1 3 p0 4)) X hK rfl rfl (Nat.le_of_ble_eq_true rfl) inTX2 (gc (t := 3) (by decide) hp0) kw_1_101 rfl rfl dX2_copyFrom_34 ?_
  refine q_putI (k := 4) X ax hK rfl rfl (Nat.le_of_ble_eq_true rfl) inTX2 (gc (t := 3) (by decide) hi) tyX2 tyX2_ok nmX2 kw_1_101 rfl rfl (tyX2_ok 4 (Nat.le_of_ble_eq_true rfl)) rfl dX2_copyFrom_37 ?_
  refine q_nmP (fun m_5 em_5 => ?_)
  have h := h m_5 em_5
  refine q_aload_n (j := 0) X dX2_copyFrom_40 rfl rfl ?_
  refine q_aload_n (j := 1) X dX2_copyFrom_41 rfl rfl ?_
  refine q_get (k := 5) (v := .int (m_5.1 3 p0 5)) X hK rfl rfl (Nat.le_of_ble_eq_true rfl) inTX2 (gc (t := 3) (by decide) hp0) kw_1_105 rfl rfl dX2_copyFrom_42 ?_
  refine q_putI (k := 5) X ax hK rfl rfl (Nat.le_of_ble_eq_true rfl) inTX2 (gc (t := 3) (by decide) hi) tyX2 tyX2_ok nmX2 kw_1_105 rfl rfl (tyX2_ok 5 (Nat.le_of_ble_eq_true rfl)) rfl dX2_copyFrom_45 ?_
  refine q_nmP (fun m_6 em_6 => ?_)
  have h := h m_6 em_6
  refine q_aload_n (j := 0) X dX2_copyFrom_48 rfl rfl ?_
  refine q_aload_n (j := 1) X dX2_copyFrom_49 rfl rfl ?_
  refine q_get (k := 6) (v := .int (m_6.1 3 p0 6)) X hK rfl rfl (Nat.le_of_ble_eq_true rfl) inTX2 (gc (t := 3) (by decide) hp0) kw_1_108 rfl rfl dX2_copyFrom_50 ?_
  refine q_putI (k := 6) X ax hK rfl rfl (Nat.le_of_ble_eq_true rfl) inTX2 (gc (t := 3) (by decide) hi) tyX2 tyX2_ok nmX2 kw_1_108 rfl rfl (tyX2_ok 6 (Nat.le_of_ble_eq_true rfl)) rfl dX2_copyFrom_53 ?_
  refine q_nmP (fun m_7 em_7 => ?_)
  have h := h m_7 em_7
  refine q_aload_n (j := 0) X dX2_copyFrom_56 rfl rfl ?_
  refine q_aload_n (j := 1) X dX2_copyFrom_57 rfl rfl ?_
  refine q_get (k := 7) (v := .int (m_7.1 3 p0 7)) X hK rfl rfl (Nat.le_of_ble_eq_true rfl) inTX2 (gc (t := 3) (by decide) hp0) kw_1_111 rfl rfl dX2_copyFrom_58 ?_
  obtain ⟨b_9, h⟩ := h
  refine q_putB (k := 7) X ax hK rfl rfl (Nat.le_of_ble_eq_true rfl) inTX2 (gc (t := 3) (by decide) hi) tyX2 tyX2_ok nmX2 kw_1_111 rfl rfl (tyX2_ok 7 (Nat.le_of_ble_eq_true rfl)) b_9 rfl dX2_copyFrom_61 ?_
  refine q_nmP (fun m_8 em_8 => ?_)
  have h := h m_8 em_8
  exact hE _ _ _ dX2_copyFrom_64 h
theorem dX7_copyFrom_0 : decode cX7_copyFrom 0 = .ok (.aload_n 0, 1) := by decide +kernel
theorem dX7_copyFrom_1 : decode cX7_copyFrom 1 = .ok (.aload_n 1, 1) := by decide +kernel
theorem dX7_copyFrom_2 : decode cX7_copyFrom 2 = .ok (.getfield 7, 3) := by decide +kernel
theorem dX7_copyFrom_5 : decode cX7_copyFrom 5 = .ok (.putfield 7, 3) := by decide +kernel
theorem dX7_copyFrom_8 : decode cX7_copyFrom 8 = .ok (.aload_n 0, 1) := by decide +kernel
theorem dX7_copyFrom_9 : decode cX7_copyFrom 9 = .ok (.aload_n 1, 1) := by decide +kernel
theorem dX7_copyFrom_10 : decode cX7_copyFrom 10 = .ok (.getfield 13, 3) := by decide +kernel
theorem dX7_copyFrom_13 : decode cX7_copyFrom 13 = .ok (.putfield 13, 3) := by decide +kernel
theorem dX7_copyFrom_16 : decode cX7_copyFrom 16 = .ok (.aload_n 0, 1) := by decide +kernel
theorem dX7_copyFrom_17 : decode cX7_copyFrom 17 = .ok (.aload_n 1, 1) := by decide +kernel
theorem dX7_copyFrom_18 : decode cX7_copyFrom 18 = .ok (.getfield 16, 3) := by decide +kernel
theorem dX7_copyFrom_21 : decode cX7_copyFrom 21 = .ok (.putfield 16, 3) := by decide +kernel
theorem dX7_copyFrom_24 : decode cX7_copyFrom 24 = .ok (.aload_n 0, 1) := by decide +kernel
theorem dX7_copyFrom_25 : decode cX7_copyFrom 25 = .ok (.aload_n 1, 1) := by decide +kernel
theorem dX7_copyFrom_26 : decode cX7_copyFrom 26 = .ok (.getfield 19, 3) := by decide +kernel
theorem dX7_copyFrom_29 : decode cX7_copyFrom 29 = .ok (.putfield 19, 3) := by decide +kernel
theorem dX7_copyFrom_32 : decode cX7_copyFrom 32 = .ok (.return_, 1) := by decide +kernel
def w_X7_copyFrom (i : Nat) (p0 : Nat) (mm : Mm) (Q9 : Mm → Prop) : Prop :=
  ∀ m_1 : Mm, m_1 = sI mm 4 i 0 (mm.1 4 p0 0) → (∀ m_2 : Mm, m_2 = sI m_1 4 i 1 (m_1.1 4 p0 1) → (∀ m_3 : Mm, m_3 = sI m_2 4 i 2 (m_2.1 4 p0 2) → (∀ m_4 : Mm, m_4 = sI m_3 4 i 3 (m_3.1 4 p0 3) → (Q9 m_4))))
def rm_X7_copyFrom : Room := { frames := 0, cells := 0, slots := 0, locals := 0 }
theorem hy_X7_copyFrom : yX7_copyFrom.cls = RX7 ∧ yX7_copyFrom.cls ≠ "java/lang/invoke/MethodHandle" ∧ yX7_copyFrom.cls ≠ "java/lang/invoke/VarHandle" ∧ (parseMethodDescriptor yX7_copyFrom.desc).map (fun d => d.parameters.length) = some 1 := by decide +kernel
set_option maxRecDepth 100000 in
set_option maxHeartbeats 4000000 in
theorem c_X7_copyFrom {l : Launch} {D : va_G} {cA : Nat → ClassId} {ad : Nat → Nat → Nat} {A : Nat → Prop} (ax : Ax ad GC A) (i : Nat) (hi : ok 4 i) (p0 : Nat) (hp0 : ok 4 p0) (mm : Mm) (Q9 : Mm → Prop) (h : w_X7_copyFrom i p0 mm Q9) : Met l yX7_copyFrom (.code yX7_copyFrom cX7_copyFrom 2 none :: TG) rm_X7_copyFrom (PcM TT D cA ad false GC (ZC ad A) [.ref (ad 4 i), .ref (ad 4 p0)] mm) (AnsV TT D cA ad false GC A Q9) 0 0 A := by
  have zo := ZC_ok ad A
  unfold w_X7_copyFrom at h
  refine enterV pl_X7 ⟨rfl, rfl⟩ rfl (Nat.le_of_ble_eq_true rfl) ?_
  intro p e s m args below meth c QQ X hK hZ hnm hE
  refine q_aload_n (j := 0) X dX7_copyFrom_0 rfl rfl ?_
  refine q_aload_n (j := 1) X dX7_copyFrom_1 rfl rfl ?_
  refine q_get (k := 0) (v := .int (mm.1 4 p0 0)) X hK rfl rfl (Nat.le_of_ble_eq_true rfl) inTX7 (gc (t := 4) (by decide) hp0) kw_1_138 rfl rfl dX7_copyFrom_2 ?_
  refine q_putI (k := 0) X ax hK rfl rfl (Nat.le_of_ble_eq_true rfl) inTX7 (gc (t := 4) (by decide) hi) tyX7 tyX7_ok nmX7 kw_1_138 rfl rfl (tyX7_ok 0 (Nat.le_of_ble_eq_true rfl)) rfl dX7_copyFrom_5 ?_
  refine q_nmP (fun m_1 em_1 => ?_)
  have h := h m_1 em_1
  refine q_aload_n (j := 0) X dX7_copyFrom_8 rfl rfl ?_
  refine q_aload_n (j := 1) X dX7_copyFrom_9 rfl rfl ?_
  refine q_get (k := 1) (v := .int (m_1.1 4 p0 1)) X hK rfl rfl (Nat.le_of_ble_eq_true rfl) inTX7 (gc (t := 4) (by decide) hp0) kw_1_141 rfl rfl dX7_copyFrom_10 ?_
  refine q_putI (k := 1) X ax hK rfl rfl (Nat.le_of_ble_eq_true rfl) inTX7 (gc (t := 4) (by decide) hi) tyX7 tyX7_ok nmX7 kw_1_141 rfl rfl (tyX7_ok 1 (Nat.le_of_ble_eq_true rfl)) rfl dX7_copyFrom_13 ?_
  refine q_nmP (fun m_2 em_2 => ?_)
  have h := h m_2 em_2
  refine q_aload_n (j := 0) X dX7_copyFrom_16 rfl rfl ?_
  refine q_aload_n (j := 1) X dX7_copyFrom_17 rfl rfl ?_
  refine q_get (k := 2) (v := .int (m_2.1 4 p0 2)) X hK rfl rfl (Nat.le_of_ble_eq_true rfl) inTX7 (gc (t := 4) (by decide) hp0) kw_1_145 rfl rfl dX7_copyFrom_18 ?_
  refine q_putI (k := 2) X ax hK rfl rfl (Nat.le_of_ble_eq_true rfl) inTX7 (gc (t := 4) (by decide) hi) tyX7 tyX7_ok nmX7 kw_1_145 rfl rfl (tyX7_ok 2 (Nat.le_of_ble_eq_true rfl)) rfl dX7_copyFrom_21 ?_
  refine q_nmP (fun m_3 em_3 => ?_)
  have h := h m_3 em_3
  refine q_aload_n (j := 0) X dX7_copyFrom_24 rfl rfl ?_
  refine q_aload_n (j := 1) X dX7_copyFrom_25 rfl rfl ?_
  refine q_get (k := 3) (v := .int (m_3.1 4 p0 3)) X hK rfl rfl (Nat.le_of_ble_eq_true rfl) inTX7 (gc (t := 4) (by decide) hp0) kw_1_148 rfl rfl dX7_copyFrom_26 ?_
  refine q_putI (k := 3) X ax hK rfl rfl (Nat.le_of_ble_eq_true rfl) inTX7 (gc (t := 4) (by decide) hi) tyX7 tyX7_ok nmX7 kw_1_148 rfl rfl (tyX7_ok 3 (Nat.le_of_ble_eq_true rfl)) rfl dX7_copyFrom_29 ?_
  refine q_nmP (fun m_4 em_4 => ?_)
  have h := h m_4 em_4
  exact hE _ _ _ dX7_copyFrom_32 h
theorem dX0_copyFrom_0 : decode cX0_copyFrom 0 = .ok (.aload_n 0, 1) := by decide +kernel
theorem dX0_copyFrom_1 : decode cX0_copyFrom 1 = .ok (.aload_n 1, 1) := by decide +kernel
theorem dX0_copyFrom_2 : decode cX0_copyFrom 2 = .ok (.getfield 9, 3) := by decide +kernel
theorem dX0_copyFrom_5 : decode cX0_copyFrom 5 = .ok (.putfield 9, 3) := by decide +kernel
theorem dX0_copyFrom_8 : decode cX0_copyFrom 8 = .ok (.aload_n 0, 1) := by decide +kernel
theorem dX0_copyFrom_9 : decode cX0_copyFrom 9 = .ok (.aload_n 1, 1) := by decide +kernel
theorem dX0_copyFrom_10 : decode cX0_copyFrom 10 = .ok (.getfield 15, 3) := by decide +kernel
theorem dX0_copyFrom_13 : decode cX0_copyFrom 13 = .ok (.putfield 15, 3) := by decide +kernel
theorem dX0_copyFrom_16 : decode cX0_copyFrom 16 = .ok (.return_, 1) := by decide +kernel
def w_X0_copyFrom (i : Nat) (p0 : Nat) (mm : Mm) (Q9 : Mm → Prop) : Prop :=
  ∀ m_1 : Mm, m_1 = sI mm 5 i 0 (mm.1 5 p0 0) → (isB (m_1.1 5 p0 1) ∧ ∀ m_2 : Mm, m_2 = sI m_1 5 i 1 (m_1.1 5 p0 1) → (Q9 m_2))
def rm_X0_copyFrom : Room := { frames := 0, cells := 0, slots := 0, locals := 0 }
theorem hy_X0_copyFrom : yX0_copyFrom.cls = RX0 ∧ yX0_copyFrom.cls ≠ "java/lang/invoke/MethodHandle" ∧ yX0_copyFrom.cls ≠ "java/lang/invoke/VarHandle" ∧ (parseMethodDescriptor yX0_copyFrom.desc).map (fun d => d.parameters.length) = some 1 := by decide +kernel
set_option maxRecDepth 100000 in
set_option maxHeartbeats 4000000 in
theorem c_X0_copyFrom {l : Launch} {D : va_G} {cA : Nat → ClassId} {ad : Nat → Nat → Nat} {A : Nat → Prop} (ax : Ax ad GC A) (i : Nat) (hi : ok 5 i) (p0 : Nat) (hp0 : ok 5 p0) (mm : Mm) (Q9 : Mm → Prop) (h : w_X0_copyFrom i p0 mm Q9) : Met l yX0_copyFrom (.code yX0_copyFrom cX0_copyFrom 2 none :: TG) rm_X0_copyFrom (PcM TT D cA ad false GC (ZC ad A) [.ref (ad 5 i), .ref (ad 5 p0)] mm) (AnsV TT D cA ad false GC A Q9) 0 0 A := by
  have zo := ZC_ok ad A
  unfold w_X0_copyFrom at h
  refine enterV pl_X0 ⟨rfl, rfl⟩ rfl (Nat.le_of_ble_eq_true rfl) ?_
  intro p e s m args below meth c QQ X hK hZ hnm hE
  refine q_aload_n (j := 0) X dX0_copyFrom_0 rfl rfl ?_
  refine q_aload_n (j := 1) X dX0_copyFrom_1 rfl rfl ?_
  refine q_get (k := 0) (v := .int (mm.1 5 p0 0)) X hK rfl rfl (Nat.le_of_ble_eq_true rfl) inTX0 (gc (t := 5) (by decide) hp0) kw_1_166 rfl rfl dX0_copyFrom_2 ?_
  refine q_putI (k := 0) X ax hK rfl rfl (Nat.le_of_ble_eq_true rfl) inTX0 (gc (t := 5) (by decide) hi) tyX0 tyX0_ok nmX0 kw_1_166 rfl rfl (tyX0_ok 0 (Nat.le_of_ble_eq_true rfl)) rfl dX0_copyFrom_5 ?_
  refine q_nmP (fun m_1 em_1 => ?_)
  have h := h m_1 em_1
  refine q_aload_n (j := 0) X dX0_copyFrom_8 rfl rfl ?_
  refine q_aload_n (j := 1) X dX0_copyFrom_9 rfl rfl ?_
  refine q_get (k := 1) (v := .int (m_1.1 5 p0 1)) X hK rfl rfl (Nat.le_of_ble_eq_true rfl) inTX0 (gc (t := 5) (by decide) hp0) kw_1_169 rfl rfl dX0_copyFrom_10 ?_
  obtain ⟨b_3, h⟩ := h
  refine q_putB (k := 1) X ax hK rfl rfl (Nat.le_of_ble_eq_true rfl) inTX0 (gc (t := 5) (by decide) hi) tyX0 tyX0_ok nmX0 kw_1_169 rfl rfl (tyX0_ok 1 (Nat.le_of_ble_eq_true rfl)) b_3 rfl dX0_copyFrom_13 ?_
  refine q_nmP (fun m_2 em_2 => ?_)
  have h := h m_2 em_2
  exact hE _ _ _ dX0_copyFrom_16 h
theorem dX5_copyFrom_0 : decode cX5_copyFrom 0 = .ok (.aload_n 0, 1) := by decide +kernel
theorem dX5_copyFrom_1 : decode cX5_copyFrom 1 = .ok (.aload_n 1, 1) := by decide +kernel
theorem dX5_copyFrom_2 : decode cX5_copyFrom 2 = .ok (.getfield 9, 3) := by decide +kernel
theorem dX5_copyFrom_5 : decode cX5_copyFrom 5 = .ok (.putfield 9, 3) := by decide +kernel
theorem dX5_copyFrom_8 : decode cX5_copyFrom 8 = .ok (.aload_n 0, 1) := by decide +kernel
theorem dX5_copyFrom_9 : decode cX5_copyFrom 9 = .ok (.aload_n 1, 1) := by decide +kernel
theorem dX5_copyFrom_10 : decode cX5_copyFrom 10 = .ok (.getfield 15, 3) := by decide +kernel
theorem dX5_copyFrom_13 : decode cX5_copyFrom 13 = .ok (.putfield 15, 3) := by decide +kernel
theorem dX5_copyFrom_16 : decode cX5_copyFrom 16 = .ok (.aload_n 0, 1) := by decide +kernel
theorem dX5_copyFrom_17 : decode cX5_copyFrom 17 = .ok (.aload_n 1, 1) := by decide +kernel
theorem dX5_copyFrom_18 : decode cX5_copyFrom 18 = .ok (.getfield 18, 3) := by decide +kernel
theorem dX5_copyFrom_21 : decode cX5_copyFrom 21 = .ok (.putfield 18, 3) := by decide +kernel
theorem dX5_copyFrom_24 : decode cX5_copyFrom 24 = .ok (.aload_n 0, 1) := by decide +kernel
theorem dX5_copyFrom_25 : decode cX5_copyFrom 25 = .ok (.aload_n 1, 1) := by decide +kernel
theorem dX5_copyFrom_26 : decode cX5_copyFrom 26 = .ok (.getfield 21, 3) := by decide +kernel
theorem dX5_copyFrom_29 : decode cX5_copyFrom 29 = .ok (.putfield 21, 3) := by decide +kernel
theorem dX5_copyFrom_32 : decode cX5_copyFrom 32 = .ok (.aload_n 0, 1) := by decide +kernel
theorem dX5_copyFrom_33 : decode cX5_copyFrom 33 = .ok (.aload_n 1, 1) := by decide +kernel
theorem dX5_copyFrom_34 : decode cX5_copyFrom 34 = .ok (.getfield 24, 3) := by decide +kernel
theorem dX5_copyFrom_37 : decode cX5_copyFrom 37 = .ok (.putfield 24, 3) := by decide +kernel
theorem dX5_copyFrom_40 : decode cX5_copyFrom 40 = .ok (.aload_n 0, 1) := by decide +kernel
theorem dX5_copyFrom_41 : decode cX5_copyFrom 41 = .ok (.aload_n 1, 1) := by decide +kernel
theorem dX5_copyFrom_42 : decode cX5_copyFrom 42 = .ok (.getfield 27, 3) := by decide +kernel
theorem dX5_copyFrom_45 : decode cX5_copyFrom 45 = .ok (.putfield 27, 3) := by decide +kernel
theorem dX5_copyFrom_48 : decode cX5_copyFrom 48 = .ok (.aload_n 0, 1) := by decide +kernel
theorem dX5_copyFrom_49 : decode cX5_copyFrom 49 = .ok (.aload_n 1, 1) := by decide +kernel
theorem dX5_copyFrom_50 : decode cX5_copyFrom 50 = .ok (.getfield 30, 3) := by decide +kernel
theorem dX5_copyFrom_53 : decode cX5_copyFrom 53 = .ok (.putfield 30, 3) := by decide +kernel
theorem dX5_copyFrom_56 : decode cX5_copyFrom 56 = .ok (.aload_n 0, 1) := by decide +kernel
theorem dX5_copyFrom_57 : decode cX5_copyFrom 57 = .ok (.aload_n 1, 1) := by decide +kernel
theorem dX5_copyFrom_58 : decode cX5_copyFrom 58 = .ok (.getfield 33, 3) := by decide +kernel
theorem dX5_copyFrom_61 : decode cX5_copyFrom 61 = .ok (.putfield 33, 3) := by decide +kernel
theorem dX5_copyFrom_64 : decode cX5_copyFrom 64 = .ok (.return_, 1) := by decide +kernel
def w_X5_copyFrom (i : Nat) (p0 : Nat) (mm : Mm) (Q9 : Mm → Prop) : Prop :=
  ∀ m_1 : Mm, m_1 = sI mm 6 i 0 (mm.1 6 p0 0) → (∀ m_2 : Mm, m_2 = sI m_1 6 i 1 (m_1.1 6 p0 1) → (∀ m_3 : Mm, m_3 = sI m_2 6 i 2 (m_2.1 6 p0 2) → (∀ m_4 : Mm, m_4 = sI m_3 6 i 3 (m_3.1 6 p0 3) → (∀ m_5 : Mm, m_5 = sI m_4 6 i 4 (m_4.1 6 p0 4) → (∀ m_6 : Mm, m_6 = sI m_5 6 i 5 (m_5.1 6 p0 5) → (∀ m_7 : Mm, m_7 = sI m_6 6 i 6 (m_6.1 6 p0 6) → (∀ m_8 : Mm, m_8 = sI m_7 6 i 7 (m_7.1 6 p0 7) → (Q9 m_8))))))))
def rm_X5_copyFrom : Room := { frames := 0, cells := 0, slots := 0, locals := 0 }
theorem hy_X5_copyFrom : yX5_copyFrom.cls = RX5 ∧ yX5_copyFrom.cls ≠ "java/lang/invoke/MethodHandle" ∧ yX5_copyFrom.cls ≠ "java/lang/invoke/VarHandle" ∧ (parseMethodDescriptor yX5_copyFrom.desc).map (fun d => d.parameters.length) = some 1 := by decide +kernel
set_option maxRecDepth 100000 in
set_option maxHeartbeats 4000000 in
theorem c_X5_copyFrom {l : Launch} {D : va_G} {cA : Nat → ClassId} {ad : Nat → Nat → Nat} {A : Nat → Prop} (ax : Ax ad GC A) (i : Nat) (hi : ok 6 i) (p0 : Nat) (hp0 : ok 6 p0) (mm : Mm) (Q9 : Mm → Prop) (h : w_X5_copyFrom i p0 mm Q9) : Met l yX5_copyFrom (.code yX5_copyFrom cX5_copyFrom 2 none :: TG) rm_X5_copyFrom (PcM TT D cA ad false GC (ZC ad A) [.ref (ad 6 i), .ref (ad 6 p0)] mm) (AnsV TT D cA ad false GC A Q9) 0 0 A := by
  have zo := ZC_ok ad A
  unfold w_X5_copyFrom at h
  refine enterV pl_X5 ⟨rfl, rfl⟩ rfl (Nat.le_of_ble_eq_true rfl) ?_
  intro p e s m args below meth c QQ X hK hZ hnm hE
  refine q_aload_n (j := 0) X dX5_copyFrom_0 rfl rfl ?_
  refine q_aload_n (j := 1) X dX5_copyFrom_1 rfl rfl ?_
  refine q_get (k := 0) (v := .int (mm.1 6 p0 0)) X hK rfl rfl (Nat.le_of_ble_eq_true rfl) inTX5 (gc (t := 6) (by decide) hp0) kw_1_186 rfl rfl dX5_copyFrom_2 ?_
  refine q_putI (k := 0) X ax hK rfl rfl (Nat.le_of_ble_eq_true rfl) inTX5 (gc (t := 6) (by decide) hi) tyX5 tyX5_ok nmX5 kw_1_186 rfl rfl (tyX5_ok 0 (Nat.le_of_ble_eq_true rfl)) rfl dX5_copyFrom_5 ?_
  refine q_nmP (fun m_1 em_1 => ?_)
  have h := h m_1 em_1
  refine q_aload_n (j := 0) X dX5_copyFrom_8 rfl rfl ?_
  refine q_aload_n (j := 1) X dX5_copyFrom_9 rfl rfl ?_
  refine q_get (k := 1) (v := .int (m_1.1 6 p0 1)) X hK rfl rfl (Nat.le_of_ble_eq_true rfl) inTX5 (gc (t := 6) (by decide) hp0) kw_1_189 rfl rfl dX5_copyFrom_10 ?_
  refine q_putI (k := 1) X ax hK rfl rfl (Nat.le_of_ble_eq_true rfl) inTX5 (gc (t := 6) (by decide) hi) tyX5 tyX5_ok nmX5 kw_1_189 rfl rfl (tyX5_ok 1 (Nat.le_of_ble_eq_true rfl)) rfl dX5_copyFrom_13 ?_
  refine q_nmP (fun m_2 em_2 => ?_)
  have h := h m_2 em_2
  refine q_aload_n (j := 0) X dX5_copyFrom_16 rfl rfl ?_
  refine q_aload_n (j := 1) X dX5_copyFrom_17 rfl rfl ?_
  refine q_get (k := 2) (v := .int (m_2.1 6 p0 2)) X hK rfl rfl (Nat.le_of_ble_eq_true rfl) inTX5 (gc (t := 6) (by decide) hp0) kw_1_192 rfl rfl dX5_copyFrom_18 ?_
  refine q_putI (k := 2) X ax hK rfl rfl (Nat.le_of_ble_eq_true rfl) inTX5 (gc (t := 6) (by decide) hi) tyX5 tyX5_ok nmX5 kw_1_192 rfl rfl (tyX5_ok 2 (Nat.le_of_ble_eq_true rfl)) rfl dX5_copyFrom_21 ?_
  refine q_nmP (fun m_3 em_3 => ?_)
  have h := h m_3 em_3
  refine q_aload_n (j := 0) X dX5_copyFrom_24 rfl rfl ?_
  refine q_aload_n (j := 1) X dX5_copyFrom_25 rfl rfl ?_
  refine q_get (k := 3) (v := .int (m_3.1 6 p0 3)) X hK rfl rfl (Nat.le_of_ble_eq_true rfl) inTX5 (gc (t := 6) (by decide) hp0) kw_1_195 rfl rfl dX5_copyFrom_26 ?_
  refine q_putI (k := 3) X ax hK rfl rfl (Nat.le_of_ble_eq_true rfl) inTX5 (gc (t := 6) (by decide) hi) tyX5 tyX5_ok nmX5 kw_1_195 rfl rfl (tyX5_ok 3 (Nat.le_of_ble_eq_true rfl)) rfl dX5_copyFrom_29 ?_
  refine q_nmP (fun m_4 em_4 => ?_)
  have h := h m_4 em_4
  refine q_aload_n (j := 0) X dX5_copyFrom_32 rfl rfl ?_
  refine q_aload_n (j := 1) X dX5_copyFrom_33 rfl rfl ?_
  refine q_get (k := 4) (v := .int (m_4.1 6 p0 4)) X hK rfl rfl (Nat.le_of_ble_eq_true rfl) inTX5 (gc (t := 6) (by decide) hp0) kw_1_198 rfl rfl dX5_copyFrom_34 ?_
  refine q_putI (k := 4) X ax hK rfl rfl (Nat.le_of_ble_eq_true rfl) inTX5 (gc (t := 6) (by decide) hi) tyX5 tyX5_ok nmX5 kw_1_198 rfl rfl (tyX5_ok 4 (Nat.le_of_ble_eq_true rfl)) rfl dX5_copyFrom_37 ?_
  refine q_nmP (fun m_5 em_5 => ?_)
  have h := h m_5 em_5
  refine q_aload_n (j := 0) X dX5_copyFrom_40 rfl rfl ?_
  refine q_aload_n (j := 1) X dX5_copyFrom_41 rfl rfl ?_
  refine q_get (k := 5) (v := .int (m_5.1 6 p0 5)) X hK rfl rfl (Nat.le_of_ble_eq_true rfl) inTX5 (gc (t := 6) (by decide) hp0) kw_1_201 rfl rfl dX5_copyFrom_42 ?_
  refine q_putI (k := 5) X ax hK rfl rfl (Nat.le_of_ble_eq_true rfl) inTX5 (gc (t := 6) (by decide) hi) tyX5 tyX5_ok nmX5 kw_1_201 rfl rfl (tyX5_ok 5 (Nat.le_of_ble_eq_true rfl)) rfl dX5_copyFrom_45 ?_
  refine q_nmP (fun m_6 em_6 => ?_)
  have h := h m_6 em_6
  refine q_aload_n (j := 0) X dX5_copyFrom_48 rfl rfl ?_
  refine q_aload_n (j := 1) X dX5_copyFrom_49 rfl rfl ?_
  refine q_get (k := 6) (v := .int (m_6.1 6 p0 6)) X hK rfl rfl (Nat.le_of_ble_eq_true rfl) inTX5 (gc (t := 6) (by decide) hp0) kw_1_204 rfl rfl dX5_copyFrom_50 ?_
  refine q_putI (k := 6) X ax hK rfl rfl (Nat.le_of_ble_eq_true rfl) inTX5 (gc (t := 6) (by decide) hi) tyX5 tyX5_ok nmX5 kw_1_204 rfl rfl (tyX5_ok 6 (Nat.le_of_ble_eq_true rfl)) rfl dX5_copyFrom_53 ?_
  refine q_nmP (fun m_7 em_7 => ?_)
  have h := h m_7 em_7
  refine q_aload_n (j := 0) X dX5_copyFrom_56 rfl rfl ?_
  refine q_aload_n (j := 1) X dX5_copyFrom_57 rfl rfl ?_
  refine q_get (k := 7) (v := .int (m_7.1 6 p0 7)) X hK rfl rfl (Nat.le_of_ble_eq_true rfl) inTX5 (gc (t := 6) (by decide) hp0) kw_1_207 rfl rfl dX5_copyFrom_58 ?_
  refine q_putI (k := 7) X ax hK rfl rfl (Nat.le_of_ble_eq_true rfl) inTX5 (gc (t := 6) (by decide) hi) tyX5 tyX5_ok nmX5 kw_1_207 rfl rfl (tyX5_ok 7 (Nat.le_of_ble_eq_true rfl)) rfl dX5_copyFrom_61 ?_
  refine q_nmP (fun m_8 em_8 => ?_)
  have h := h m_8 em_8
  exact hE _ _ _ dX5_copyFrom_64 h
theorem dX8_copyFrom_0 : decode cX8_copyFrom 0 = .ok (.aload_n 0, 1) := by decide +kernel
theorem dX8_copyFrom_1 : decode cX8_copyFrom 1 = .ok (.aload_n 1, 1) := by decide +kernel
theorem dX8_copyFrom_2 : decode cX8_copyFrom 2 = .ok (.getfield 58, 3) := by decide +kernel
theorem dX8_copyFrom_5 : decode cX8_copyFrom 5 = .ok (.putfield 58, 3) := by decide +kernel
theorem dX8_copyFrom_8 : decode cX8_copyFrom 8 = .ok (.aload_n 0, 1) := by decide +kernel
theorem dX8_copyFrom_9 : decode cX8_copyFrom 9 = .ok (.aload_n 1, 1) := by decide +kernel
theorem dX8_copyFrom_10 : decode cX8_copyFrom 10 = .ok (.getfield 62, 3) := by decide +kernel
theorem dX8_copyFrom_13 : decode cX8_copyFrom 13 = .ok (.putfield 62, 3) := by decide +kernel
theorem dX8_copyFrom_16 : decode cX8_copyFrom 16 = .ok (.aload_n 0, 1) := by decide +kernel
theorem dX8_copyFrom_17 : decode cX8_copyFrom 17 = .ok (.aload_n 1, 1) := by decide +kernel
theorem dX8_copyFrom_18 : decode cX8_copyFrom 18 = .ok (.getfield 65, 3) := by decide +kernel
theorem dX8_copyFrom_21 : decode cX8_copyFrom 21 = .ok (.putfield 65, 3) := by decide +kernel
theorem dX8_copyFrom_24 : decode cX8_copyFrom 24 = .ok (.aload_n 0, 1) := by decide +kernel
theorem dX8_copyFrom_25 : decode cX8_copyFrom 25 = .ok (.aload_n 1, 1) := by decide +kernel
theorem dX8_copyFrom_26 : decode cX8_copyFrom 26 = .ok (.getfield 68, 3) := by decide +kernel
theorem dX8_copyFrom_29 : decode cX8_copyFrom 29 = .ok (.putfield 68, 3) := by decide +kernel
theorem dX8_copyFrom_32 : decode cX8_copyFrom 32 = .ok (.aload_n 0, 1) := by decide +kernel
theorem dX8_copyFrom_33 : decode cX8_copyFrom 33 = .ok (.aload_n 1, 1) := by decide +kernel
theorem dX8_copyFrom_34 : decode cX8_copyFrom 34 = .ok (.getfield 71, 3) := by decide +kernel
theorem dX8_copyFrom_37 : decode cX8_copyFrom 37 = .ok (.putfield 71, 3) := by decide +kernel
theorem dX8_copyFrom_40 : decode cX8_copyFrom 40 = .ok (.aload_n 0, 1) := by decide +kernel
theorem dX8_copyFrom_41 : decode cX8_copyFrom 41 = .ok (.getfield 12, 3) := by decide +kernel
theorem dX8_copyFrom_44 : decode cX8_copyFrom 44 = .ok (.aload_n 1, 1) := by decide +kernel
theorem dX8_copyFrom_45 : decode cX8_copyFrom 45 = .ok (.getfield 12, 3) := by decide +kernel
theorem dX8_copyFrom_48 : decode cX8_copyFrom 48 = .ok (.invokevirtual 74, 3) := by decide +kernel
theorem dX8_copyFrom_51 : decode cX8_copyFrom 51 = .ok (.iconst 0, 1) := by decide +kernel
theorem dX8_copyFrom_52 : decode cX8_copyFrom 52 = .ok (.istore_n 2, 1) := by decide +kernel
theorem dX8_copyFrom_53 : decode cX8_copyFrom 53 = .ok (.iload_n 2, 1) := by decide +kernel
theorem dX8_copyFrom_54 : decode cX8_copyFrom 54 = .ok (.aload_n 0, 1) := by decide +kernel
theorem dX8_copyFrom_55 : decode cX8_copyFrom 55 = .ok (.getfield 62, 3) := by decide +kernel
theorem dX8_copyFrom_58 : decode cX8_copyFrom 58 = .ok (.if_icmp .ge 24, 3) := by decide +kernel
theorem dX8_copyFrom_61 : decode cX8_copyFrom 61 = .ok (.aload_n 0, 1) := by decide +kernel
theorem dX8_copyFrom_62 : decode cX8_copyFrom 62 = .ok (.getfield 20, 3) := by decide +kernel
theorem dX8_copyFrom_65 : decode cX8_copyFrom 65 = .ok (.iload_n 2, 1) := by decide +kernel
theorem dX8_copyFrom_66 : decode cX8_copyFrom 66 = .ok (.aaload, 1) := by decide +kernel
theorem dX8_copyFrom_67 : decode cX8_copyFrom 67 = .ok (.aload_n 1, 1) := by decide +kernel
theorem dX8_copyFrom_68 : decode cX8_copyFrom 68 = .ok (.getfield 20, 3) := by decide +kernel
theorem dX8_copyFrom_71 : decode cX8_copyFrom 71 = .ok (.iload_n 2, 1) := by decide +kernel
theorem dX8_copyFrom_72 : decode cX8_copyFrom 72 = .ok (.aaload, 1) := by decide +kernel
theorem dX8_copyFrom_73 : decode cX8_copyFrom 73 = .ok (.invokevirtual 78, 3) := by decide +kernel
theorem dX8_copyFrom_76 : decode cX8_copyFrom 76 = .ok (.iinc 2 1, 3) := by decide +kernel
theorem dX8_copyFrom_79 : decode cX8_copyFrom 79 = .ok (.goto (-26), 3) := by decide +kernel
theorem dX8_copyFrom_82 : decode cX8_copyFrom 82 = .ok (.iconst 0, 1) := by decide +kernel
theorem dX8_copyFrom_83 : decode cX8_copyFrom 83 = .ok (.istore_n 2, 1) := by decide +kernel
theorem dX8_copyFrom_84 : decode cX8_copyFrom 84 = .ok (.iload_n 2, 1) := by decide +kernel
theorem dX8_copyFrom_85 : decode cX8_copyFrom 85 = .ok (.aload_n 0, 1) := by decide +kernel
theorem dX8_copyFrom_86 : decode cX8_copyFrom 86 = .ok (.getfield 71, 3) := by decide +kernel
theorem dX8_copyFrom_89 : decode cX8_copyFrom 89 = .ok (.if_icmp .ge 24, 3) := by decide +kernel
theorem dX8_copyFrom_92 : decode cX8_copyFrom 92 = .ok (.aload_n 0, 1) := by decide +kernel
theorem dX8_copyFrom_93 : decode cX8_copyFrom 93 = .ok (.getfield 26, 3) := by decide +kernel
theorem dX8_copyFrom_96 : decode cX8_copyFrom 96 = .ok (.iload_n 2, 1) := by decide +kernel
theorem dX8_copyFrom_97 : decode cX8_copyFrom 97 = .ok (.aaload, 1) := by decide +kernel
theorem dX8_copyFrom_98 : decode cX8_copyFrom 98 = .ok (.aload_n 1, 1) := by decide +kernel
theorem dX8_copyFrom_99 : decode cX8_copyFrom 99 = .ok (.getfield 26, 3) := by decide +kernel
theorem dX8_copyFrom_102 : decode cX8_copyFrom 102 = .ok (.iload_n 2, 1) := by decide +kernel
theorem dX8_copyFrom_103 : decode cX8_copyFrom 103 = .ok (.aaload, 1) := by decide +kernel
theorem dX8_copyFrom_104 : decode cX8_copyFrom 104 = .ok (.invokevirtual 81, 3) := by decide +kernel
theorem dX8_copyFrom_107 : decode cX8_copyFrom 107 = .ok (.iinc 2 1, 3) := by decide +kernel
theorem dX8_copyFrom_110 : decode cX8_copyFrom 110 = .ok (.goto (-26), 3) := by decide +kernel
theorem dX8_copyFrom_113 : decode cX8_copyFrom 113 = .ok (.iconst 0, 1) := by decide +kernel
theorem dX8_copyFrom_114 : decode cX8_copyFrom 114 = .ok (.istore_n 2, 1) := by decide +kernel
theorem dX8_copyFrom_115 : decode cX8_copyFrom 115 = .ok (.iload_n 2, 1) := by decide +kernel
theorem dX8_copyFrom_116 : decode cX8_copyFrom 116 = .ok (.iconst 5, 1) := by decide +kernel
theorem dX8_copyFrom_117 : decode cX8_copyFrom 117 = .ok (.if_icmp .ge 24, 3) := by decide +kernel
theorem dX8_copyFrom_120 : decode cX8_copyFrom 120 = .ok (.aload_n 0, 1) := by decide +kernel
theorem dX8_copyFrom_121 : decode cX8_copyFrom 121 = .ok (.getfield 32, 3) := by decide +kernel
theorem dX8_copyFrom_124 : decode cX8_copyFrom 124 = .ok (.iload_n 2, 1) := by decide +kernel
theorem dX8_copyFrom_125 : decode cX8_copyFrom 125 = .ok (.aaload, 1) := by decide +kernel
theorem dX8_copyFrom_126 : decode cX8_copyFrom 126 = .ok (.aload_n 1, 1) := by decide +kernel
theorem dX8_copyFrom_127 : decode cX8_copyFrom 127 = .ok (.getfield 32, 3) := by decide +kernel
theorem dX8_copyFrom_130 : decode cX8_copyFrom 130 = .ok (.iload_n 2, 1) := by decide +kernel
theorem dX8_copyFrom_131 : decode cX8_copyFrom 131 = .ok (.aaload, 1) := by decide +kernel
theorem dX8_copyFrom_132 : decode cX8_copyFrom 132 = .ok (.invokevirtual 84, 3) := by decide +kernel
theorem dX8_copyFrom_135 : decode cX8_copyFrom 135 = .ok (.iinc 2 1, 3) := by decide +kernel
theorem dX8_copyFrom_138 : decode cX8_copyFrom 138 = .ok (.goto (-23), 3) := by decide +kernel
theorem dX8_copyFrom_141 : decode cX8_copyFrom 141 = .ok (.iconst 0, 1) := by decide +kernel
theorem dX8_copyFrom_142 : decode cX8_copyFrom 142 = .ok (.istore_n 2, 1) := by decide +kernel
theorem dX8_copyFrom_143 : decode cX8_copyFrom 143 = .ok (.iload_n 2, 1) := by decide +kernel
theorem dX8_copyFrom_144 : decode cX8_copyFrom 144 = .ok (.bipush 6, 2) := by decide +kernel
theorem dX8_copyFrom_146 : decode cX8_copyFrom 146 = .ok (.if_icmp .ge 24, 3) := by decide +kernel
theorem dX8_copyFrom_149 : decode cX8_copyFrom 149 = .ok (.aload_n 0, 1) := by decide +kernel
theorem dX8_copyFrom_150 : decode cX8_copyFrom 150 = .ok (.getfield 38, 3) := by decide +kernel
theorem dX8_copyFrom_153 : decode cX8_copyFrom 153 = .ok (.iload_n 2, 1) := by decide +kernel
theorem dX8_copyFrom_154 : decode cX8_copyFrom 154 = .ok (.aaload, 1) := by decide +kernel
theorem dX8_copyFrom_155 : decode cX8_copyFrom 155 = .ok (.aload_n 1, 1) := by decide +kernel
theorem dX8_copyFrom_156 : decode cX8_copyFrom 156 = .ok (.getfield 38, 3) := by decide +kernel
theorem dX8_copyFrom_159 : decode cX8_copyFrom 159 = .ok (.iload_n 2, 1) := by decide +kernel
theorem dX8_copyFrom_160 : decode cX8_copyFrom 160 = .ok (.aaload, 1) := by decide +kernel
theorem dX8_copyFrom_161 : decode cX8_copyFrom 161 = .ok (.invokevirtual 87, 3) := by decide +kernel
theorem dX8_copyFrom_164 : decode cX8_copyFrom 164 = .ok (.iinc 2 1, 3) := by decide +kernel
theorem dX8_copyFrom_167 : decode cX8_copyFrom 167 = .ok (.goto (-24), 3) := by decide +kernel
theorem dX8_copyFrom_170 : decode cX8_copyFrom 170 = .ok (.return_, 1) := by decide +kernel
def w_X8_copyFrom_B143 (i : Nat) (p0 : Nat) (Q9 : Mm → Prop) (K_25 : Int32 → Mm → Prop) (y_23 : Int32) (m_24 : Mm) : Prop :=
  ((6 ≤ y_23 → Q9 m_24) ∧
  (¬ 6 ≤ y_23 → vp_in y_23 6 ∧ (w_X5_copyFrom (6 * (i - 1) + y_23.toNatClampNeg + 1) (6 * (p0 - 1) + y_23.toNatClampNeg + 1) m_24 (fun (m_30 : Mm) => ∀ x_31 : Int32, x_31 = y_23 + 1 → (K_25 x_31 m_30)))))
def w_X8_copyFrom_B115 (i : Nat) (p0 : Nat) (Q9 : Mm → Prop) (K_20 : Int32 → Mm → Prop) (y_18 : Int32) (m_19 : Mm) : Prop :=
  ((5 ≤ y_18 → ∃ n, itr (α := Int32 × Mm) (fun K a => w_X8_copyFrom_B143 i p0 Q9 (fun z0 z1 => K (z0, z1)) a.1 a.2) n (0, m_19)) ∧
  (¬ 5 ≤ y_18 → vp_in y_18 5 ∧ (w_X0_copyFrom (5 * (i - 1) + y_18.toNatClampNeg + 1) (5 * (p0 - 1) + y_18.toNatClampNeg + 1) m_19 (fun (m_35 : Mm) => ∀ x_36 : Int32, x_36 = y_18 + 1 → (K_20 x_36 m_35)))))
def w_X8_copyFrom_B84 (i : Nat) (p0 : Nat) (Q9 : Mm → Prop) (K_15 : Int32 → Mm → Prop) (y_13 : Int32) (m_14 : Mm) : Prop :=
  (((m_14.1 1 i 4) ≤ y_13 → ∃ n, itr (α := Int32 × Mm) (fun K a => w_X8_copyFrom_B115 i p0 Q9 (fun z0 z1 => K (z0, z1)) a.1 a.2) n (0, m_14)) ∧
  (¬ (m_14.1 1 i 4) ≤ y_13 → vp_in y_13 12 ∧ (ok 4 (m_14.2 8 p0 y_13.toNatClampNeg) ∧ ok 4 (m_14.2 8 i y_13.toNatClampNeg) ∧ w_X7_copyFrom (m_14.2 8 i y_13.toNatClampNeg) (m_14.2 8 p0 y_13.toNatClampNeg) m_14 (fun (m_42 : Mm) => ∀ x_43 : Int32, x_43 = y_13 + 1 → (K_15 x_43 m_42)))))
def w_X8_copyFrom_B53 (i : Nat) (p0 : Nat) (Q9 : Mm → Prop) (K_10 : Int32 → Mm → Prop) (y_8 : Int32) (m_9 : Mm) : Prop :=
  (((m_9.1 1 i 1) ≤ y_8 → ∃ n, itr (α := Int32 × Mm) (fun K a => w_X8_copyFrom_B84 i p0 Q9 (fun z0 z1 => K (z0, z1)) a.1 a.2) n (0, m_9)) ∧
  (¬ (m_9.1 1 i 1) ≤ y_8 → vp_in y_8 16 ∧ (ok 3 (m_9.2 7 p0 y_8.toNatClampNeg) ∧ ok 3 (m_9.2 7 i y_8.toNatClampNeg) ∧ w_X2_copyFrom (m_9.2 7 i y_8.toNatClampNeg) (m_9.2 7 p0 y_8.toNatClampNeg) m_9 (fun (m_49 : Mm) => ∀ x_50 : Int32, x_50 = y_8 + 1 → (K_10 x_50 m_49)))))
def w_X8_copyFrom (i : Nat) (p0 : Nat) (mm : Mm) (Q9 : Mm → Prop) : Prop :=
  ∀ m_1 : Mm, m_1 = sI mm 1 i 0 (mm.1 1 p0 0) → (∀ m_2 : Mm, m_2 = sI m_1 1 i 1 (m_1.1 1 p0 1) → (∀ m_3 : Mm, m_3 = sI m_2 1 i 2 (m_2.1 1 p0 2) → (∀ m_4 : Mm, m_4 = sI m_3 1 i 3 (m_3.1 1 p0 3) → (∀ m_5 : Mm, m_5 = sI m_4 1 i 4 (m_4.1 1 p0 4) → (w_X6_copyFrom i p0 m_5 (fun (m_7 : Mm) => ∃ n, itr (α := Int32 × Mm) (fun K a => w_X8_copyFrom_B53 i p0 Q9 (fun z0 z1 => K (z0, z1)) a.1 a.2) n (0, m_7)))))))
def rm_X8_copyFrom : Room := { frames := 1, cells := 0, slots := 0, locals := 21 }
theorem hy_X8_copyFrom : yX8_copyFrom.cls = RX8 ∧ yX8_copyFrom.cls ≠ "java/lang/invoke/MethodHandle" ∧ yX8_copyFrom.cls ≠ "java/lang/invoke/VarHandle" ∧ (parseMethodDescriptor yX8_copyFrom.desc).map (fun d => d.parameters.length) = some 1 := by decide +kernel
set_option maxRecDepth 100000 in
set_option maxHeartbeats 4000000 in
theorem c_X8_copyFrom {l : Launch} {D : va_G} {cA : Nat → ClassId} {ad : Nat → Nat → Nat} {A : Nat → Prop} (ax : Ax ad GC A) (i : Nat) (hi : ok 1 i) (p0 : Nat) (hp0 : ok 1 p0) (mm : Mm) (Q9 : Mm → Prop) (h : w_X8_copyFrom i p0 mm Q9) : Met l yX8_copyFrom (.code yX8_copyFrom cX8_copyFrom 3 none :: TG) rm_X8_copyFrom (PcM TT D cA ad false GC (ZC ad A) [.ref (ad 1 i), .ref (ad 1 p0)] mm) (AnsV TT D cA ad false GC A Q9) 0 0 A := by
  have zo := ZC_ok ad A
  unfold w_X8_copyFrom at h
  refine enterV pl_X8 ⟨rfl, rfl⟩ rfl (Nat.le_of_ble_eq_true rfl) ?_
  intro p e s m args below meth c QQ X hK hZ hnm hE
  refine q_aload_n (j := 0) X dX8_copyFrom_0 rfl rfl ?_
  refine q_aload_n (j := 1) X dX8_copyFrom_1 rfl rfl ?_
  refine q_get (k := 0) (v := .int (mm.1 1 p0 0)) X hK rfl rfl (Nat.le_of_ble_eq_true rfl) inTX8 (gc (t := 1) (by decide) hp0) kw_1_227 rfl rfl dX8_copyFrom_2 ?_
  refine q_putI (k := 0) X ax hK rfl rfl (Nat.le_of_ble_eq_true rfl) inTX8 (gc (t := 1) (by decide) hi) tyX8 tyX8_ok nmX8 kw_1_227 rfl rfl (tyX8_ok 0 (Nat.le_of_ble_eq_true rfl)) rfl dX8_copyFrom_5 ?_
  refine q_nmP (fun m_1 em_1 => ?_)
  have h := h m_1 em_1
  refine q_aload_n (j := 0) X dX8_copyFrom_8 rfl rfl ?_
  refine q_aload_n (j := 1) X dX8_copyFrom_9 rfl rfl ?_
  refine q_get (k := 1) (v := .int (m_1.1 1 p0 1)) X hK rfl rfl (Nat.le_of_ble_eq_true rfl) inTX8 (gc (t := 1) (by decide) hp0) kw_1_230 rfl rfl dX8_copyFrom_10 ?_
  refine q_putI (k := 1) X ax hK rfl rfl (Nat.le_of_ble_eq_true rfl) inTX8 (gc (t := 1) (by decide) hi) tyX8 tyX8_ok nmX8 kw_1_230 rfl rfl (tyX8_ok 1 (Nat.le_of_ble_eq_true rfl)) rfl dX8_copyFrom_13 ?_
  refine q_nmP (fun m_2 em_2 => ?_)
  have h := h m_2 em_2
  refine q_aload_n (j := 0) X dX8_copyFrom_16 rfl rfl ?_
  refine q_aload_n (j := 1) X dX8_copyFrom_17 rfl rfl ?_
  refine q_get (k := 2) (v := .int (m_2.1 1 p0 2)) X hK rfl rfl (Nat.le_of_ble_eq_true rfl) inTX8 (gc (t := 1) (by decide) hp0) kw_1_233 rfl rfl dX8_copyFrom_18 ?_
  refine q_putI (k := 2) X ax hK rfl rfl (Nat.le_of_ble_eq_true rfl) inTX8 (gc (t := 1) (by decide) hi) tyX8 tyX8_ok nmX8 kw_1_233 rfl rfl (tyX8_ok 2 (Nat.le_of_ble_eq_true rfl)) rfl dX8_copyFrom_21 ?_
  refine q_nmP (fun m_3 em_3 => ?_)
  have h := h m_3 em_3
  refine q_aload_n (j := 0) X dX8_copyFrom_24 rfl rfl ?_
  refine q_aload_n (j := 1) X dX8_copyFrom_25 rfl rfl ?_
  refine q_get (k := 3) (v := .int (m_3.1 1 p0 3)) X hK rfl rfl (Nat.le_of_ble_eq_true rfl) inTX8 (gc (t := 1) (by decide) hp0) kw_1_235 rfl rfl dX8_copyFrom_26 ?_
  refine q_putI (k := 3) X ax hK rfl rfl (Nat.le_of_ble_eq_true rfl) inTX8 (gc (t := 1) (by decide) hi) tyX8 tyX8_ok nmX8 kw_1_235 rfl rfl (tyX8_ok 3 (Nat.le_of_ble_eq_true rfl)) rfl dX8_copyFrom_29 ?_
  refine q_nmP (fun m_4 em_4 => ?_)
  have h := h m_4 em_4
  refine q_aload_n (j := 0) X dX8_copyFrom_32 rfl rfl ?_
  refine q_aload_n (j := 1) X dX8_copyFrom_33 rfl rfl ?_
  refine q_get (k := 4) (v := .int (m_4.1 1 p0 4)) X hK rfl rfl (Nat.le_of_ble_eq_true rfl) inTX8 (gc (t := 1) (by decide) hp0) kw_1_237 rfl rfl dX8_copyFrom_34 ?_
  refine q_putI (k := 4) X ax hK rfl rfl (Nat.le_of_ble_eq_true rfl) inTX8 (gc (t := 1) (by decide) hi) tyX8 tyX8_ok nmX8 kw_1_237 rfl rfl (tyX8_ok 4 (Nat.le_of_ble_eq_true rfl)) rfl dX8_copyFrom_37 ?_
  refine q_nmP (fun m_5 em_5 => ?_)
  have h := h m_5 em_5
  refine q_aload_n (j := 0) X dX8_copyFrom_40 rfl rfl ?_
  refine q_get (k := 5) (v := .ref (ad 2 i)) X hK rfl rfl (Nat.le_of_ble_eq_true rfl) inTX8 (gc (t := 1) (by decide) hi) kw_1_239 rfl (rv_nn (a := ad 2) (r := i) hi.1) dX8_copyFrom_41 ?_
  refine q_aload_n (j := 1) X dX8_copyFrom_44 rfl rfl ?_
  refine q_get (k := 5) (v := .ref (ad 2 p0)) X hK rfl rfl (Nat.le_of_ble_eq_true rfl) inTX8 (gc (t := 1) (by decide) hp0) kw_1_239 rfl (rv_nn (a := ad 2) (r := p0) hp0.1) dX8_copyFrom_45 ?_
  refine q_callv (q_runVN X hK hZ zo (gc (t := 2) (by decide) hi) rfl rfl [.ref (ad 2 p0)] [] rfl rfl (Nat.le_of_ble_eq_true rfl) dX8_copyFrom_48 ⟨Nat.le_of_ble_eq_true rfl, Nat.le_of_ble_eq_true rfl⟩ (c_X6_copyFrom ax i hi p0 hp0 m_5 _ h) rfl rfl (List.mem_of_getElem? (i := 17) rfl) kw_1_3 kw_2_202 kw_2_201 ks_11 hy_X6_copyFrom.2 ⟨Nat.le_of_ble_eq_true rfl, Nat.le_of_ble_eq_true rfl⟩) (fun m_7 h => ?_)
  refine q_iconst (v := 0) X dX8_copyFrom_51 (by decide) ?_
  refine q_istore_n (lv' := [(2, .int 0), (0, .ref (ad 1 i)), (1, .ref (ad 1 p0))]) X dX8_copyFrom_52 rfl (by decide) rfl ?_
  refine q_sub [1, 2, 0] rfl ?_
  have L53 : ∀ (n : Nat) (y_8 : Int32) (m_9 : Mm), itr (α := Int32 × Mm) (fun K a => w_X8_copyFrom_B53 i p0 Q9 (fun z0 z1 => K (z0, z1)) a.1 a.2) n (y_8, m_9) → V p l e rm_X8_copyFrom s m args below meth c QQ 3 A 0 0 (Rep TT D cA ad false GC m_9) 53 [(0, .ref (ad 1 i)), (1, .ref (ad 1 p0)), (2, .int y_8)] [] := by
    intro n
    induction n with
    | zero => intro y_8 m_9 h; exact h.elim
    | succ n ih_11 =>
      intro y_8 m_9 h
      have h : w_X8_copyFrom_B53 i p0 Q9 (fun z0 z1 => itr (α := Int32 × Mm) (fun K a => w_X8_copyFrom_B53 i p0 Q9 (fun z0 z1 => K (z0, z1)) a.1 a.2) n (z0, z1)) y_8 m_9 := h
      unfold w_X8_copyFrom_B53 at h
      refine q_iload_n (j := 2) X dX8_copyFrom_53 rfl rfl ?_
      refine q_aload_n (j := 0) X dX8_copyFrom_54 rfl rfl ?_
      refine q_get (k := 1) (v := .int (m_9.1 1 i 1)) X hK rfl rfl (Nat.le_of_ble_eq_true rfl) inTX8 (gc (t := 1) (by decide) hi) kw_1_230 rfl rfl dX8_copyFrom_55 ?_
      refine q_icmp_ge (tgt := 82) X dX8_copyFrom_58 (by decide) (fun c_12 => ?_) (fun c_12 => ?_)
      · have h := h.1 c_12
        refine q_iconst (v := 0) X dX8_copyFrom_82 (by decide) ?_
        refine q_istore_n (lv' := [(2, .int 0), (0, .ref (ad 1 i)), (1, .ref (ad 1 p0))]) X dX8_copyFrom_83 rfl (by decide) rfl ?_
        refine q_sub [1, 2, 0] rfl ?_
        have L84 : ∀ (n : Nat) (y_13 : Int32) (m_14 : Mm), itr (α := Int32 × Mm) (fun K a => w_X8_copyFrom_B84 i p0 Q9 (fun z0 z1 => K (z0, z1)) a.1 a.2) n (y_13, m_14) → V p l e rm_X8_copyFrom s m args below meth c QQ 3 A 0 0 (Rep TT D cA ad false GC m_14) 84 [(0, .ref (ad 1 i)), (1, .ref (ad 1 p0)), (2, .int y_13)] [] := by
          intro n
          induction n with
          | zero => intro y_13 m_14 h; exact h.elim
          | succ n ih_16 =>
            intro y_13 m_14 h
            have h : w_X8_copyFrom_B84 i p0 Q9 (fun z0 z1 => itr (α := Int32 × Mm) (fun K a => w_X8_copyFrom_B84 i p0 Q9 (fun z0 z1 => K (z0, z1)) a.1 a.2) n (z0, z1)) y_13 m_14 := h
            unfold w_X8_copyFrom_B84 at h
            refine q_iload_n (j := 2) X dX8_copyFrom_84 rfl rfl ?_
            refine q_aload_n (j := 0) X dX8_copyFrom_85 rfl rfl ?_
            refine q_get (k := 4) (v := .int (m_14.1 1 i 4)) X hK rfl rfl (Nat.le_of_ble_eq_true rfl) inTX8 (gc (t := 1) (by decide) hi) kw_1_237 rfl rfl dX8_copyFrom_86 ?_
            refine q_icmp_ge (tgt := 113) X dX8_copyFrom_89 (by decide) (fun c_17 => ?_) (fun c_17 => ?_)
            · have h := h.1 c_17
              refine q_iconst (v := 0) X dX8_copyFrom_113 (by decide) ?_
              refine q_istore_n (lv' := [(2, .int 0), (0, .ref (ad 1 i)), (1, .ref (ad 1 p0))]) X dX8_copyFrom_114 rfl (by decide) rfl ?_
              refine q_sub [1, 2, 0] rfl ?_
              have L115 : ∀ (n : Nat) (y_18 : Int32) (m_19 : Mm), itr (α := Int32 × Mm) (fun K a => w_X8_copyFrom_B115 i p0 Q9 (fun z0 z1 => K (z0, z1)) a.1 a.2) n (y_18, m_19) → V p l e rm_X8_copyFrom s m args below meth c QQ 3 A 0 0 (Rep TT D cA ad false GC m_19) 115 [(0, .ref (ad 1 i)), (1, .ref (ad 1 p0)), (2, .int y_18)] [] := by
                intro n
                induction n with
                | zero => intro y_18 m_19 h; exact h.elim
                | succ n ih_21 =>
                  intro y_18 m_19 h
                  have h : w_X8_copyFrom_B115 i p0 Q9 (fun z0 z1 => itr (α := Int32 × Mm) (fun K a => w_X8_copyFrom_B115 i p0 Q9 (fun z0 z1 => K (z0, z1)) a.1 a.2) n (z0, z1)) y_18 m_19 := h
                  unfold w_X8_copyFrom_B115 at h
                  refine q_iload_n (j := 2) X dX8_copyFrom_115 rfl rfl ?_
                  refine q_iconst (v := 5) X dX8_copyFrom_116 (by decide) ?_
                  refine q_icmp_ge (tgt := 141) X dX8_copyFrom_117 (by decide) (fun c_22 => ?_) (fun c_22 => ?_)
                  · have h := h.1 c_22
                    refine q_iconst (v := 0) X dX8_copyFrom_141 (by decide) ?_
                    refine q_istore_n (lv' := [(2, .int 0), (0, .ref (ad 1 i)), (1, .ref (ad 1 p0))]) X dX8_copyFrom_142 rfl (by decide) rfl ?_
                    refine q_sub [1, 2, 0] rfl ?_
                    have L143 : ∀ (n : Nat) (y_23 : Int32) (m_24 : Mm), itr (α := Int32 × Mm) (fun K a => w_X8_copyFrom_B143 i p0 Q9 (fun z0 z1 => K (z0, z1)) a.1 a.2) n (y_23, m_24) → V p l e rm_X8_copyFrom s m args below meth c QQ 3 A 0 0 (Rep TT D cA ad false GC m_24) 143 [(0, .ref (ad 1 i)), (1, .ref (ad 1 p0)), (2, .int y_23)] [] := by
                      intro n
                      induction n with
                      | zero => intro y_23 m_24 h; exact h.elim
                      | succ n ih_26 =>
                        intro y_23 m_24 h
                        have h : w_X8_copyFrom_B143 i p0 Q9 (fun z0 z1 => itr (α := Int32 × Mm) (fun K a => w_X8_copyFrom_B143 i p0 Q9 (fun z0 z1 => K (z0, z1)) a.1 a.2) n (z0, z1)) y_23 m_24 := h
                        unfold w_X8_copyFrom_B143 at h
                        refine q_iload_n (j := 2) X dX8_copyFrom_143 rfl rfl ?_
                        refine q_bipush (v := 6) X dX8_copyFrom_144 (by decide) ?_
                        refine q_icmp_ge (tgt := 170) X dX8_copyFrom_146 (by decide) (fun c_27 => ?_) (fun c_27 => ?_)
                        · have h := h.1 c_27
                          exact hE _ _ _ dX8_copyFrom_170 h
                        · have h := h.2 c_27
                          refine q_aload_n (j := 0) X dX8_copyFrom_149 rfl rfl ?_
                          refine q_get (k := 9) (v := .ref (ad 10 i)) X hK rfl rfl (Nat.le_of_ble_eq_true rfl) inTX8 (gc (t := 1) (by decide) hi) kw_2_9 rfl (rv_nn (a := ad 10) (r := i) hi.1) dX8_copyFrom_150 ?_
                          refine q_iload_n (j := 2) X dX8_copyFrom_153 rfl rfl ?_
                          obtain ⟨b_28, h⟩ := h
                          refine q_aald (t := 10) (i := i) (jn := y_23.toNatClampNeg) (v := .ref (ad 6 (6 * (i - 1) + y_23.toNatClampNeg + 1))) X hK rfl rfl (gc (t := 10) (by decide) hi) rfl b_28 rfl (rv_nn (a := ad 6) (r := (6 * (i - 1) + y_23.toNatClampNeg + 1)) (ok_ki hi b_28).1) dX8_copyFrom_154 ?_
                          refine q_aload_n (j := 1) X dX8_copyFrom_155 rfl rfl ?_
                          refine q_get (k := 9) (v := .ref (ad 10 p0)) X hK rfl rfl (Nat.le_of_ble_eq_true rfl) inTX8 (gc (t := 1) (by decide) hp0) kw_2_9 rfl (rv_nn (a := ad 10) (r := p0) hp0.1) dX8_copyFrom_156 ?_
                          refine q_iload_n (j := 2) X dX8_copyFrom_159 rfl rfl ?_
                          refine q_aald (t := 10) (i := p0) (jn := y_23.toNatClampNeg) (v := .ref (ad 6 (6 * (p0 - 1) + y_23.toNatClampNeg + 1))) X hK rfl rfl (gc (t := 10) (by decide) hp0) rfl b_28 rfl (rv_nn (a := ad 6) (r := (6 * (p0 - 1) + y_23.toNatClampNeg + 1)) (ok_ki hp0 b_28).1) dX8_copyFrom_160 ?_
                          refine q_callv (q_runVN X hK hZ zo (gc (t := 6) (by decide) (ok_ki hi b_28)) rfl rfl [.ref (ad 6 (6 * (p0 - 1) + y_23.toNatClampNeg + 1))] [] rfl rfl (Nat.le_of_ble_eq_true rfl) dX8_copyFrom_161 ⟨Nat.le_of_ble_eq_true rfl, Nat.le_of_ble_eq_true rfl⟩ (c_X5_copyFrom ax (6 * (i - 1) + y_23.toNatClampNeg + 1) (ok_ki hi b_28) (6 * (p0 - 1) + y_23.toNatClampNeg + 1) (ok_ki hp0 b_28) m_24 _ h) rfl rfl (List.mem_of_getElem? (i := 21) rfl) kw_1_7 kw_2_218 kw_2_217 ks_15 hy_X5_copyFrom.2 ⟨Nat.le_of_ble_eq_true rfl, Nat.le_of_ble_eq_true rfl⟩) (fun m_30 h => ?_)
                          obtain ⟨x_31, ex_31⟩ : ∃ z : Int32, z = y_23 + 1 := ⟨_, rfl⟩
                          have h := h x_31 ex_31
                          refine q_iinc (j := 2) (v := x_31) (lv' := [(2, .int x_31), (0, .ref (ad 1 i)), (1, .ref (ad 1 p0))]) X dX8_copyFrom_164 rfl (by rw [ex_31]; rfl) (by decide) rfl ?_
                          refine q_goto (tgt := 143) X dX8_copyFrom_167 (by decide) ?_
                          refine q_sub [1, 2, 0] rfl ?_
                          exact ih_26 x_31 m_30 h
                    obtain ⟨n_32, h⟩ := h
                    exact L143 n_32 0 m_19 h
                  · have h := h.2 c_22
                    refine q_aload_n (j := 0) X dX8_copyFrom_120 rfl rfl ?_
                    refine q_get (k := 8) (v := .ref (ad 9 i)) X hK rfl rfl (Nat.le_of_ble_eq_true rfl) inTX8 (gc (t := 1) (by decide) hi) kw_2_6 rfl (rv_nn (a := ad 9) (r := i) hi.1) dX8_copyFrom_121 ?_
                    refine q_iload_n (j := 2) X dX8_copyFrom_124 rfl rfl ?_
                    obtain ⟨b_33, h⟩ := h
                    refine q_aald (t := 9) (i := i) (jn := y_18.toNatClampNeg) (v := .ref (ad 5 (5 * (i - 1) + y_18.toNatClampNeg + 1))) X hK rfl rfl (gc (t := 9) (by decide) hi) rfl b_33 rfl (rv_nn (a := ad 5) (r := (5 * (i - 1) + y_18.toNatClampNeg + 1)) (ok_ch hi b_33).1) dX8_copyFrom_125 ?_
                    refine q_aload_n (j := 1) X dX8_copyFrom_126 rfl rfl ?_
                    refine q_get (k := 8) (v := .ref (ad 9 p0)) X hK rfl rfl (Nat.le_of_ble_eq_true rfl) inTX8 (gc (t := 1) (by decide) hp0) kw_2_6 rfl (rv_nn (a := ad 9) (r := p0) hp0.1) dX8_copyFrom_127 ?_
                    refine q_iload_n (j := 2) X dX8_copyFrom_130 rfl rfl ?_
                    refine q_aald (t := 9) (i := p0) (jn := y_18.toNatClampNeg) (v := .ref (ad 5 (5 * (p0 - 1) + y_18.toNatClampNeg + 1))) X hK rfl rfl (gc (t := 9) (by decide) hp0) rfl b_33 rfl (rv_nn (a := ad 5) (r := (5 * (p0 - 1) + y_18.toNatClampNeg + 1)) (ok_ch hp0 b_33).1) dX8_copyFrom_131 ?_
                    refine q_callv (q_runVN X hK hZ zo (gc (t := 5) (by decide) (ok_ch hi b_33)) rfl rfl [.ref (ad 5 (5 * (p0 - 1) + y_18.toNatClampNeg + 1))] [] rfl rfl (Nat.le_of_ble_eq_true rfl) dX8_copyFrom_132 ⟨Nat.le_of_ble_eq_true rfl, Nat.le_of_ble_eq_true rfl⟩ (c_X0_copyFrom ax (5 * (i - 1) + y_18.toNatClampNeg + 1) (ok_ch hi b_33) (5 * (p0 - 1) + y_18.toNatClampNeg + 1) (ok_ch hp0 b_33) m_19 _ h) rfl rfl (List.mem_of_getElem? (i := 20) rfl) kw_1_6 kw_2_214 kw_2_213 ks_14 hy_X0_copyFrom.2 ⟨Nat.le_of_ble_eq_true rfl, Nat.le_of_ble_eq_true rfl⟩) (fun m_35 h => ?_)
                    obtain ⟨x_36, ex_36⟩ : ∃ z : Int32, z = y_18 + 1 := ⟨_, rfl⟩
                    have h := h x_36 ex_36
                    refine q_iinc (j := 2) (v := x_36) (lv' := [(2, .int x_36), (0, .ref (ad 1 i)), (1, .ref (ad 1 p0))]) X dX8_copyFrom_135 rfl (by rw [ex_36]; rfl) (by decide) rfl ?_
                    refine q_goto (tgt := 115) X dX8_copyFrom_138 (by decide) ?_
                    refine q_sub [1, 2, 0] rfl ?_
                    exact ih_21 x_36 m_35 h
              obtain ⟨n_37, h⟩ := h
              exact L115 n_37 0 m_14 h
            · have h := h.2 c_17
              refine q_aload_n (j := 0) X dX8_copyFrom_92 rfl rfl ?_
              refine q_get (k := 7) (v := .ref (ad 8 i)) X hK rfl rfl (Nat.le_of_ble_eq_true rfl) inTX8 (gc (t := 1) (by decide) hi) kw_2_5 rfl (rv_nn (a := ad 8) (r := i) hi.1) dX8_copyFrom_93 ?_
              refine q_iload_n (j := 2) X dX8_copyFrom_96 rfl rfl ?_
              obtain ⟨b_38, h⟩ := h
              refine q_aald (t := 8) (i := i) (jn := y_13.toNatClampNeg) (v := rv (ad 4) (m_14.2 8 i y_13.toNatClampNeg)) X hK rfl rfl (gc (t := 8) (by decide) hi) rfl b_38 rfl rfl dX8_copyFrom_97 ?_
              refine q_aload_n (j := 1) X dX8_copyFrom_98 rfl rfl ?_
              refine q_get (k := 7) (v := .ref (ad 8 p0)) X hK rfl rfl (Nat.le_of_ble_eq_true rfl) inTX8 (gc (t := 1) (by decide) hp0) kw_2_5 rfl (rv_nn (a := ad 8) (r := p0) hp0.1) dX8_copyFrom_99 ?_
              refine q_iload_n (j := 2) X dX8_copyFrom_102 rfl rfl ?_
              refine q_aald (t := 8) (i := p0) (jn := y_13.toNatClampNeg) (v := rv (ad 4) (m_14.2 8 p0 y_13.toNatClampNeg)) X hK rfl rfl (gc (t := 8) (by decide) hp0) rfl b_38 rfl rfl dX8_copyFrom_103 ?_
              obtain ⟨k_39, h⟩ := h
              rw [rv_nn (a := ad 4) (r := (m_14.2 8 p0 y_13.toNatClampNeg)) k_39.1]
              obtain ⟨k_40, h⟩ := h
              rw [rv_nn (a := ad 4) (r := (m_14.2 8 i y_13.toNatClampNeg)) k_40.1]
              refine q_callv (q_runVN X hK hZ zo (gc (t := 4) (by decide) k_40) rfl rfl [.ref (ad 4 (m_14.2 8 p0 y_13.toNatClampNeg))] [] rfl rfl (Nat.le_of_ble_eq_true rfl) dX8_copyFrom_104 ⟨Nat.le_of_ble_eq_true rfl, Nat.le_of_ble_eq_true rfl⟩ (c_X7_copyFrom ax (m_14.2 8 i y_13.toNatClampNeg) k_40 (m_14.2 8 p0 y_13.toNatClampNeg) k_39 m_14 _ h) rfl rfl (List.mem_of_getElem? (i := 19) rfl) kw_1_5 kw_2_210 kw_2_209 ks_13 hy_X7_copyFrom.2 ⟨Nat.le_of_ble_eq_true rfl, Nat.le_of_ble_eq_true rfl⟩) (fun m_42 h => ?_)
              obtain ⟨x_43, ex_43⟩ : ∃ z : Int32, z = y_13 + 1 := ⟨_, rfl⟩
              have h := h x_43 ex_43
              refine q_iinc (j := 2) (v := x_43) (lv' := [(2, .int x_43), (0, .ref (ad 1 i)), (1, .ref (ad 1 p0))]) X dX8_copyFrom_107 rfl (by rw [ex_43]; rfl) (by decide) rfl ?_
              refine q_goto (tgt := 84) X dX8_copyFrom_110 (by decide) ?_
              refine q_sub [1, 2, 0] rfl ?_
              exact ih_16 x_43 m_42 h
        obtain ⟨n_44, h⟩ := h
        exact L84 n_44 0 m_9 h
      · have h := h.2 c_12
        refine q_aload_n (j := 0) X dX8_copyFrom_61 rfl rfl ?_
        refine q_get (k := 6) (v := .ref (ad 7 i)) X hK rfl rfl (Nat.le_of_ble_eq_true rfl) inTX8 (gc (t := 1) (by decide) hi) kw_2_2 rfl (rv_nn (a := ad 7) (r := i) hi.1) dX8_copyFrom_62 ?_
        refine q_iload_n (j := 2) X dX8_copyFrom_65 rfl rfl ?_
        obtain ⟨b_45, h⟩ := h
        refine q_aald (t := 7) (i := i) (jn := y_8.toNatClampNeg) (v := rv (ad 3) (m_9.2 7 i y_8.toNatClampNeg)) X hK rfl rfl (gc (t := 7) (by decide) hi) rfl b_45 rfl rfl dX8_copyFrom_66 ?_
        refine q_aload_n (j := 1) X dX8_copyFrom_67 rfl rfl ?_
        refine q_get (k := 6) (v := .ref (ad 7 p0)) X hK rfl rfl (Nat.le_of_ble_eq_true rfl) inTX8 (gc (t := 1) (by decide) hp0) kw_2_2 rfl (rv_nn (a := ad 7) (r := p0) hp0.1) dX8_copyFrom_68 ?_
        refine q_iload_n (j := 2) X dX8_copyFrom_71 rfl rfl ?_
        refine q_aald (t := 7) (i := p0) (jn := y_8.toNatClampNeg) (v := rv (ad 3) (m_9.2 7 p0 y_8.toNatClampNeg)) X hK rfl rfl (gc (t := 7) (by decide) hp0) rfl b_45 rfl rfl dX8_copyFrom_72 ?_
        obtain ⟨k_46, h⟩ := h
        rw [rv_nn (a := ad 3) (r := (m_9.2 7 p0 y_8.toNatClampNeg)) k_46.1]
        obtain ⟨k_47, h⟩ := h
        rw [rv_nn (a := ad 3) (r := (m_9.2 7 i y_8.toNatClampNeg)) k_47.1]
        refine q_callv (q_runVN X hK hZ zo (gc (t := 3) (by decide) k_47) rfl rfl [.ref (ad 3 (m_9.2 7 p0 y_8.toNatClampNeg))] [] rfl rfl (Nat.le_of_ble_eq_true rfl) dX8_copyFrom_73 ⟨Nat.le_of_ble_eq_true rfl, Nat.le_of_ble_eq_true rfl⟩ (c_X2_copyFrom ax (m_9.2 7 i y_8.toNatClampNeg) k_47 (m_9.2 7 p0 y_8.toNatClampNeg) k_46 m_9 _ h) rfl rfl (List.mem_of_getElem? (i := 18) rfl) kw_1_4 kw_2_206 kw_2_205 ks_12 hy_X2_copyFrom.2 ⟨Nat.le_of_ble_eq_true rfl, Nat.le_of_ble_eq_true rfl⟩) (fun m_49 h => ?_)
        obtain ⟨x_50, ex_50⟩ : ∃ z : Int32, z = y_8 + 1 := ⟨_, rfl⟩
        have h := h x_50 ex_50
        refine q_iinc (j := 2) (v := x_50) (lv' := [(2, .int x_50), (0, .ref (ad 1 i)), (1, .ref (ad 1 p0))]) X dX8_copyFrom_76 rfl (by rw [ex_50]; rfl) (by decide) rfl ?_
        refine q_goto (tgt := 53) X dX8_copyFrom_79 (by decide) ?_
        refine q_sub [1, 2, 0] rfl ?_
        exact ih_11 x_50 m_49 h
  obtain ⟨n_51, h⟩ := h
  exact L53 n_51 0 m_7 h
theorem dX3_save_0 : decode cX3_save 0 = .ok (.aload_n 0, 1) := by decide +kernel
theorem dX3_save_1 : decode cX3_save 1 = .ok (.getfield 25, 3) := by decide +kernel
theorem dX3_save_4 : decode cX3_save 4 = .ok (.ifCond .eq 4, 3) := by decide +kernel
theorem dX3_save_7 : decode cX3_save 7 = .ok (.return_, 1) := by decide +kernel
theorem dX3_save_8 : decode cX3_save 8 = .ok (.aload_n 0, 1) := by decide +kernel
theorem dX3_save_9 : decode cX3_save 9 = .ok (.getfield 29, 3) := by decide +kernel
theorem dX3_save_12 : decode cX3_save 12 = .ok (.bipush 6, 2) := by decide +kernel
theorem dX3_save_14 : decode cX3_save 14 = .ok (.if_icmp .ne 26, 3) := by decide +kernel
theorem dX3_save_17 : decode cX3_save 17 = .ok (.aload_n 0, 1) := by decide +kernel
theorem dX3_save_18 : decode cX3_save 18 = .ok (.aload_n 0, 1) := by decide +kernel
theorem dX3_save_19 : decode cX3_save 19 = .ok (.getfield 33, 3) := by decide +kernel
theorem dX3_save_22 : decode cX3_save 22 = .ok (.iconst 1, 1) := by decide +kernel
theorem dX3_save_23 : decode cX3_save 23 = .ok (.iadd, 1) := by decide +kernel
theorem dX3_save_24 : decode cX3_save 24 = .ok (.bipush 6, 2) := by decide +kernel
theorem dX3_save_26 : decode cX3_save 26 = .ok (.irem, 1) := by decide +kernel
theorem dX3_save_27 : decode cX3_save 27 = .ok (.putfield 33, 3) := by decide +kernel
theorem dX3_save_30 : decode cX3_save 30 = .ok (.aload_n 0, 1) := by decide +kernel
theorem dX3_save_31 : decode cX3_save 31 = .ok (.aload_n 0, 1) := by decide +kernel
theorem dX3_save_32 : decode cX3_save 32 = .ok (.getfield 29, 3) := by decide +kernel
theorem dX3_save_35 : decode cX3_save 35 = .ok (.iconst 1, 1) := by decide +kernel
theorem dX3_save_36 : decode cX3_save 36 = .ok (.isub, 1) := by decide +kernel
theorem dX3_save_37 : decode cX3_save 37 = .ok (.putfield 29, 3) := by decide +kernel
theorem dX3_save_40 : decode cX3_save 40 = .ok (.aload_n 0, 1) := by decide +kernel
theorem dX3_save_41 : decode cX3_save 41 = .ok (.getfield 11, 3) := by decide +kernel
theorem dX3_save_44 : decode cX3_save 44 = .ok (.aload_n 0, 1) := by decide +kernel
theorem dX3_save_45 : decode cX3_save 45 = .ok (.getfield 33, 3) := by decide +kernel
theorem dX3_save_48 : decode cX3_save 48 = .ok (.aload_n 0, 1) := by decide +kernel
theorem dX3_save_49 : decode cX3_save 49 = .ok (.getfield 29, 3) := by decide +kernel
theorem dX3_save_52 : decode cX3_save 52 = .ok (.iadd, 1) := by decide +kernel
theorem dX3_save_53 : decode cX3_save 53 = .ok (.bipush 6, 2) := by decide +kernel
theorem dX3_save_55 : decode cX3_save 55 = .ok (.irem, 1) := by decide +kernel
theorem dX3_save_56 : decode cX3_save 56 = .ok (.aaload, 1) := by decide +kernel
theorem dX3_save_57 : decode cX3_save 57 = .ok (.aload_n 1, 1) := by decide +kernel
theorem dX3_save_58 : decode cX3_save 58 = .ok (.invokevirtual 36, 3) := by decide +kernel
theorem dX3_save_61 : decode cX3_save 61 = .ok (.aload_n 0, 1) := by decide +kernel
theorem dX3_save_62 : decode cX3_save 62 = .ok (.aload_n 0, 1) := by decide +kernel
theorem dX3_save_63 : decode cX3_save 63 = .ok (.getfield 29, 3) := by decide +kernel
theorem dX3_save_66 : decode cX3_save 66 = .ok (.iconst 1, 1) := by decide +kernel
theorem dX3_save_67 : decode cX3_save 67 = .ok (.iadd, 1) := by decide +kernel
theorem dX3_save_68 : decode cX3_save 68 = .ok (.putfield 29, 3) := by decide +kernel
theorem dX3_save_71 : decode cX3_save 71 = .ok (.return_, 1) := by decide +kernel
def w_X3_save_J40 (p0 : Nat) (Q9 : Mm → Prop) (m_2 : Mm) : Prop :=
  vp_in (((m_2.1 12 1 1) + (m_2.1 12 1 2)) - ((m_2.1 12 1 1) + (m_2.1 12 1 2)) / 6 * 6) 6 ∧ (w_X8_copyFrom ((((m_2.1 12 1 1) + (m_2.1 12 1 2)) - ((m_2.1 12 1 1) + (m_2.1 12 1 2)) / 6 * 6).toNatClampNeg + 2) p0 m_2 (fun (m_5 : Mm) => ∀ m_6 : Mm, m_6 = sI m_5 12 1 2 ((m_5.1 12 1 2) + 1) → (Q9 m_6)))
def w_X3_save (p0 : Nat) (mm : Mm) (Q9 : Mm → Prop) : Prop :=
  (((mm.1 12 1 5) = 0 → ((¬ (mm.1 12 1 2) = 6 → w_X3_save_J40 p0 Q9 mm) ∧
  ((mm.1 12 1 2) = 6 → ∀ m_8 : Mm, m_8 = sI mm 12 1 1 (((mm.1 12 1 1) + 1) - ((mm.1 12 1 1) + 1) / 6 * 6) → (∀ m_9 : Mm, m_9 = sI m_8 12 1 2 ((m_8.1 12 1 2) - 1) → (w_X3_save_J40 p0 Q9 m_9))))) ∧
  (¬ (mm.1 12 1 5) = 0 → Q9 mm))
def rm_X3_save : Room := { frames := 2, cells := 0, slots := 0, locals := 43 }
theorem hy_X3_save : yX3_save.cls = RX3 ∧ yX3_save.cls ≠ "java/lang/invoke/MethodHandle" ∧ yX3_save.cls ≠ "java/lang/invoke/VarHandle" ∧ (parseMethodDescriptor yX3_save.desc).map (fun d => d.parameters.length) = some 1 := by decide +kernel
set_option maxRecDepth 100000 in
set_option maxHeartbeats 4000000 in
theorem c_X3_save {l : Launch} {D : va_G} {cA : Nat → ClassId} {ad : Nat → Nat → Nat} {A : Nat → Prop} (ax : Ax ad GC A) (p0 : Nat) (hp0 : ok 1 p0) (mm : Mm) (Q9 : Mm → Prop) (h : w_X3_save p0 mm Q9) : Met l yX3_save (.code yX3_save cX3_save 2 none :: TG) rm_X3_save (PcM TT D cA ad false GC (ZC ad A) [.ref (ad 12 1), .ref (ad 1 p0)] mm) (AnsV TT D cA ad false GC A Q9) 0 0 A := by
  have zo := ZC_ok ad A
  unfold w_X3_save at h
  refine enterV pl_X3 ⟨rfl, rfl⟩ rfl (Nat.le_of_ble_eq_true rfl) ?_
  intro p e s m args below meth c QQ X hK hZ hnm hE
  refine q_aload_n (j := 0) X dX3_save_0 rfl rfl ?_
  refine q_get (k := 5) (v := .int (mm.1 12 1 5)) X hK rfl rfl (Nat.le_of_ble_eq_true rfl) inTX3 (gc (t := 12) (by decide) (ok1 (t := 12) (Nat.le_of_ble_eq_true rfl))) kw_2_53 rfl rfl dX3_save_1 ?_
  refine q_if_eq (tgt := 8) X dX3_save_4 (by decide) (fun c_1 => ?_) (fun c_1 => ?_)
  · have h := h.1 c_1
    refine q_aload_n (j := 0) X dX3_save_8 rfl rfl ?_
    refine q_get (k := 2) (v := .int (mm.1 12 1 2)) X hK rfl rfl (Nat.le_of_ble_eq_true rfl) inTX3 (gc (t := 12) (by decide) (ok1 (t := 12) (Nat.le_of_ble_eq_true rfl))) kw_2_47 rfl rfl dX3_save_9 ?_
    refine q_bipush (v := 6) X dX3_save_12 (by decide) ?_
    have J40 : ∀ (m_2 : Mm), w_X3_save_J40 p0 Q9 m_2 → V p l e rm_X3_save s m args below meth c QQ 2 A 0 0 (Rep TT D cA ad false GC m_2) 40 [(0, .ref (ad 12 1)), (1, .ref (ad 1 p0))] [] := by
      intro m_2 h
      unfold w_X3_save_J40 at h
      refine q_aload_n (j := 0) X dX3_save_40 rfl rfl ?_
      refine q_get (k := 0) (v := .ref (ad 13 1)) X hK rfl rfl (Nat.le_of_ble_eq_true rfl) inTX3 (gc (t := 12) (by decide) (ok1 (t := 12) (Nat.le_of_ble_eq_true rfl))) kw_2_45 rfl (rv_nn (a := ad 13) (r := 1) (ok1 (t := 13) (Nat.le_of_ble_eq_true rfl)).1) dX3_save_41 ?_
      refine q_aload_n (j := 0) X dX3_save_44 rfl rfl ?_
      refine q_get (k := 1) (v := .int (m_2.1 12 1 1)) X hK rfl rfl (Nat.le_of_ble_eq_true rfl) inTX3 (gc (t := 12) (by decide) (ok1 (t := 12) (Nat.le_of_ble_eq_true rfl))) kw_2_46 rfl rfl dX3_save_45 ?_
      refine q_aload_n (j := 0) X dX3_save_48 rfl rfl ?_
      refine q_get (k := 2) (v := .int (m_2.1 12 1 2)) X hK rfl rfl (Nat.le_of_ble_eq_true rfl) inTX3 (gc (t := 12) (by decide) (ok1 (t := 12) (Nat.le_of_ble_eq_true rfl))) kw_2_47 rfl rfl dX3_save_49 ?_
      refine q_iadd X dX3_save_52 ?_
      refine q_bipush (v := 6) X dX3_save_53 (by decide) ?_
      refine q_irem X dX3_save_55 (by decide) ?_
      obtain ⟨b_3, h⟩ := h
      refine q_aald (t := 13) (i := 1) (jn := (((m_2.1 12 1 1) + (m_2.1 12 1 2)) - ((m_2.1 12 1 1) + (m_2.1 12 1 2)) / 6 * 6).toNatClampNeg) (v := .ref (ad 1 ((((m_2.1 12 1 1) + (m_2.1 12 1 2)) - ((m_2.1 12 1 1) + (m_2.1 12 1 2)) / 6 * 6).toNatClampNeg + 2))) X hK rfl rfl (gc (t := 13) (by decide) (ok1 (t := 13) (Nat.le_of_ble_eq_true rfl))) rfl b_3 rfl (rv_nn (a := ad 1) (r := ((((m_2.1 12 1 1) + (m_2.1 12 1 2)) - ((m_2.1 12 1 1) + (m_2.1 12 1 2)) / 6 * 6).toNatClampNeg + 2)) (ok_sv (ok1 (t := 13) (Nat.le_of_ble_eq_true rfl)) b_3).1) dX3_save_56 ?_
      refine q_aload_n (j := 1) X dX3_save_57 rfl rfl ?_
      refine q_callv (q_runVN X hK hZ zo (gc (t := 1) (by decide) (ok_sv (ok1 (t := 13) (Nat.le_of_ble_eq_true rfl)) b_3)) rfl rfl [.ref (ad 1 p0)] [] rfl rfl (Nat.le_of_ble_eq_true rfl) dX3_save_58 ⟨Nat.le_of_ble_eq_true rfl, Nat.le_of_ble_eq_true rfl⟩ (c_X8_copyFrom ax ((((m_2.1 12 1 1) + (m_2.1 12 1 2)) - ((m_2.1 12 1 1) + (m_2.1 12 1 2)) / 6 * 6).toNatClampNeg + 2) (ok_sv (ok1 (t := 13) (Nat.le_of_ble_eq_true rfl)) b_3) p0 hp0 m_2 _ h) rfl rfl (List.mem_of_getElem? (i := 16) rfl) kw_1_2 kw_2_198 kw_2_197 ks_10 hy_X8_copyFrom.2 ⟨Nat.le_of_ble_eq_true rfl, Nat.le_of_ble_eq_true rfl⟩) (fun m_5 h => ?_)
      refine q_aload_n (j := 0) X dX3_save_61 rfl rfl ?_
      refine q_aload_n (j := 0) X dX3_save_62 rfl rfl ?_
      refine q_get (k := 2) (v := .int (m_5.1 12 1 2)) X hK rfl rfl (Nat.le_of_ble_eq_true rfl) inTX3 (gc (t := 12) (by decide) (ok1 (t := 12) (Nat.le_of_ble_eq_true rfl))) kw_2_47 rfl rfl dX3_save_63 ?_
      refine q_iconst (v := 1) X dX3_save_66 (by decide) ?_
      refine q_iadd X dX3_save_67 ?_
      refine q_putI (k := 2) X ax hK rfl rfl (Nat.le_of_ble_eq_true rfl) inTX3 (gc (t := 12) (by decide) (ok1 (t := 12) (Nat.le_of_ble_eq_true rfl))) tyX3 tyX3_ok nmX3 kw_2_47 rfl rfl (tyX3_ok 2 (Nat.le_of_ble_eq_true rfl)) rfl dX3_save_68 ?_
      refine q_nmP (fun m_6 em_6 => ?_)
      have h := h m_6 em_6
      exact hE _ _ _ dX3_save_71 h
    refine q_icmp_ne (tgt := 40) X dX3_save_14 (by decide) (fun c_7 => ?_) (fun c_7 => ?_)
    · have h := h.1 c_7
      refine q_sub [0, 1] rfl ?_
      exact J40 mm h
    · have h := h.2 c_7
      refine q_aload_n (j := 0) X dX3_save_17 rfl rfl ?_
      refine q_aload_n (j := 0) X dX3_save_18 rfl rfl ?_
      refine q_get (k := 1) (v := .int (mm.1 12 1 1)) X hK rfl rfl (Nat.le_of_ble_eq_true rfl) inTX3 (gc (t := 12) (by decide) (ok1 (t := 12) (Nat.le_of_ble_eq_true rfl))) kw_2_46 rfl rfl dX3_save_19 ?_
      refine q_iconst (v := 1) X dX3_save_22 (by decide) ?_
      refine q_iadd X dX3_save_23 ?_
      refine q_bipush (v := 6) X dX3_save_24 (by decide) ?_
      refine q_irem X dX3_save_26 (by decide) ?_
      refine q_putI (k := 1) X ax hK rfl rfl (Nat.le_of_ble_eq_true rfl) inTX3 (gc (t := 12) (by decide) (ok1 (t := 12) (Nat.le_of_ble_eq_true rfl))) tyX3 tyX3_ok nmX3 kw_2_46 rfl rfl (tyX3_ok 1 (Nat.le_of_ble_eq_true rfl)) rfl dX3_save_27 ?_
      refine q_nmP (fun m_8 em_8 => ?_)
      have h := h m_8 em_8
      refine q_aload_n (j := 0) X dX3_save_30 rfl rfl ?_
      refine q_aload_n (j := 0) X dX3_save_31 rfl rfl ?_
      refine q_get (k := 2) (v := .int (m_8.1 12 1 2)) X hK rfl rfl (Nat.le_of_ble_eq_true rfl) inTX3 (gc (t := 12) (by decide) (ok1 (t := 12) (Nat.le_of_ble_eq_true rfl))) kw_2_47 rfl rfl dX3_save_32 ?_
      refine q_iconst (v := 1) X dX3_save_35 (by decide) ?_
      refine q_isub X dX3_save_36 ?_
      refine q_putI (k := 2) X ax hK rfl rfl (Nat.le_of_ble_eq_true rfl) inTX3 (gc (t := 12) (by decide) (ok1 (t := 12) (Nat.le_of_ble_eq_true rfl))) tyX3 tyX3_ok nmX3 kw_2_47 rfl rfl (tyX3_ok 2 (Nat.le_of_ble_eq_true rfl)) rfl dX3_save_37 ?_
      refine q_nmP (fun m_9 em_9 => ?_)
      have h := h m_9 em_9
      refine q_sub [0, 1] rfl ?_
      exact J40 m_9 h
  · have h := h.2 c_1
    exact hE _ _ _ dX3_save_7 h
theorem dX8_addEntry_0 : decode cX8_addEntry 0 = .ok (.aload_n 0, 1) := by decide +kernel
theorem dX8_addEntry_1 : decode cX8_addEntry 1 = .ok (.getfield 20, 3) := by decide +kernel
theorem dX8_addEntry_4 : decode cX8_addEntry 4 = .ok (.aload_n 0, 1) := by decide +kernel
theorem dX8_addEntry_5 : decode cX8_addEntry 5 = .ok (.getfield 62, 3) := by decide +kernel
theorem dX8_addEntry_8 : decode cX8_addEntry 8 = .ok (.aaload, 1) := by decide +kernel
theorem dX8_addEntry_9 : decode cX8_addEntry 9 = .ok (.astore_n 1, 1) := by decide +kernel
theorem dX8_addEntry_10 : decode cX8_addEntry 10 = .ok (.aload_n 1, 1) := by decide +kernel
theorem dX8_addEntry_11 : decode cX8_addEntry 11 = .ok (.aload_n 0, 1) := by decide +kernel
theorem dX8_addEntry_12 : decode cX8_addEntry 12 = .ok (.getfield 65, 3) := by decide +kernel
theorem dX8_addEntry_15 : decode cX8_addEntry 15 = .ok (.putfield 90, 3) := by decide +kernel
theorem dX8_addEntry_18 : decode cX8_addEntry 18 = .ok (.aload_n 0, 1) := by decide +kernel
theorem dX8_addEntry_19 : decode cX8_addEntry 19 = .ok (.aload_n 0, 1) := by decide +kernel
theorem dX8_addEntry_20 : decode cX8_addEntry 20 = .ok (.getfield 62, 3) := by decide +kernel
theorem dX8_addEntry_23 : decode cX8_addEntry 23 = .ok (.iconst 1, 1) := by decide +kernel
theorem dX8_addEntry_24 : decode cX8_addEntry 24 = .ok (.iadd, 1) := by decide +kernel
theorem dX8_addEntry_25 : decode cX8_addEntry 25 = .ok (.putfield 62, 3) := by decide +kernel
theorem dX8_addEntry_28 : decode cX8_addEntry 28 = .ok (.aload_n 0, 1) := by decide +kernel
theorem dX8_addEntry_29 : decode cX8_addEntry 29 = .ok (.aload_n 0, 1) := by decide +kernel
theorem dX8_addEntry_30 : decode cX8_addEntry 30 = .ok (.getfield 65, 3) := by decide +kernel
theorem dX8_addEntry_33 : decode cX8_addEntry 33 = .ok (.iconst 1, 1) := by decide +kernel
theorem dX8_addEntry_34 : decode cX8_addEntry 34 = .ok (.iadd, 1) := by decide +kernel
theorem dX8_addEntry_35 : decode cX8_addEntry 35 = .ok (.putfield 65, 3) := by decide +kernel
theorem dX8_addEntry_38 : decode cX8_addEntry 38 = .ok (.aload_n 1, 1) := by decide +kernel
theorem dX8_addEntry_39 : decode cX8_addEntry 39 = .ok (.areturn, 1) := by decide +kernel
def w_X8_addEntry (i : Nat) (mm : Mm) (Q9 : Nat → Mm → Prop) : Prop :=
  vp_in (mm.1 1 i 1) 16 ∧ (ok 3 (mm.2 7 i (mm.1 1 i 1).toNatClampNeg) ∧ ∀ m_3 : Mm, m_3 = sI mm 3 (mm.2 7 i (mm.1 1 i 1).toNatClampNeg) 0 (mm.1 1 i 2) → (∀ m_4 : Mm, m_4 = sI m_3 1 i 1 ((m_3.1 1 i 1) + 1) → (∀ m_5 : Mm, m_5 = sI m_4 1 i 2 ((m_4.1 1 i 2) + 1) → (Q9 (mm.2 7 i (mm.1 1 i 1).toNatClampNeg) m_5))))
def rm_X8_addEntry : Room := { frames := 0, cells := 0, slots := 0, locals := 0 }
theorem hy_X8_addEntry : yX8_addEntry.cls = RX8 ∧ yX8_addEntry.cls ≠ "java/lang/invoke/MethodHandle" ∧ yX8_addEntry.cls ≠ "java/lang/invoke/VarHandle" ∧ (parseMethodDescriptor yX8_addEntry.desc).map (fun d => d.parameters.length) = some 0 := by decide +kernel
set_option maxRecDepth 100000 in
set_option maxHeartbeats 4000000 in
theorem c_X8_addEntry {l : Launch} {D : va_G} {cA : Nat → ClassId} {ad : Nat → Nat → Nat} {A : Nat → Prop} (ax : Ax ad GC A) (i : Nat) (hi : ok 1 i) (mm : Mm) (Q9 : Nat → Mm → Prop) (h : w_X8_addEntry i mm Q9) : Met l yX8_addEntry (.code yX8_addEntry cX8_addEntry 2 (some (.object "BondWarehouse$Entry")) :: TG) rm_X8_addEntry (PcM TT D cA ad false GC (ZC ad A) [.ref (ad 1 i)] mm) (AnsQ TT D cA ad false GC 3 A Q9) 0 0 A := by
  have zo := ZC_ok ad A
  unfold w_X8_addEntry at h
  refine enterR (Or.inl ⟨_, rfl⟩) pl_X8 ⟨rfl, rfl⟩ rfl (Nat.le_of_ble_eq_true rfl) ?_
  intro p e s m args below meth c QQ X hK hZ hnm hE
  refine q_aload_n (j := 0) X dX8_addEntry_0 rfl rfl ?_
  refine q_get (k := 6) (v := .ref (ad 7 i)) X hK rfl rfl (Nat.le_of_ble_eq_true rfl) inTX8 (gc (t := 1) (by decide) hi) kw_2_2 rfl (rv_nn (a := ad 7) (r := i) hi.1) dX8_addEntry_1 ?_
  refine q_aload_n (j := 0) X dX8_addEntry_4 rfl rfl ?_
  refine q_get (k := 1) (v := .int (mm.1 1 i 1)) X hK rfl rfl (Nat.le_of_ble_eq_true rfl) inTX8 (gc (t := 1) (by decide) hi) kw_1_230 rfl rfl dX8_addEntry_5 ?_
  obtain ⟨b_1, h⟩ := h
  refine q_aald (t := 7) (i := i) (jn := (mm.1 1 i 1).toNatClampNeg) (v := rv (ad 3) (mm.2 7 i (mm.1 1 i 1).toNatClampNeg)) X hK rfl rfl (gc (t := 7) (by decide) hi) rfl b_1 rfl rfl dX8_addEntry_8 ?_
  refine q_vstore_n (lv' := [(1, rv (ad 3) (mm.2 7 i (mm.1 1 i 1).toNatClampNeg)), (0, .ref (ad 1 i))]) X dX8_addEntry_9 rfl (by decide) rfl ?_
  refine q_vload_n (j := 0) X dX8_addEntry_10 rfl rfl ?_
  refine q_aload_n (j := 1) X dX8_addEntry_11 rfl rfl ?_
  refine q_get (k := 2) (v := .int (mm.1 1 i 2)) X hK rfl rfl (Nat.le_of_ble_eq_true rfl) inTX8 (gc (t := 1) (by decide) hi) kw_1_233 rfl rfl dX8_addEntry_12 ?_
  obtain ⟨k_2, h⟩ := h
  rw [rv_nn (a := ad 3) (r := (mm.2 7 i (mm.1 1 i 1).toNatClampNeg)) k_2.1]
  refine q_putIN (k := 0) X ax hK rfl rfl (Nat.le_of_ble_eq_true rfl) inTX2 (gc (t := 3) (by decide) k_2) tyX2 tyX2_ok nmX2 (List.mem_of_getElem? (i := 13) rfl) rfl rfl (tyX2_ok 0 (Nat.le_of_ble_eq_true rfl)) rfl dX8_addEntry_15 ?_
  refine q_nmP (fun m_3 em_3 => ?_)
  have h := h m_3 em_3
  refine q_aload_n (j := 1) X dX8_addEntry_18 rfl rfl ?_
  refine q_aload_n (j := 1) X dX8_addEntry_19 rfl rfl ?_
  refine q_get (k := 1) (v := .int (m_3.1 1 i 1)) X hK rfl rfl (Nat.le_of_ble_eq_true rfl) inTX8 (gc (t := 1) (by decide) hi) kw_1_230 rfl rfl dX8_addEntry_20 ?_
  refine q_iconst (v := 1) X dX8_addEntry_23 (by decide) ?_
  refine q_iadd X dX8_addEntry_24 ?_
  refine q_putI (k := 1) X ax hK rfl rfl (Nat.le_of_ble_eq_true rfl) inTX8 (gc (t := 1) (by decide) hi) tyX8 tyX8_ok nmX8 kw_1_230 rfl rfl (tyX8_ok 1 (Nat.le_of_ble_eq_true rfl)) rfl dX8_addEntry_25 ?_
  refine q_nmP (fun m_4 em_4 => ?_)
  have h := h m_4 em_4
  refine q_aload_n (j := 1) X dX8_addEntry_28 rfl rfl ?_
  refine q_aload_n (j := 1) X dX8_addEntry_29 rfl rfl ?_
  refine q_get (k := 2) (v := .int (m_4.1 1 i 2)) X hK rfl rfl (Nat.le_of_ble_eq_true rfl) inTX8 (gc (t := 1) (by decide) hi) kw_1_233 rfl rfl dX8_addEntry_30 ?_
  refine q_iconst (v := 1) X dX8_addEntry_33 (by decide) ?_
  refine q_iadd X dX8_addEntry_34 ?_
  refine q_putI (k := 2) X ax hK rfl rfl (Nat.le_of_ble_eq_true rfl) inTX8 (gc (t := 1) (by decide) hi) tyX8 tyX8_ok nmX8 kw_1_233 rfl rfl (tyX8_ok 2 (Nat.le_of_ble_eq_true rfl)) rfl dX8_addEntry_35 ?_
  refine q_nmP (fun m_5 em_5 => ?_)
  have h := h m_5 em_5
  refine q_aload_n (j := 0) X dX8_addEntry_38 rfl rfl ?_
  rw [← rv_nn (a := ad 3) (r := (mm.2 7 i (mm.1 1 i 1).toNatClampNeg)) k_2.1]
  exact hE _ _ (mm.2 7 i (mm.1 1 i 1).toNatClampNeg) _ dX8_addEntry_39 h
theorem dX1_bringIn_0 : decode cX1_bringIn 0 = .ok (.iload_n 1, 1) := by decide +kernel
theorem dX1_bringIn_1 : decode cX1_bringIn 1 = .ok (.iload_n 2, 1) := by decide +kernel
theorem dX1_bringIn_2 : decode cX1_bringIn 2 = .ok (.iload_n 3, 1) := by decide +kernel
theorem dX1_bringIn_3 : decode cX1_bringIn 3 = .ok (.iload 4, 2) := by decide +kernel
theorem dX1_bringIn_5 : decode cX1_bringIn 5 = .ok (.invokestatic 19, 3) := by decide +kernel
theorem dX1_bringIn_8 : decode cX1_bringIn 8 = .ok (.ifCond .ne 6, 3) := by decide +kernel
theorem dX1_bringIn_11 : decode cX1_bringIn 11 = .ok (.bipush (-2), 2) := by decide +kernel
theorem dX1_bringIn_13 : decode cX1_bringIn 13 = .ok (.ireturn, 1) := by decide +kernel
theorem dX1_bringIn_14 : decode cX1_bringIn 14 = .ok (.aload_n 0, 1) := by decide +kernel
theorem dX1_bringIn_15 : decode cX1_bringIn 15 = .ok (.getfield 9, 3) := by decide +kernel
theorem dX1_bringIn_18 : decode cX1_bringIn 18 = .ok (.iload_n 1, 1) := by decide +kernel
theorem dX1_bringIn_19 : decode cX1_bringIn 19 = .ok (.iload_n 2, 1) := by decide +kernel
theorem dX1_bringIn_20 : decode cX1_bringIn 20 = .ok (.iload_n 3, 1) := by decide +kernel
theorem dX1_bringIn_21 : decode cX1_bringIn 21 = .ok (.iload 4, 2) := by decide +kernel
theorem dX1_bringIn_23 : decode cX1_bringIn 23 = .ok (.invokevirtual 23, 3) := by decide +kernel
theorem dX1_bringIn_26 : decode cX1_bringIn 26 = .ok (.ifCond .eq 6, 3) := by decide +kernel
theorem dX1_bringIn_29 : decode cX1_bringIn 29 = .ok (.bipush (-3), 2) := by decide +kernel
theorem dX1_bringIn_31 : decode cX1_bringIn 31 = .ok (.ireturn, 1) := by decide +kernel
theorem dX1_bringIn_32 : decode cX1_bringIn 32 = .ok (.aload_n 0, 1) := by decide +kernel
theorem dX1_bringIn_33 : decode cX1_bringIn 33 = .ok (.getfield 15, 3) := by decide +kernel
theorem dX1_bringIn_36 : decode cX1_bringIn 36 = .ok (.aload_n 0, 1) := by decide +kernel
theorem dX1_bringIn_37 : decode cX1_bringIn 37 = .ok (.getfield 9, 3) := by decide +kernel
theorem dX1_bringIn_40 : decode cX1_bringIn 40 = .ok (.invokevirtual 29, 3) := by decide +kernel
theorem dX1_bringIn_43 : decode cX1_bringIn 43 = .ok (.aload_n 0, 1) := by decide +kernel
theorem dX1_bringIn_44 : decode cX1_bringIn 44 = .ok (.getfield 9, 3) := by decide +kernel
theorem dX1_bringIn_47 : decode cX1_bringIn 47 = .ok (.invokevirtual 35, 3) := by decide +kernel
theorem dX1_bringIn_50 : decode cX1_bringIn 50 = .ok (.astore 5, 2) := by decide +kernel
theorem dX1_bringIn_52 : decode cX1_bringIn 52 = .ok (.aload 5, 2) := by decide +kernel
theorem dX1_bringIn_54 : decode cX1_bringIn 54 = .ok (.iload_n 1, 1) := by decide +kernel
theorem dX1_bringIn_55 : decode cX1_bringIn 55 = .ok (.putfield 39, 3) := by decide +kernel
theorem dX1_bringIn_58 : decode cX1_bringIn 58 = .ok (.aload 5, 2) := by decide +kernel
theorem dX1_bringIn_60 : decode cX1_bringIn 60 = .ok (.iload_n 2, 1) := by decide +kernel
theorem dX1_bringIn_61 : decode cX1_bringIn 61 = .ok (.putfield 45, 3) := by decide +kernel
theorem dX1_bringIn_64 : decode cX1_bringIn 64 = .ok (.aload 5, 2) := by decide +kernel
theorem dX1_bringIn_66 : decode cX1_bringIn 66 = .ok (.iload_n 3, 1) := by decide +kernel
theorem dX1_bringIn_67 : decode cX1_bringIn 67 = .ok (.putfield 48, 3) := by decide +kernel
theorem dX1_bringIn_70 : decode cX1_bringIn 70 = .ok (.aload 5, 2) := by decide +kernel
theorem dX1_bringIn_72 : decode cX1_bringIn 72 = .ok (.iload 4, 2) := by decide +kernel
theorem dX1_bringIn_74 : decode cX1_bringIn 74 = .ok (.putfield 51, 3) := by decide +kernel
theorem dX1_bringIn_77 : decode cX1_bringIn 77 = .ok (.aload 5, 2) := by decide +kernel
theorem dX1_bringIn_79 : decode cX1_bringIn 79 = .ok (.aload_n 0, 1) := by decide +kernel
theorem dX1_bringIn_80 : decode cX1_bringIn 80 = .ok (.getfield 9, 3) := by decide +kernel
theorem dX1_bringIn_83 : decode cX1_bringIn 83 = .ok (.getfield 54, 3) := by decide +kernel
theorem dX1_bringIn_86 : decode cX1_bringIn 86 = .ok (.putfield 57, 3) := by decide +kernel
theorem dX1_bringIn_89 : decode cX1_bringIn 89 = .ok (.aload 5, 2) := by decide +kernel
theorem dX1_bringIn_91 : decode cX1_bringIn 91 = .ok (.aload_n 0, 1) := by decide +kernel
theorem dX1_bringIn_92 : decode cX1_bringIn 92 = .ok (.getfield 9, 3) := by decide +kernel
theorem dX1_bringIn_95 : decode cX1_bringIn 95 = .ok (.getfield 54, 3) := by decide +kernel
theorem dX1_bringIn_98 : decode cX1_bringIn 98 = .ok (.putfield 60, 3) := by decide +kernel
theorem dX1_bringIn_101 : decode cX1_bringIn 101 = .ok (.aload 5, 2) := by decide +kernel
theorem dX1_bringIn_103 : decode cX1_bringIn 103 = .ok (.iconst 1, 1) := by decide +kernel
theorem dX1_bringIn_104 : decode cX1_bringIn 104 = .ok (.putfield 63, 3) := by decide +kernel
theorem dX1_bringIn_107 : decode cX1_bringIn 107 = .ok (.aload_n 0, 1) := by decide +kernel
theorem dX1_bringIn_108 : decode cX1_bringIn 108 = .ok (.getfield 9, 3) := by decide +kernel
theorem dX1_bringIn_111 : decode cX1_bringIn 111 = .ok (.getfield 67, 3) := by decide +kernel
theorem dX1_bringIn_114 : decode cX1_bringIn 114 = .ok (.iload_n 1, 1) := by decide +kernel
theorem dX1_bringIn_115 : decode cX1_bringIn 115 = .ok (.aaload, 1) := by decide +kernel
theorem dX1_bringIn_116 : decode cX1_bringIn 116 = .ok (.dup, 1) := by decide +kernel
theorem dX1_bringIn_117 : decode cX1_bringIn 117 = .ok (.getfield 71, 3) := by decide +kernel
theorem dX1_bringIn_120 : decode cX1_bringIn 120 = .ok (.iload_n 2, 1) := by decide +kernel
theorem dX1_bringIn_121 : decode cX1_bringIn 121 = .ok (.iadd, 1) := by decide +kernel
theorem dX1_bringIn_122 : decode cX1_bringIn 122 = .ok (.putfield 71, 3) := by decide +kernel
theorem dX1_bringIn_125 : decode cX1_bringIn 125 = .ok (.aload 5, 2) := by decide +kernel
theorem dX1_bringIn_127 : decode cX1_bringIn 127 = .ok (.getfield 76, 3) := by decide +kernel
theorem dX1_bringIn_130 : decode cX1_bringIn 130 = .ok (.ireturn, 1) := by decide +kernel
def w_X1_bringIn (p0 : Int32) (p1 : Int32) (p2 : Int32) (p3 : Int32) (mm : Mm) (Q9 : Int32 → Mm → Prop) : Prop :=
  w_X9_areGoods p0 p1 p2 p3 mm (fun (r_1 : Int32) => ((¬ r_1 = 0 → w_X8_reasonAgainstEntry 1 p0 p1 p2 p3 mm (fun (r_4 : Int32) => ((r_4 = 0 → w_X3_save 1 mm (fun (m_8 : Mm) => w_X8_addEntry 1 m_8 (fun (r_9 : Nat) (m_10 : Mm) => ok 3 r_9 ∧ ∀ m_12 : Mm, m_12 = sI m_10 3 r_9 1 p0 → (∀ m_13 : Mm, m_13 = sI m_12 3 r_9 2 p1 → (∀ m_14 : Mm, m_14 = sI m_13 3 r_9 3 p2 → (∀ m_15 : Mm, m_15 = sI m_14 3 r_9 4 p3 → (∀ m_16 : Mm, m_16 = sI m_15 3 r_9 5 (m_15.1 1 1 0) → (∀ m_17 : Mm, m_17 = sI m_16 3 r_9 6 (m_16.1 1 1 0) → (∀ m_18 : Mm, m_18 = sI m_17 3 r_9 7 1 → (vp_in p0 6 ∧ (∀ m_20 : Mm, m_20 = sI m_18 6 (6 * (1 - 1) + p0.toNatClampNeg + 1) 2 ((m_18.1 6 (6 * (1 - 1) + p0.toNatClampNeg + 1) 2) + p1) → (Q9 (m_20.1 3 r_9 0) m_20)))))))))))) ∧
  (¬ r_4 = 0 → Q9 (-3) mm)))) ∧
  (r_1 = 0 → Q9 (-2) mm)))
def rm_X1_bringIn : Room := { frames := 4, cells := 0, slots := 0, locals := 92 }
theorem hy_X1_bringIn : yX1_bringIn.cls = RX1 ∧ yX1_bringIn.cls ≠ "java/lang/invoke/MethodHandle" ∧ yX1_bringIn.cls ≠ "java/lang/invoke/VarHandle" ∧ (parseMethodDescriptor yX1_bringIn.desc).map (fun d => d.parameters.length) = some 4 := by decide +kernel
set_option maxRecDepth 100000 in
set_option maxHeartbeats 4000000 in
theorem c_X1_bringIn {l : Launch} {D : va_G} {cA : Nat → ClassId} {ad : Nat → Nat → Nat} {A : Nat → Prop} (ax : Ax ad GC A) (p0 : Int32) (p1 : Int32) (p2 : Int32) (p3 : Int32) (mm : Mm) (Q9 : Int32 → Mm → Prop) (h : w_X1_bringIn p0 p1 p2 p3 mm Q9) : Met l yX1_bringIn (.code yX1_bringIn cX1_bringIn 6 (some .int) :: TG) rm_X1_bringIn (PcM TT D cA ad false GC (ZC ad A) [.ref (ad 16 1), .int p0, .int p1, .int p2, .int p3] mm) (AnsI TT D cA ad false GC A Q9) 0 0 A := by
  have zo := ZC_ok ad A
  unfold w_X1_bringIn at h
  refine enterI pl_X1 ⟨rfl, rfl⟩ rfl (Nat.le_of_ble_eq_true rfl) ?_
  intro p e s m args below meth c QQ X hK hZ hnm hE
  refine q_iload_n (j := 1) X dX1_bringIn_0 rfl rfl ?_
  refine q_iload_n (j := 2) X dX1_bringIn_1 rfl rfl ?_
  refine q_iload_n (j := 3) X dX1_bringIn_2 rfl rfl ?_
  refine q_iload (j := 4) X dX1_bringIn_3 rfl ?_
  refine q_calli (q_runSN X hK hZ zo [.int p0, .int p1, .int p2, .int p3] [] rfl rfl (Nat.le_of_ble_eq_true rfl) dX1_bringIn_5 ⟨Nat.le_of_ble_eq_true rfl, Nat.le_of_ble_eq_true rfl⟩ (c_X9_areGoods ax p0 p1 p2 p3 mm _ h) rfl rfl (List.mem_of_getElem? (i := 11) rfl) kw_1_1 kw_2_155 kw_2_154 hy_X9_areGoods.2 ⟨Nat.le_of_ble_eq_true rfl, Nat.le_of_ble_eq_true rfl⟩) (fun r_1 m_2 h => ?_)
  obtain ⟨h, hm⟩ := h
  subst hm
  refine q_if_ne (tgt := 14) X dX1_bringIn_8 (by decide) (fun c_3 => ?_) (fun c_3 => ?_)
  · have h := h.1 c_3
    refine q_aload_n (j := 0) X dX1_bringIn_14 rfl rfl ?_
    refine q_get (k := 0) (v := .ref (ad 1 1)) X hK rfl rfl (Nat.le_of_ble_eq_true rfl) inTX1 (gc (t := 16) (by decide) (ok1 (t := 16) (Nat.le_of_ble_eq_true rfl))) kw_2_75 rfl (rv_nn (a := ad 1) (r := 1) (ok1 (t := 1) (Nat.le_of_ble_eq_true rfl)).1) dX1_bringIn_15 ?_
    refine q_iload_n (j := 1) X dX1_bringIn_18 rfl rfl ?_
    refine q_iload_n (j := 2) X dX1_bringIn_19 rfl rfl ?_
    refine q_iload_n (j := 3) X dX1_bringIn_20 rfl rfl ?_
    refine q_iload (j := 4) X dX1_bringIn_21 rfl ?_
    refine q_calli (q_runVN X hK hZ zo (gc (t := 1) (by decide) (ok1 (t := 1) (Nat.le_of_ble_eq_true rfl))) rfl rfl [.int p0, .int p1, .int p2, .int p3] [] rfl rfl (Nat.le_of_ble_eq_true rfl) dX1_bringIn_23 ⟨Nat.le_of_ble_eq_true rfl, Nat.le_of_ble_eq_true rfl⟩ (c_X8_reasonAgainstEntry ax 1 (ok1 (t := 1) (Nat.le_of_ble_eq_true rfl)) p0 p1 p2 p3 mm _ h) rfl rfl (List.mem_of_getElem? (i := 12) rfl) kw_1_2 kw_2_162 kw_2_161 ks_1 hy_X8_reasonAgainstEntry.2 ⟨Nat.le_of_ble_eq_true rfl, Nat.le_of_ble_eq_true rfl⟩) (fun r_4 m_5 h => ?_)
    obtain ⟨h, hm⟩ := h
    subst hm
    refine q_if_eq (tgt := 32) X dX1_bringIn_26 (by decide) (fun c_6 => ?_) (fun c_6 => ?_)
    · have h := h.1 c_6
      refine q_aload_n (j := 0) X dX1_bringIn_32 rfl rfl ?_
      refine q_get (k := 1) (v := .ref (ad 12 1)) X hK rfl rfl (Nat.le_of_ble_eq_true rfl) inTX1 (gc (t := 16) (by decide) (ok1 (t := 16) (Nat.le_of_ble_eq_true rfl))) kw_2_76 rfl (rv_nn (a := ad 12) (r := 1) (ok1 (t := 12) (Nat.le_of_ble_eq_true rfl)).1) dX1_bringIn_33 ?_
      refine q_aload_n (j := 0) X dX1_bringIn_36 rfl rfl ?_
      refine q_get (k := 0) (v := .ref (ad 1 1)) X hK rfl rfl (Nat.le_of_ble_eq_true rfl) inTX1 (gc (t := 16) (by decide) (ok1 (t := 16) (Nat.le_of_ble_eq_true rfl))) kw_2_75 rfl (rv_nn (a := ad 1) (r := 1) (ok1 (t := 1) (Nat.le_of_ble_eq_true rfl)).1) dX1_bringIn_37 ?_
      refine q_callv (q_runVN X hK hZ zo (gc (t := 12) (by decide) (ok1 (t := 12) (Nat.le_of_ble_eq_true rfl))) rfl rfl [.ref (ad 1 1)] [] rfl rfl (Nat.le_of_ble_eq_true rfl) dX1_bringIn_40 ⟨Nat.le_of_ble_eq_true rfl, Nat.le_of_ble_eq_true rfl⟩ (c_X3_save ax 1 (ok1 (t := 1) (Nat.le_of_ble_eq_true rfl)) mm _ h) rfl rfl (List.mem_of_getElem? (i := 15) rfl) kw_1_8 kw_2_194 kw_2_193 ks_9 hy_X3_save.2 ⟨Nat.le_of_ble_eq_true rfl, Nat.le_of_ble_eq_true rfl⟩) (fun m_8 h => ?_)
      refine q_aload_n (j := 0) X dX1_bringIn_43 rfl rfl ?_
      refine q_get (k := 0) (v := .ref (ad 1 1)) X hK rfl rfl (Nat.le_of_ble_eq_true rfl) inTX1 (gc (t := 16) (by decide) (ok1 (t := 16) (Nat.le_of_ble_eq_true rfl))) kw_2_75 rfl (rv_nn (a := ad 1) (r := 1) (ok1 (t := 1) (Nat.le_of_ble_eq_true rfl)).1) dX1_bringIn_44 ?_
      refine q_callr (q_runVN X hK hZ zo (gc (t := 1) (by decide) (ok1 (t := 1) (Nat.le_of_ble_eq_true rfl))) rfl rfl [] [] rfl rfl (Nat.le_of_ble_eq_true rfl) dX1_bringIn_47 ⟨Nat.le_of_ble_eq_true rfl, Nat.le_of_ble_eq_true rfl⟩ (c_X8_addEntry ax 1 (ok1 (t := 1) (Nat.le_of_ble_eq_true rfl)) m_8 _ h) rfl rfl (List.mem_of_getElem? (i := 22) rfl) kw_1_2 kw_2_222 kw_2_221 ks_16 hy_X8_addEntry.2 ⟨Nat.le_of_ble_eq_true rfl, Nat.le_of_ble_eq_true rfl⟩) (fun r_9 m_10 h => ?_)
      refine q_vstore (lv' := [(5, rv (ad 3) r_9), (0, .ref (ad 16 1)), (1, .int p0), (2, .int p1), (3, .int p2), (4, .int p3)]) X dX1_bringIn_50 (by decide) rfl ?_
      refine q_vload (j := 0) X dX1_bringIn_52 rfl ?_
      refine q_iload_n (j := 2) X dX1_bringIn_54 rfl rfl ?_
      obtain ⟨k_11, h⟩ := h
      rw [rv_nn (a := ad 3) (r := r_9) k_11.1]
      refine q_putIN (k := 1) X ax hK rfl rfl (Nat.le_of_ble_eq_true rfl) inTX2 (gc (t := 3) (by decide) k_11) tyX2 tyX2_ok nmX2 (List.mem_of_getElem? (i := 15) rfl) rfl rfl (tyX2_ok 1 (Nat.le_of_ble_eq_true rfl)) rfl dX1_bringIn_55 ?_
      refine q_nmP (fun m_12 em_12 => ?_)
      have h := h m_12 em_12
      refine q_aload (j := 0) X dX1_bringIn_58 rfl ?_
      refine q_iload_n (j := 3) X dX1_bringIn_60 rfl rfl ?_
      refine q_putIN (k := 2) X ax hK rfl rfl (Nat.le_of_ble_eq_true rfl) inTX2 (gc (t := 3) (by decide) k_11) tyX2 tyX2_ok nmX2 (List.mem_of_getElem? (i := 18) rfl) rfl rfl (tyX2_ok 2 (Nat.le_of_ble_eq_true rfl)) rfl dX1_bringIn_61 ?_
      refine q_nmP (fun m_13 em_13 => ?_)
      have h := h m_13 em_13
      refine q_aload (j := 0) X dX1_bringIn_64 rfl ?_
      refine q_iload_n (j := 4) X dX1_bringIn_66 rfl rfl ?_
      refine q_putIN (k := 3) X ax hK rfl rfl (Nat.le_of_ble_eq_true rfl) inTX2 (gc (t := 3) (by decide) k_11) tyX2 tyX2_ok nmX2 (List.mem_of_getElem? (i := 21) rfl) rfl rfl (tyX2_ok 3 (Nat.le_of_ble_eq_true rfl)) rfl dX1_bringIn_67 ?_
      refine q_nmP (fun m_14 em_14 => ?_)
      have h := h m_14 em_14
      refine q_aload (j := 0) X dX1_bringIn_70 rfl ?_
      refine q_iload (j := 5) X dX1_bringIn_72 rfl ?_
      refine q_putIN (k := 4) X ax hK rfl rfl (Nat.le_of_ble_eq_true rfl) inTX2 (gc (t := 3) (by decide) k_11) tyX2 tyX2_ok nmX2 (List.mem_of_getElem? (i := 24) rfl) rfl rfl (tyX2_ok 4 (Nat.le_of_ble_eq_true rfl)) rfl dX1_bringIn_74 ?_
      refine q_nmP (fun m_15 em_15 => ?_)
      have h := h m_15 em_15
      refine q_aload (j := 0) X dX1_bringIn_77 rfl ?_
      refine q_aload_n (j := 1) X dX1_bringIn_79 rfl rfl ?_
      refine q_get (k := 0) (v := .ref (ad 1 1)) X hK rfl rfl (Nat.le_of_ble_eq_true rfl) inTX1 (gc (t := 16) (by decide) (ok1 (t := 16) (Nat.le_of_ble_eq_true rfl))) kw_2_75 rfl (rv_nn (a := ad 1) (r := 1) (ok1 (t := 1) (Nat.le_of_ble_eq_true rfl)).1) dX1_bringIn_80 ?_
      refine q_getN (k := 0) (v := .int (m_15.1 1 1 0)) X hK rfl rfl (Nat.le_of_ble_eq_true rfl) inTX8 (gc (t := 1) (by decide) (ok1 (t := 1) (Nat.le_of_ble_eq_true rfl))) (List.mem_of_getElem? (i := 66) rfl) rfl rfl dX1_bringIn_83 ?_
      refine q_putIN (k := 5) X ax hK rfl rfl (Nat.le_of_ble_eq_true rfl) inTX2 (gc (t := 3) (by decide) k_11) tyX2 tyX2_ok nmX2 (List.mem_of_getElem? (i := 27) rfl) rfl rfl (tyX2_ok 5 (Nat.le_of_ble_eq_true rfl)) rfl dX1_bringIn_86 ?_
      refine q_nmP (fun m_16 em_16 => ?_)
      have h := h m_16 em_16
      refine q_aload (j := 0) X dX1_bringIn_89 rfl ?_
      refine q_aload_n (j := 1) X dX1_bringIn_91 rfl rfl ?_
      refine q_get (k := 0) (v := .ref (ad 1 1)) X hK rfl rfl (Nat.le_of_ble_eq_true rfl) inTX1 (gc (t := 16) (by decide) (ok1 (t := 16) (Nat.le_of_ble_eq_true rfl))) kw_2_75 rfl (rv_nn (a := ad 1) (r := 1) (ok1 (t := 1) (Nat.le_of_ble_eq_true rfl)).1) dX1_bringIn_92 ?_
      refine q_getN (k := 0) (v := .int (m_16.1 1 1 0)) X hK rfl rfl (Nat.le_of_ble_eq_true rfl) inTX8 (gc (t := 1) (by decide) (ok1 (t := 1) (Nat.le_of_ble_eq_true rfl))) (List.mem_of_getElem? (i := 66) rfl) rfl rfl dX1_bringIn_95 ?_
      refine q_putIN (k := 6) X ax hK rfl rfl (Nat.le_of_ble_eq_true rfl) inTX2 (gc (t := 3) (by decide) k_11) tyX2 tyX2_ok nmX2 (List.mem_of_getElem? (i := 29) rfl) rfl rfl (tyX2_ok 6 (Nat.le_of_ble_eq_true rfl)) rfl dX1_bringIn_98 ?_
      refine q_nmP (fun m_17 em_17 => ?_)
      have h := h m_17 em_17
      refine q_aload (j := 0) X dX1_bringIn_101 rfl ?_
      refine q_iconst (v := 1) X dX1_bringIn_103 (by decide) ?_
      refine q_putBN (k := 7) X ax hK rfl rfl (Nat.le_of_ble_eq_true rfl) inTX2 (gc (t := 3) (by decide) k_11) tyX2 tyX2_ok nmX2 (List.mem_of_getElem? (i := 31) rfl) rfl rfl (tyX2_ok 7 (Nat.le_of_ble_eq_true rfl)) (Or.inr rfl) rfl dX1_bringIn_104 ?_
      refine q_nmP (fun m_18 em_18 => ?_)
      have h := h m_18 em_18
      refine q_aload_n (j := 1) X dX1_bringIn_107 rfl rfl ?_
      refine q_get (k := 0) (v := .ref (ad 1 1)) X hK rfl rfl (Nat.le_of_ble_eq_true rfl) inTX1 (gc (t := 16) (by decide) (ok1 (t := 16) (Nat.le_of_ble_eq_true rfl))) kw_2_75 rfl (rv_nn (a := ad 1) (r := 1) (ok1 (t := 1) (Nat.le_of_ble_eq_true rfl)).1) dX1_bringIn_108 ?_
      refine q_getN (k := 9) (v := .ref (ad 10 1)) X hK rfl rfl (Nat.le_of_ble_eq_true rfl) inTX8 (gc (t := 1) (by decide) (ok1 (t := 1) (Nat.le_of_ble_eq_true rfl))) (List.mem_of_getElem? (i := 79) rfl) rfl (rv_nn (a := ad 10) (r := 1) (ok1 (t := 10) (Nat.le_of_ble_eq_true rfl)).1) dX1_bringIn_111 ?_
      refine q_iload_n (j := 2) X dX1_bringIn_114 rfl rfl ?_
      obtain ⟨b_19, h⟩ := h
      refine q_aald (t := 10) (i := 1) (jn := p0.toNatClampNeg) (v := .ref (ad 6 (6 * (1 - 1) + p0.toNatClampNeg + 1))) X hK rfl rfl (gc (t := 10) (by decide) (ok1 (t := 10) (Nat.le_of_ble_eq_true rfl))) rfl b_19 rfl (rv_nn (a := ad 6) (r := (6 * (1 - 1) + p0.toNatClampNeg + 1)) (ok_ki (ok1 (t := 10) (Nat.le_of_ble_eq_true rfl)) b_19).1) dX1_bringIn_115 ?_
      refine q_dup X dX1_bringIn_116 rfl ?_
      refine q_getN (k := 2) (v := .int (m_18.1 6 (6 * (1 - 1) + p0.toNatClampNeg + 1) 2)) X hK rfl rfl (Nat.le_of_ble_eq_true rfl) inTX5 (gc (t := 6) (by decide) (ok_ki (ok1 (t := 10) (Nat.le_of_ble_eq_true rfl)) b_19)) (List.mem_of_getElem? (i := 54) rfl) rfl rfl dX1_bringIn_117 ?_
      refine q_iload_n (j := 3) X dX1_bringIn_120 rfl rfl ?_
      refine q_iadd X dX1_bringIn_121 ?_
      refine q_putIN (k := 2) X ax hK rfl rfl (Nat.le_of_ble_eq_true rfl) inTX5 (gc (t := 6) (by decide) (ok_ki (ok1 (t := 10) (Nat.le_of_ble_eq_true rfl)) b_19)) tyX5 tyX5_ok nmX5 (List.mem_of_getElem? (i := 54) rfl) rfl rfl (tyX5_ok 2 (Nat.le_of_ble_eq_true rfl)) rfl dX1_bringIn_122 ?_
      refine q_nmP (fun m_20 em_20 => ?_)
      have h := h m_20 em_20
      refine q_aload (j := 0) X dX1_bringIn_125 rfl ?_
      refine q_getN (k := 0) (v := .int (m_20.1 3 r_9 0)) X hK rfl rfl (Nat.le_of_ble_eq_true rfl) inTX2 (gc (t := 3) (by decide) k_11) (List.mem_of_getElem? (i := 12) rfl) rfl rfl dX1_bringIn_127 ?_
      exact hE _ _ _ _ dX1_bringIn_130 h
    · have h := h.2 c_6
      refine q_bipush (v := (-3)) X dX1_bringIn_29 (by decide) ?_
      exact hE _ _ _ _ dX1_bringIn_31 h
  · have h := h.2 c_3
    refine q_bipush (v := (-2)) X dX1_bringIn_11 (by decide) ?_
    exact hE _ _ _ _ dX1_bringIn_13 h
theorem dX8_findEntry_0 : decode cX8_findEntry 0 = .ok (.iconst 0, 1) := by decide +kernel
theorem dX8_findEntry_1 : decode cX8_findEntry 1 = .ok (.istore_n 2, 1) := by decide +kernel
theorem dX8_findEntry_2 : decode cX8_findEntry 2 = .ok (.iload_n 2, 1) := by decide +kernel
theorem dX8_findEntry_3 : decode cX8_findEntry 3 = .ok (.aload_n 0, 1) := by decide +kernel
theorem dX8_findEntry_4 : decode cX8_findEntry 4 = .ok (.getfield 62, 3) := by decide +kernel
theorem dX8_findEntry_7 : decode cX8_findEntry 7 = .ok (.if_icmp .ge 29, 3) := by decide +kernel
theorem dX8_findEntry_10 : decode cX8_findEntry 10 = .ok (.aload_n 0, 1) := by decide +kernel
theorem dX8_findEntry_11 : decode cX8_findEntry 11 = .ok (.getfield 20, 3) := by decide +kernel
theorem dX8_findEntry_14 : decode cX8_findEntry 14 = .ok (.iload_n 2, 1) := by decide +kernel
theorem dX8_findEntry_15 : decode cX8_findEntry 15 = .ok (.aaload, 1) := by decide +kernel
theorem dX8_findEntry_16 : decode cX8_findEntry 16 = .ok (.getfield 90, 3) := by decide +kernel
theorem dX8_findEntry_19 : decode cX8_findEntry 19 = .ok (.iload_n 1, 1) := by decide +kernel
theorem dX8_findEntry_20 : decode cX8_findEntry 20 = .ok (.if_icmp .ne 10, 3) := by decide +kernel
theorem dX8_findEntry_23 : decode cX8_findEntry 23 = .ok (.aload_n 0, 1) := by decide +kernel
theorem dX8_findEntry_24 : decode cX8_findEntry 24 = .ok (.getfield 20, 3) := by decide +kernel
theorem dX8_findEntry_27 : decode cX8_findEntry 27 = .ok (.iload_n 2, 1) := by decide +kernel
theorem dX8_findEntry_28 : decode cX8_findEntry 28 = .ok (.aaload, 1) := by decide +kernel
theorem dX8_findEntry_29 : decode cX8_findEntry 29 = .ok (.areturn, 1) := by decide +kernel
theorem dX8_findEntry_30 : decode cX8_findEntry 30 = .ok (.iinc 2 1, 3) := by decide +kernel
theorem dX8_findEntry_33 : decode cX8_findEntry 33 = .ok (.goto (-31), 3) := by decide +kernel
theorem dX8_findEntry_36 : decode cX8_findEntry 36 = .ok (.aconst_null, 1) := by decide +kernel
theorem dX8_findEntry_37 : decode cX8_findEntry 37 = .ok (.areturn, 1) := by decide +kernel
def w_X8_findEntry_B2 (i : Nat) (p0 : Int32) (mm : Mm) (Q9 : Nat → Prop) (K_2 : Int32 → Prop) (y_1 : Int32) : Prop :=
  (((mm.1 1 i 1) ≤ y_1 → Q9 0) ∧
  (¬ (mm.1 1 i 1) ≤ y_1 → vp_in y_1 16 ∧ (ok 3 (mm.2 7 i y_1.toNatClampNeg) ∧ (((¬ (mm.1 3 (mm.2 7 i y_1.toNatClampNeg) 0) = p0 → ∀ x_8 : Int32, x_8 = y_1 + 1 → (K_2 x_8)) ∧
  ((mm.1 3 (mm.2 7 i y_1.toNatClampNeg) 0) = p0 → Q9 (mm.2 7 i y_1.toNatClampNeg)))))))
def w_X8_findEntry (i : Nat) (p0 : Int32) (mm : Mm) (Q9 : Nat → Prop) : Prop :=
  ∃ n, itr (α := Int32) (fun K a => w_X8_findEntry_B2 i p0 mm Q9 (fun z0 => K z0) a) n 0
def rm_X8_findEntry : Room := { frames := 0, cells := 0, slots := 0, locals := 0 }
theorem hy_X8_findEntry : yX8_findEntry.cls = RX8 ∧ yX8_findEntry.cls ≠ "java/lang/invoke/MethodHandle" ∧ yX8_findEntry.cls ≠ "java/lang/invoke/VarHandle" ∧ (parseMethodDescriptor yX8_findEntry.desc).map (fun d => d.parameters.length) = some 1 := by decide +kernel
set_option maxRecDepth 100000 in
set_option maxHeartbeats 4000000 in
theorem c_X8_findEntry {l : Launch} {D : va_G} {cA : Nat → ClassId} {ad : Nat → Nat → Nat} {A : Nat → Prop} (ax : Ax ad GC A) (i : Nat) (hi : ok 1 i) (p0 : Int32) (mm : Mm) (Q9 : Nat → Prop) (h : w_X8_findEntry i p0 mm Q9) : Met l yX8_findEntry (.code yX8_findEntry cX8_findEntry 3 (some (.object "BondWarehouse$Entry")) :: TG) rm_X8_findEntry (PcM TT D cA ad false GC (ZC ad A) [.ref (ad 1 i), .int p0] mm) (AnsQ TT D cA ad false GC 3 A (fun r mm' => Q9 r ∧ mm = mm')) 0 0 A := by
  have zo := ZC_ok ad A
  unfold w_X8_findEntry at h
  refine enterR (Or.inl ⟨_, rfl⟩) pl_X8 ⟨rfl, rfl⟩ rfl (Nat.le_of_ble_eq_true rfl) ?_
  intro p e s m args below meth c QQ X hK hZ hnm hE
  refine q_iconst (v := 0) X dX8_findEntry_0 (by decide) ?_
  refine q_istore_n (lv' := [(2, .int 0), (0, .ref (ad 1 i)), (1, .int p0)]) X dX8_findEntry_1 rfl (by decide) rfl ?_
  refine q_sub [1, 2, 0] rfl ?_
  have L2 : ∀ (n : Nat) (y_1 : Int32), itr (α := Int32) (fun K a => w_X8_findEntry_B2 i p0 mm Q9 (fun z0 => K z0) a) n y_1 → V p l e rm_X8_findEntry s m args below meth c QQ 3 A 0 0 (Rep TT D cA ad false GC mm) 2 [(0, .ref (ad 1 i)), (1, .int p0), (2, .int y_1)] [] := by
    intro n
    induction n with
    | zero => intro y_1 h; exact h.elim
    | succ n ih_3 =>
      intro y_1 h
      have h : w_X8_findEntry_B2 i p0 mm Q9 (fun z0 => itr (α := Int32) (fun K a => w_X8_findEntry_B2 i p0 mm Q9 (fun z0 => K z0) a) n z0) y_1 := h
      unfold w_X8_findEntry_B2 at h
      refine q_iload_n (j := 2) X dX8_findEntry_2 rfl rfl ?_
      refine q_aload_n (j := 0) X dX8_findEntry_3 rfl rfl ?_
      refine q_get (k := 1) (v := .int (mm.1 1 i 1)) X hK rfl rfl (Nat.le_of_ble_eq_true rfl) inTX8 (gc (t := 1) (by decide) hi) kw_1_230 rfl rfl dX8_findEntry_4 ?_
      refine q_icmp_ge (tgt := 36) X dX8_findEntry_7 (by decide) (fun c_4 => ?_) (fun c_4 => ?_)
      · have h := h.1 c_4
        refine q_null X dX8_findEntry_36 ?_
        exact hE _ _ 0 _ dX8_findEntry_37 ⟨h, rfl⟩
      · have h := h.2 c_4
        refine q_aload_n (j := 0) X dX8_findEntry_10 rfl rfl ?_
        refine q_get (k := 6) (v := .ref (ad 7 i)) X hK rfl rfl (Nat.le_of_ble_eq_true rfl) inTX8 (gc (t := 1) (by decide) hi) kw_2_2 rfl (rv_nn (a := ad 7) (r := i) hi.1) dX8_findEntry_11 ?_
        refine q_iload_n (j := 2) X dX8_findEntry_14 rfl rfl ?_
        obtain ⟨b_5, h⟩ := h
        refine q_aald (t := 7) (i := i) (jn := y_1.toNatClampNeg) (v := rv (ad 3) (mm.2 7 i y_1.toNatClampNeg)) X hK rfl rfl (gc (t := 7) (by decide) hi) rfl b_5 rfl rfl dX8_findEntry_15 ?_
        obtain ⟨k_6, h⟩ := h
        rw [rv_nn (a := ad 3) (r := (mm.2 7 i y_1.toNatClampNeg)) k_6.1]
        refine q_getN (k := 0) (v := .int (mm.1 3 (mm.2 7 i y_1.toNatClampNeg) 0)) X hK rfl rfl (Nat.le_of_ble_eq_true rfl) inTX2 (gc (t := 3) (by decide) k_6) (List.mem_of_getElem? (i := 13) rfl) rfl rfl dX8_findEntry_16 ?_
        refine q_iload_n (j := 1) X dX8_findEntry_19 rfl rfl ?_
        refine q_icmp_ne (tgt := 30) X dX8_findEntry_20 (by decide) (fun c_7 => ?_) (fun c_7 => ?_)
        · have h := h.1 c_7
          obtain ⟨x_8, ex_8⟩ : ∃ z : Int32, z = y_1 + 1 := ⟨_, rfl⟩
          have h := h x_8 ex_8
          refine q_iinc (j := 2) (v := x_8) (lv' := [(2, .int x_8), (0, .ref (ad 1 i)), (1, .int p0)]) X dX8_findEntry_30 rfl (by rw [ex_8]; rfl) (by decide) rfl ?_
          refine q_goto (tgt := 2) X dX8_findEntry_33 (by decide) ?_
          refine q_sub [1, 2, 0] rfl ?_
          exact ih_3 x_8 h
        · have h := h.2 c_7
          refine q_aload_n (j := 0) X dX8_findEntry_23 rfl rfl ?_
          refine q_get (k := 6) (v := .ref (ad 7 i)) X hK rfl rfl (Nat.le_of_ble_eq_true rfl) inTX8 (gc (t := 1) (by decide) hi) kw_2_2 rfl (rv_nn (a := ad 7) (r := i) hi.1) dX8_findEntry_24 ?_
          refine q_iload_n (j := 2) X dX8_findEntry_27 rfl rfl ?_
          refine q_aald (t := 7) (i := i) (jn := y_1.toNatClampNeg) (v := rv (ad 3) (mm.2 7 i y_1.toNatClampNeg)) X hK rfl rfl (gc (t := 7) (by decide) hi) rfl b_5 rfl rfl dX8_findEntry_28 ?_
          exact hE _ _ (mm.2 7 i y_1.toNatClampNeg) _ dX8_findEntry_29 ⟨h, rfl⟩
  obtain ⟨n_9, h⟩ := h
  exact L2 n_9 0 h
theorem dX8_reasonAgainstLeaving_0 : decode cX8_reasonAgainstLeaving 0 = .ok (.aload_n 0, 1) := by decide +kernel
theorem dX8_reasonAgainstLeaving_1 : decode cX8_reasonAgainstLeaving 1 = .ok (.getfield 12, 3) := by decide +kernel
theorem dX8_reasonAgainstLeaving_4 : decode cX8_reasonAgainstLeaving 4 = .ok (.getfield 153, 3) := by decide +kernel
theorem dX8_reasonAgainstLeaving_7 : decode cX8_reasonAgainstLeaving 7 = .ok (.ifCond .le 5, 3) := by decide +kernel
theorem dX8_reasonAgainstLeaving_10 : decode cX8_reasonAgainstLeaving 10 = .ok (.iconst 1, 1) := by decide +kernel
theorem dX8_reasonAgainstLeaving_11 : decode cX8_reasonAgainstLeaving 11 = .ok (.ireturn, 1) := by decide +kernel
theorem dX8_reasonAgainstLeaving_12 : decode cX8_reasonAgainstLeaving 12 = .ok (.aload_n 0, 1) := by decide +kernel
theorem dX8_reasonAgainstLeaving_13 : decode cX8_reasonAgainstLeaving 13 = .ok (.getfield 32, 3) := by decide +kernel
theorem dX8_reasonAgainstLeaving_16 : decode cX8_reasonAgainstLeaving 16 = .ok (.aload_n 1, 1) := by decide +kernel
theorem dX8_reasonAgainstLeaving_17 : decode cX8_reasonAgainstLeaving 17 = .ok (.getfield 150, 3) := by decide +kernel
theorem dX8_reasonAgainstLeaving_20 : decode cX8_reasonAgainstLeaving 20 = .ok (.aaload, 1) := by decide +kernel
theorem dX8_reasonAgainstLeaving_21 : decode cX8_reasonAgainstLeaving 21 = .ok (.invokevirtual 156, 3) := by decide +kernel
theorem dX8_reasonAgainstLeaving_24 : decode cX8_reasonAgainstLeaving 24 = .ok (.ifCond .eq 5, 3) := by decide +kernel
theorem dX8_reasonAgainstLeaving_27 : decode cX8_reasonAgainstLeaving 27 = .ok (.iconst 2, 1) := by decide +kernel
theorem dX8_reasonAgainstLeaving_28 : decode cX8_reasonAgainstLeaving 28 = .ok (.ireturn, 1) := by decide +kernel
theorem dX8_reasonAgainstLeaving_29 : decode cX8_reasonAgainstLeaving 29 = .ok (.aload_n 1, 1) := by decide +kernel
theorem dX8_reasonAgainstLeaving_30 : decode cX8_reasonAgainstLeaving 30 = .ok (.getfield 146, 3) := by decide +kernel
theorem dX8_reasonAgainstLeaving_33 : decode cX8_reasonAgainstLeaving 33 = .ok (.ifCond .ne 5, 3) := by decide +kernel
theorem dX8_reasonAgainstLeaving_36 : decode cX8_reasonAgainstLeaving 36 = .ok (.iconst 3, 1) := by decide +kernel
theorem dX8_reasonAgainstLeaving_37 : decode cX8_reasonAgainstLeaving 37 = .ok (.ireturn, 1) := by decide +kernel
theorem dX8_reasonAgainstLeaving_38 : decode cX8_reasonAgainstLeaving 38 = .ok (.aload_n 1, 1) := by decide +kernel
theorem dX8_reasonAgainstLeaving_39 : decode cX8_reasonAgainstLeaving 39 = .ok (.getfield 97, 3) := by decide +kernel
theorem dX8_reasonAgainstLeaving_42 : decode cX8_reasonAgainstLeaving 42 = .ok (.iload_n 2, 1) := by decide +kernel
theorem dX8_reasonAgainstLeaving_43 : decode cX8_reasonAgainstLeaving 43 = .ok (.if_icmp .ge 7, 3) := by decide +kernel
theorem dX8_reasonAgainstLeaving_46 : decode cX8_reasonAgainstLeaving 46 = .ok (.iconst 4, 1) := by decide +kernel
theorem dX8_reasonAgainstLeaving_47 : decode cX8_reasonAgainstLeaving 47 = .ok (.goto 4, 3) := by decide +kernel
theorem dX8_reasonAgainstLeaving_50 : decode cX8_reasonAgainstLeaving 50 = .ok (.iconst 0, 1) := by decide +kernel
theorem dX8_reasonAgainstLeaving_51 : decode cX8_reasonAgainstLeaving 51 = .ok (.ireturn, 1) := by decide +kernel
def w_X8_reasonAgainstLeaving (i : Nat) (p0 : Nat) (p1 : Int32) (mm : Mm) (Q9 : Int32 → Prop) : Prop :=
  (((mm.1 2 i 2) ≤ 0 → vp_in (mm.1 3 p0 4) 5 ∧ (w_X0_isSealed (5 * (i - 1) + (mm.1 3 p0 4).toNatClampNeg + 1) mm (fun (r_3 : Int32) => ((r_3 = 0 → ((¬ (mm.1 3 p0 7) = 0 → ((p1 ≤ (mm.1 3 p0 2) → Q9 0) ∧
  (¬ p1 ≤ (mm.1 3 p0 2) → Q9 4))) ∧
  ((mm.1 3 p0 7) = 0 → Q9 3))) ∧
  (¬ r_3 = 0 → Q9 2))))) ∧
  (¬ (mm.1 2 i 2) ≤ 0 → Q9 1))
def rm_X8_reasonAgainstLeaving : Room := { frames := 1, cells := 0, slots := 0, locals := 20 }
theorem hy_X8_reasonAgainstLeaving : yX8_reasonAgainstLeaving.cls = RX8 ∧ yX8_reasonAgainstLeaving.cls ≠ "java/lang/invoke/MethodHandle" ∧ yX8_reasonAgainstLeaving.cls ≠ "java/lang/invoke/VarHandle" ∧ (parseMethodDescriptor yX8_reasonAgainstLeaving.desc).map (fun d => d.parameters.length) = some 2 := by decide +kernel
set_option maxRecDepth 100000 in
set_option maxHeartbeats 4000000 in
theorem c_X8_reasonAgainstLeaving {l : Launch} {D : va_G} {cA : Nat → ClassId} {ad : Nat → Nat → Nat} {A : Nat → Prop} (ax : Ax ad GC A) (i : Nat) (hi : ok 1 i) (p0 : Nat) (hp0 : ok 3 p0) (p1 : Int32) (mm : Mm) (Q9 : Int32 → Prop) (h : w_X8_reasonAgainstLeaving i p0 p1 mm Q9) : Met l yX8_reasonAgainstLeaving (.code yX8_reasonAgainstLeaving cX8_reasonAgainstLeaving 3 (some .int) :: TG) rm_X8_reasonAgainstLeaving (PcM TT D cA ad false GC (ZC ad A) [.ref (ad 1 i), .ref (ad 3 p0), .int p1] mm) (AnsI TT D cA ad false GC A (fun r mm' => Q9 r ∧ mm = mm')) 0 0 A := by
  have zo := ZC_ok ad A
  unfold w_X8_reasonAgainstLeaving at h
  refine enterI pl_X8 ⟨rfl, rfl⟩ rfl (Nat.le_of_ble_eq_true rfl) ?_
  intro p e s m args below meth c QQ X hK hZ hnm hE
  refine q_aload_n (j := 0) X dX8_reasonAgainstLeaving_0 rfl rfl ?_
  refine q_get (k := 5) (v := .ref (ad 2 i)) X hK rfl rfl (Nat.le_of_ble_eq_true rfl) inTX8 (gc (t := 1) (by decide) hi) kw_1_239 rfl (rv_nn (a := ad 2) (r := i) hi.1) dX8_reasonAgainstLeaving_1 ?_
  refine q_getN (k := 2) (v := .int (mm.1 2 i 2)) X hK rfl rfl (Nat.le_of_ble_eq_true rfl) inTX6 (gc (t := 2) (by decide) hi) (List.mem_of_getElem? (i := 6) rfl) rfl rfl dX8_reasonAgainstLeaving_4 ?_
  refine q_if_le (tgt := 12) X dX8_reasonAgainstLeaving_7 (by decide) (fun c_1 => ?_) (fun c_1 => ?_)
  · have h := h.1 c_1
    refine q_aload_n (j := 0) X dX8_reasonAgainstLeaving_12 rfl rfl ?_
    refine q_get (k := 8) (v := .ref (ad 9 i)) X hK rfl rfl (Nat.le_of_ble_eq_true rfl) inTX8 (gc (t := 1) (by decide) hi) kw_2_6 rfl (rv_nn (a := ad 9) (r := i) hi.1) dX8_reasonAgainstLeaving_13 ?_
    refine q_aload_n (j := 1) X dX8_reasonAgainstLeaving_16 rfl rfl ?_
    refine q_getN (k := 4) (v := .int (mm.1 3 p0 4)) X hK rfl rfl (Nat.le_of_ble_eq_true rfl) inTX2 (gc (t := 3) (by decide) hp0) (List.mem_of_getElem? (i := 25) rfl) rfl rfl dX8_reasonAgainstLeaving_17 ?_
    obtain ⟨b_2, h⟩ := h
    refine q_aald (t := 9) (i := i) (jn := (mm.1 3 p0 4).toNatClampNeg) (v := .ref (ad 5 (5 * (i - 1) + (mm.1 3 p0 4).toNatClampNeg + 1))) X hK rfl rfl (gc (t := 9) (by decide) hi) rfl b_2 rfl (rv_nn (a := ad 5) (r := (5 * (i - 1) + (mm.1 3 p0 4).toNatClampNeg + 1)) (ok_ch hi b_2).1) dX8_reasonAgainstLeaving_20 ?_
    refine q_calli (q_runVN X hK hZ zo (gc (t := 5) (by decide) (ok_ch hi b_2)) rfl rfl [] [] rfl rfl (Nat.le_of_ble_eq_true rfl) dX8_reasonAgainstLeaving_21 ⟨Nat.le_of_ble_eq_true rfl, Nat.le_of_ble_eq_true rfl⟩ (c_X0_isSealed ax (5 * (i - 1) + (mm.1 3 p0 4).toNatClampNeg + 1) (ok_ch hi b_2) mm _ h) rfl rfl (List.mem_of_getElem? (i := 13) rfl) kw_1_6 kw_2_166 kw_2_165 ks_2 hy_X0_isSealed.2 ⟨Nat.le_of_ble_eq_true rfl, Nat.le_of_ble_eq_true rfl⟩) (fun r_3 m_4 h => ?_)
    obtain ⟨h, hm⟩ := h
    subst hm
    refine q_if_eq (tgt := 29) X dX8_reasonAgainstLeaving_24 (by decide) (fun c_5 => ?_) (fun c_5 => ?_)
    · have h := h.1 c_5
      refine q_aload_n (j := 1) X dX8_reasonAgainstLeaving_29 rfl rfl ?_
      refine q_getN (k := 7) (v := .int (mm.1 3 p0 7)) X hK rfl rfl (Nat.le_of_ble_eq_true rfl) inTX2 (gc (t := 3) (by decide) hp0) (List.mem_of_getElem? (i := 32) rfl) rfl rfl dX8_reasonAgainstLeaving_30 ?_
      refine q_if_ne (tgt := 38) X dX8_reasonAgainstLeaving_33 (by decide) (fun c_6 => ?_) (fun c_6 => ?_)
      · have h := h.1 c_6
        refine q_aload_n (j := 1) X dX8_reasonAgainstLeaving_38 rfl rfl ?_
        refine q_getN (k := 2) (v := .int (mm.1 3 p0 2)) X hK rfl rfl (Nat.le_of_ble_eq_true rfl) inTX2 (gc (t := 3) (by decide) hp0) (List.mem_of_getElem? (i := 19) rfl) rfl rfl dX8_reasonAgainstLeaving_39 ?_
        refine q_iload_n (j := 2) X dX8_reasonAgainstLeaving_42 rfl rfl ?_
        refine q_icmp_ge (tgt := 50) X dX8_reasonAgainstLeaving_43 (by decide) (fun c_7 => ?_) (fun c_7 => ?_)
        · have h := h.1 c_7
          refine q_iconst (v := 0) X dX8_reasonAgainstLeaving_50 (by decide) ?_
          exact hE _ _ _ _ dX8_reasonAgainstLeaving_51 ⟨h, rfl⟩
        · have h := h.2 c_7
          refine q_iconst (v := 4) X dX8_reasonAgainstLeaving_46 (by decide) ?_
          refine q_goto (tgt := 51) X dX8_reasonAgainstLeaving_47 (by decide) ?_
          exact hE _ _ _ _ dX8_reasonAgainstLeaving_51 ⟨h, rfl⟩
      · have h := h.2 c_6
        refine q_iconst (v := 3) X dX8_reasonAgainstLeaving_36 (by decide) ?_
        exact hE _ _ _ _ dX8_reasonAgainstLeaving_37 ⟨h, rfl⟩
    · have h := h.2 c_5
      refine q_iconst (v := 2) X dX8_reasonAgainstLeaving_27 (by decide) ?_
      exact hE _ _ _ _ dX8_reasonAgainstLeaving_28 ⟨h, rfl⟩
  · have h := h.2 c_1
    refine q_iconst (v := 1) X dX8_reasonAgainstLeaving_10 (by decide) ?_
    exact hE _ _ _ _ dX8_reasonAgainstLeaving_11 ⟨h, rfl⟩
theorem dX2_shareOf_0 : decode cX2_shareOf 0 = .ok (.aload_n 0, 1) := by decide +kernel
theorem dX2_shareOf_1 : decode cX2_shareOf 1 = .ok (.getfield 16, 3) := by decide +kernel
theorem dX2_shareOf_4 : decode cX2_shareOf 4 = .ok (.ifCond .gt 5, 3) := by decide +kernel
theorem dX2_shareOf_7 : decode cX2_shareOf 7 = .ok (.iconst 0, 1) := by decide +kernel
theorem dX2_shareOf_8 : decode cX2_shareOf 8 = .ok (.ireturn, 1) := by decide +kernel
theorem dX2_shareOf_9 : decode cX2_shareOf 9 = .ok (.aload_n 0, 1) := by decide +kernel
theorem dX2_shareOf_10 : decode cX2_shareOf 10 = .ok (.getfield 19, 3) := by decide +kernel
theorem dX2_shareOf_13 : decode cX2_shareOf 13 = .ok (.iload_n 1, 1) := by decide +kernel
theorem dX2_shareOf_14 : decode cX2_shareOf 14 = .ok (.imul, 1) := by decide +kernel
theorem dX2_shareOf_15 : decode cX2_shareOf 15 = .ok (.aload_n 0, 1) := by decide +kernel
theorem dX2_shareOf_16 : decode cX2_shareOf 16 = .ok (.getfield 16, 3) := by decide +kernel
theorem dX2_shareOf_19 : decode cX2_shareOf 19 = .ok (.idiv, 1) := by decide +kernel
theorem dX2_shareOf_20 : decode cX2_shareOf 20 = .ok (.ireturn, 1) := by decide +kernel
def w_X2_shareOf (i : Nat) (p0 : Int32) (mm : Mm) (Q9 : Int32 → Prop) : Prop :=
  ((0 < (mm.1 3 i 2) → ¬ (mm.1 3 i 2) = 0 ∧ (Q9 (((mm.1 3 i 3) * p0) / (mm.1 3 i 2)))) ∧
  (¬ 0 < (mm.1 3 i 2) → Q9 0))
def rm_X2_shareOf : Room := { frames := 0, cells := 0, slots := 0, locals := 0 }
theorem hy_X2_shareOf : yX2_shareOf.cls = RX2 ∧ yX2_shareOf.cls ≠ "java/lang/invoke/MethodHandle" ∧ yX2_shareOf.cls ≠ "java/lang/invoke/VarHandle" ∧ (parseMethodDescriptor yX2_shareOf.desc).map (fun d => d.parameters.length) = some 1 := by decide +kernel
set_option maxRecDepth 100000 in
set_option maxHeartbeats 4000000 in
theorem c_X2_shareOf {l : Launch} {D : va_G} {cA : Nat → ClassId} {ad : Nat → Nat → Nat} {A : Nat → Prop} (ax : Ax ad GC A) (i : Nat) (hi : ok 3 i) (p0 : Int32) (mm : Mm) (Q9 : Int32 → Prop) (h : w_X2_shareOf i p0 mm Q9) : Met l yX2_shareOf (.code yX2_shareOf cX2_shareOf 2 (some .int) :: TG) rm_X2_shareOf (PcM TT D cA ad false GC (ZC ad A) [.ref (ad 3 i), .int p0] mm) (AnsI TT D cA ad false GC A (fun r mm' => Q9 r ∧ mm = mm')) 0 0 A := by
  have zo := ZC_ok ad A
  unfold w_X2_shareOf at h
  refine enterI pl_X2 ⟨rfl, rfl⟩ rfl (Nat.le_of_ble_eq_true rfl) ?_
  intro p e s m args below meth c QQ X hK hZ hnm hE
  refine q_aload_n (j := 0) X dX2_shareOf_0 rfl rfl ?_
  refine q_get (k := 2) (v := .int (mm.1 3 i 2)) X hK rfl rfl (Nat.le_of_ble_eq_true rfl) inTX2 (gc (t := 3) (by decide) hi) kw_1_93 rfl rfl dX2_shareOf_1 ?_
  refine q_if_gt (tgt := 9) X dX2_shareOf_4 (by decide) (fun c_1 => ?_) (fun c_1 => ?_)
  · have h := h.1 c_1
    refine q_aload_n (j := 0) X dX2_shareOf_9 rfl rfl ?_
    refine q_get (k := 3) (v := .int (mm.1 3 i 3)) X hK rfl rfl (Nat.le_of_ble_eq_true rfl) inTX2 (gc (t := 3) (by decide) hi) kw_1_97 rfl rfl dX2_shareOf_10 ?_
    refine q_iload_n (j := 1) X dX2_shareOf_13 rfl rfl ?_
    refine q_imul X dX2_shareOf_14 ?_
    refine q_aload_n (j := 0) X dX2_shareOf_15 rfl rfl ?_
    refine q_get (k := 2) (v := .int (mm.1 3 i 2)) X hK rfl rfl (Nat.le_of_ble_eq_true rfl) inTX2 (gc (t := 3) (by decide) hi) kw_1_93 rfl rfl dX2_shareOf_16 ?_
    obtain ⟨c_2, h⟩ := h
    refine q_idiv X dX2_shareOf_19 c_2 ?_
    exact hE _ _ _ _ dX2_shareOf_20 ⟨h, rfl⟩
  · have h := h.2 c_1
    refine q_iconst (v := 0) X dX2_shareOf_7 (by decide) ?_
    exact hE _ _ _ _ dX2_shareOf_8 ⟨h, rfl⟩
theorem dX8_dutyNow_0 : decode cX8_dutyNow 0 = .ok (.aload_n 0, 1) := by decide +kernel
theorem dX8_dutyNow_1 : decode cX8_dutyNow 1 = .ok (.getfield 38, 3) := by decide +kernel
theorem dX8_dutyNow_4 : decode cX8_dutyNow 4 = .ok (.aload_n 1, 1) := by decide +kernel
theorem dX8_dutyNow_5 : decode cX8_dutyNow 5 = .ok (.getfield 113, 3) := by decide +kernel
theorem dX8_dutyNow_8 : decode cX8_dutyNow 8 = .ok (.aaload, 1) := by decide +kernel
theorem dX8_dutyNow_9 : decode cX8_dutyNow 9 = .ok (.aload_n 1, 1) := by decide +kernel
theorem dX8_dutyNow_10 : decode cX8_dutyNow 10 = .ok (.iload_n 2, 1) := by decide +kernel
theorem dX8_dutyNow_11 : decode cX8_dutyNow 11 = .ok (.invokevirtual 116, 3) := by decide +kernel
theorem dX8_dutyNow_14 : decode cX8_dutyNow 14 = .ok (.iload_n 2, 1) := by decide +kernel
theorem dX8_dutyNow_15 : decode cX8_dutyNow 15 = .ok (.aload_n 0, 1) := by decide +kernel
theorem dX8_dutyNow_16 : decode cX8_dutyNow 16 = .ok (.aload_n 1, 1) := by decide +kernel
theorem dX8_dutyNow_17 : decode cX8_dutyNow 17 = .ok (.invokevirtual 109, 3) := by decide +kernel
theorem dX8_dutyNow_20 : decode cX8_dutyNow 20 = .ok (.invokevirtual 120, 3) := by decide +kernel
theorem dX8_dutyNow_23 : decode cX8_dutyNow 23 = .ok (.ireturn, 1) := by decide +kernel
def w_X8_dutyNow (i : Nat) (p0 : Nat) (p1 : Int32) (mm : Mm) (Q9 : Int32 → Prop) : Prop :=
  vp_in (mm.1 3 p0 1) 6 ∧ (w_X2_shareOf p0 p1 mm (fun (r_2 : Int32) => w_X8_ageNow i p0 mm (fun (r_4 : Int32) => w_X5_dutyOn (6 * (i - 1) + (mm.1 3 p0 1).toNatClampNeg + 1) r_2 p1 r_4 mm (fun (r_6 : Int32) => Q9 r_6))))
def rm_X8_dutyNow : Room := { frames := 1, cells := 0, slots := 0, locals := 24 }
theorem hy_X8_dutyNow : yX8_dutyNow.cls = RX8 ∧ yX8_dutyNow.cls ≠ "java/lang/invoke/MethodHandle" ∧ yX8_dutyNow.cls ≠ "java/lang/invoke/VarHandle" ∧ (parseMethodDescriptor yX8_dutyNow.desc).map (fun d => d.parameters.length) = some 2 := by decide +kernel
set_option maxRecDepth 100000 in
set_option maxHeartbeats 4000000 in
theorem c_X8_dutyNow {l : Launch} {D : va_G} {cA : Nat → ClassId} {ad : Nat → Nat → Nat} {A : Nat → Prop} (ax : Ax ad GC A) (i : Nat) (hi : ok 1 i) (p0 : Nat) (hp0 : ok 3 p0) (p1 : Int32) (mm : Mm) (Q9 : Int32 → Prop) (h : w_X8_dutyNow i p0 p1 mm Q9) : Met l yX8_dutyNow (.code yX8_dutyNow cX8_dutyNow 3 (some .int) :: TG) rm_X8_dutyNow (PcM TT D cA ad false GC (ZC ad A) [.ref (ad 1 i), .ref (ad 3 p0), .int p1] mm) (AnsI TT D cA ad false GC A (fun r mm' => Q9 r ∧ mm = mm')) 0 0 A := by
  have zo := ZC_ok ad A
  unfold w_X8_dutyNow at h
  refine enterI pl_X8 ⟨rfl, rfl⟩ rfl (Nat.le_of_ble_eq_true rfl) ?_
  intro p e s m args below meth c QQ X hK hZ hnm hE
  refine q_aload_n (j := 0) X dX8_dutyNow_0 rfl rfl ?_
  refine q_get (k := 9) (v := .ref (ad 10 i)) X hK rfl rfl (Nat.le_of_ble_eq_true rfl) inTX8 (gc (t := 1) (by decide) hi) kw_2_9 rfl (rv_nn (a := ad 10) (r := i) hi.1) dX8_dutyNow_1 ?_
  refine q_aload_n (j := 1) X dX8_dutyNow_4 rfl rfl ?_
  refine q_getN (k := 1) (v := .int (mm.1 3 p0 1)) X hK rfl rfl (Nat.le_of_ble_eq_true rfl) inTX2 (gc (t := 3) (by decide) hp0) (List.mem_of_getElem? (i := 16) rfl) rfl rfl dX8_dutyNow_5 ?_
  obtain ⟨b_1, h⟩ := h
  refine q_aald (t := 10) (i := i) (jn := (mm.1 3 p0 1).toNatClampNeg) (v := .ref (ad 6 (6 * (i - 1) + (mm.1 3 p0 1).toNatClampNeg + 1))) X hK rfl rfl (gc (t := 10) (by decide) hi) rfl b_1 rfl (rv_nn (a := ad 6) (r := (6 * (i - 1) + (mm.1 3 p0 1).toNatClampNeg + 1)) (ok_ki hi b_1).1) dX8_dutyNow_8 ?_
  refine q_aload_n (j := 1) X dX8_dutyNow_9 rfl rfl ?_
  refine q_iload_n (j := 2) X dX8_dutyNow_10 rfl rfl ?_
  refine q_calli (q_runVN X hK hZ zo (gc (t := 3) (by decide) hp0) rfl rfl [.int p1] [.ref (ad 6 (6 * (i - 1) + (mm.1 3 p0 1).toNatClampNeg + 1))] rfl rfl (Nat.le_of_ble_eq_true rfl) dX8_dutyNow_11 ⟨Nat.le_of_ble_eq_true rfl, Nat.le_of_ble_eq_true rfl⟩ (c_X2_shareOf ax p0 hp0 p1 mm _ h) rfl rfl (List.mem_of_getElem? (i := 27) rfl) kw_1_4 kw_3_123 kw_3_122 ks_23 hy_X2_shareOf.2 ⟨Nat.le_of_ble_eq_true rfl, Nat.le_of_ble_eq_true rfl⟩) (fun r_2 m_3 h => ?_)
  obtain ⟨h, hm⟩ := h
  subst hm
  refine q_iload_n (j := 2) X dX8_dutyNow_14 rfl rfl ?_
  refine q_aload_n (j := 0) X dX8_dutyNow_15 rfl rfl ?_
  refine q_aload_n (j := 1) X dX8_dutyNow_16 rfl rfl ?_
  refine q_calli (q_runV X hK hZ zo (gc (t := 1) (by decide) hi) rfl rfl [.ref (ad 3 p0)] [.int p1, .int r_2, .ref (ad 6 (6 * (i - 1) + (mm.1 3 p0 1).toNatClampNeg + 1))] rfl rfl (Nat.le_of_ble_eq_true rfl) dX8_dutyNow_17 ⟨Nat.le_of_ble_eq_true rfl, Nat.le_of_ble_eq_true rfl⟩ (c_X8_ageNow ax i hi p0 hp0 mm _ h) rfl rfl (gV kw_2_179 kw_2_181 ks_6 kw_1_2 kw_2_182) hy_X8_ageNow ⟨Nat.le_of_ble_eq_true rfl, Nat.le_of_ble_eq_true rfl⟩) (fun r_4 m_5 h => ?_)
  obtain ⟨h, hm⟩ := h
  subst hm
  refine q_calli (q_runVN X hK hZ zo (gc (t := 6) (by decide) (ok_ki hi b_1)) rfl rfl [.int r_2, .int p1, .int r_4] [] rfl rfl (Nat.le_of_ble_eq_true rfl) dX8_dutyNow_20 ⟨Nat.le_of_ble_eq_true rfl, Nat.le_of_ble_eq_true rfl⟩ (c_X5_dutyOn ax (6 * (i - 1) + (mm.1 3 p0 1).toNatClampNeg + 1) (ok_ki hi b_1) r_2 p1 r_4 mm _ h) rfl rfl (List.mem_of_getElem? (i := 14) rfl) kw_1_7 kw_2_190 kw_2_189 ks_8 hy_X5_dutyOn.2 ⟨Nat.le_of_ble_eq_true rfl, Nat.le_of_ble_eq_true rfl⟩) (fun r_6 m_7 h => ?_)
  obtain ⟨h, hm⟩ := h
  subst hm
  exact hE _ _ _ _ dX8_dutyNow_23 ⟨h, rfl⟩
theorem dX8_reasonAgainstWithdrawal_0 : decode cX8_reasonAgainstWithdrawal 0 = .ok (.aload_n 0, 1) := by decide +kernel
theorem dX8_reasonAgainstWithdrawal_1 : decode cX8_reasonAgainstWithdrawal 1 = .ok (.aload_n 1, 1) := by decide +kernel
theorem dX8_reasonAgainstWithdrawal_2 : decode cX8_reasonAgainstWithdrawal 2 = .ok (.iload_n 2, 1) := by decide +kernel
theorem dX8_reasonAgainstWithdrawal_3 : decode cX8_reasonAgainstWithdrawal 3 = .ok (.invokevirtual 173, 3) := by decide +kernel
theorem dX8_reasonAgainstWithdrawal_6 : decode cX8_reasonAgainstWithdrawal 6 = .ok (.istore_n 3, 1) := by decide +kernel
theorem dX8_reasonAgainstWithdrawal_7 : decode cX8_reasonAgainstWithdrawal 7 = .ok (.iload_n 3, 1) := by decide +kernel
theorem dX8_reasonAgainstWithdrawal_8 : decode cX8_reasonAgainstWithdrawal 8 = .ok (.ifCond .eq 5, 3) := by decide +kernel
theorem dX8_reasonAgainstWithdrawal_11 : decode cX8_reasonAgainstWithdrawal 11 = .ok (.iload_n 3, 1) := by decide +kernel
theorem dX8_reasonAgainstWithdrawal_12 : decode cX8_reasonAgainstWithdrawal 12 = .ok (.ireturn, 1) := by decide +kernel
theorem dX8_reasonAgainstWithdrawal_13 : decode cX8_reasonAgainstWithdrawal 13 = .ok (.aload_n 0, 1) := by decide +kernel
theorem dX8_reasonAgainstWithdrawal_14 : decode cX8_reasonAgainstWithdrawal 14 = .ok (.getfield 12, 3) := by decide +kernel
theorem dX8_reasonAgainstWithdrawal_17 : decode cX8_reasonAgainstWithdrawal 17 = .ok (.getfield 176, 3) := by decide +kernel
theorem dX8_reasonAgainstWithdrawal_20 : decode cX8_reasonAgainstWithdrawal 20 = .ok (.aload_n 0, 1) := by decide +kernel
theorem dX8_reasonAgainstWithdrawal_21 : decode cX8_reasonAgainstWithdrawal 21 = .ok (.aload_n 1, 1) := by decide +kernel
theorem dX8_reasonAgainstWithdrawal_22 : decode cX8_reasonAgainstWithdrawal 22 = .ok (.iload_n 2, 1) := by decide +kernel
theorem dX8_reasonAgainstWithdrawal_23 : decode cX8_reasonAgainstWithdrawal 23 = .ok (.invokevirtual 143, 3) := by decide +kernel
theorem dX8_reasonAgainstWithdrawal_26 : decode cX8_reasonAgainstWithdrawal 26 = .ok (.if_icmp .ge 7, 3) := by decide +kernel
theorem dX8_reasonAgainstWithdrawal_29 : decode cX8_reasonAgainstWithdrawal 29 = .ok (.iconst 5, 1) := by decide +kernel
theorem dX8_reasonAgainstWithdrawal_30 : decode cX8_reasonAgainstWithdrawal 30 = .ok (.goto 4, 3) := by decide +kernel
theorem dX8_reasonAgainstWithdrawal_33 : decode cX8_reasonAgainstWithdrawal 33 = .ok (.iconst 0, 1) := by decide +kernel
theorem dX8_reasonAgainstWithdrawal_34 : decode cX8_reasonAgainstWithdrawal 34 = .ok (.ireturn, 1) := by decide +kernel
def w_X8_reasonAgainstWithdrawal (i : Nat) (p0 : Nat) (p1 : Int32) (mm : Mm) (Q9 : Int32 → Prop) : Prop :=
  w_X8_reasonAgainstLeaving i p0 p1 mm (fun (r_1 : Int32) => ((r_1 = 0 → w_X8_dutyNow i p0 p1 mm (fun (r_4 : Int32) => ((r_4 ≤ (mm.1 2 i 1) → Q9 0) ∧
  (¬ r_4 ≤ (mm.1 2 i 1) → Q9 5)))) ∧
  (¬ r_1 = 0 → Q9 r_1)))
def rm_X8_reasonAgainstWithdrawal : Room := { frames := 2, cells := 0, slots := 0, locals := 46 }
theorem hy_X8_reasonAgainstWithdrawal : yX8_reasonAgainstWithdrawal.cls = RX8 ∧ yX8_reasonAgainstWithdrawal.cls ≠ "java/lang/invoke/MethodHandle" ∧ yX8_reasonAgainstWithdrawal.cls ≠ "java/lang/invoke/VarHandle" ∧ (parseMethodDescriptor yX8_reasonAgainstWithdrawal.desc).map (fun d => d.parameters.length) = some 2 := by decide +kernel
set_option maxRecDepth 100000 in
set_option maxHeartbeats 4000000 in
theorem c_X8_reasonAgainstWithdrawal {l : Launch} {D : va_G} {cA : Nat → ClassId} {ad : Nat → Nat → Nat} {A : Nat → Prop} (ax : Ax ad GC A) (i : Nat) (hi : ok 1 i) (p0 : Nat) (hp0 : ok 3 p0) (p1 : Int32) (mm : Mm) (Q9 : Int32 → Prop) (h : w_X8_reasonAgainstWithdrawal i p0 p1 mm Q9) : Met l yX8_reasonAgainstWithdrawal (.code yX8_reasonAgainstWithdrawal cX8_reasonAgainstWithdrawal 4 (some .int) :: TG) rm_X8_reasonAgainstWithdrawal (PcM TT D cA ad false GC (ZC ad A) [.ref (ad 1 i), .ref (ad 3 p0), .int p1] mm) (AnsI TT D cA ad false GC A (fun r mm' => Q9 r ∧ mm = mm')) 0 0 A := by
  have zo := ZC_ok ad A
  unfold w_X8_reasonAgainstWithdrawal at h
  refine enterI pl_X8 ⟨rfl, rfl⟩ rfl (Nat.le_of_ble_eq_true rfl) ?_
  intro p e s m args below meth c QQ X hK hZ hnm hE
  refine q_aload_n (j := 0) X dX8_reasonAgainstWithdrawal_0 rfl rfl ?_
  refine q_aload_n (j := 1) X dX8_reasonAgainstWithdrawal_1 rfl rfl ?_
  refine q_iload_n (j := 2) X dX8_reasonAgainstWithdrawal_2 rfl rfl ?_
  refine q_calli (q_runV X hK hZ zo (gc (t := 1) (by decide) hi) rfl rfl [.ref (ad 3 p0), .int p1] [] rfl rfl (Nat.le_of_ble_eq_true rfl) dX8_reasonAgainstWithdrawal_3 ⟨Nat.le_of_ble_eq_true rfl, Nat.le_of_ble_eq_true rfl⟩ (c_X8_reasonAgainstLeaving ax i hi p0 hp0 p1 mm _ h) rfl rfl (gV kw_3_112 kw_3_114 ks_21 kw_1_2 kw_3_115) hy_X8_reasonAgainstLeaving ⟨Nat.le_of_ble_eq_true rfl, Nat.le_of_ble_eq_true rfl⟩) (fun r_1 m_2 h => ?_)
  obtain ⟨h, hm⟩ := h
  subst hm
  refine q_istore_n (lv' := [(3, .int r_1), (0, .ref (ad 1 i)), (1, .ref (ad 3 p0)), (2, .int p1)]) X dX8_reasonAgainstWithdrawal_6 rfl (by decide) rfl ?_
  refine q_iload_n (j := 0) X dX8_reasonAgainstWithdrawal_7 rfl rfl ?_
  refine q_if_eq (tgt := 13) X dX8_reasonAgainstWithdrawal_8 (by decide) (fun c_3 => ?_) (fun c_3 => ?_)
  · have h := h.1 c_3
    refine q_aload_n (j := 1) X dX8_reasonAgainstWithdrawal_13 rfl rfl ?_
    refine q_get (k := 5) (v := .ref (ad 2 i)) X hK rfl rfl (Nat.le_of_ble_eq_true rfl) inTX8 (gc (t := 1) (by decide) hi) kw_1_239 rfl (rv_nn (a := ad 2) (r := i) hi.1) dX8_reasonAgainstWithdrawal_14 ?_
    refine q_getN (k := 1) (v := .int (mm.1 2 i 1)) X hK rfl rfl (Nat.le_of_ble_eq_true rfl) inTX6 (gc (t := 2) (by decide) hi) (List.mem_of_getElem? (i := 4) rfl) rfl rfl dX8_reasonAgainstWithdrawal_17 ?_
    refine q_aload_n (j := 1) X dX8_reasonAgainstWithdrawal_20 rfl rfl ?_
    refine q_aload_n (j := 2) X dX8_reasonAgainstWithdrawal_21 rfl rfl ?_
    refine q_iload_n (j := 3) X dX8_reasonAgainstWithdrawal_22 rfl rfl ?_
    refine q_calli (q_runV X hK hZ zo (gc (t := 1) (by decide) hi) rfl rfl [.ref (ad 3 p0), .int p1] [.int (mm.1 2 i 1)] rfl rfl (Nat.le_of_ble_eq_true rfl) dX8_reasonAgainstWithdrawal_23 ⟨Nat.le_of_ble_eq_true rfl, Nat.le_of_ble_eq_true rfl⟩ (c_X8_dutyNow ax i hi p0 hp0 p1 mm _ h) rfl rfl (gV kw_3_116 kw_3_118 ks_22 kw_1_2 kw_3_119) hy_X8_dutyNow ⟨Nat.le_of_ble_eq_true rfl, Nat.le_of_ble_eq_true rfl⟩) (fun r_4 m_5 h => ?_)
    obtain ⟨h, hm⟩ := h
    subst hm
    refine q_icmp_ge (tgt := 33) X dX8_reasonAgainstWithdrawal_26 (by decide) (fun c_6 => ?_) (fun c_6 => ?_)
    · have h := h.1 c_6
      refine q_iconst (v := 0) X dX8_reasonAgainstWithdrawal_33 (by decide) ?_
      exact hE _ _ _ _ dX8_reasonAgainstWithdrawal_34 ⟨h, rfl⟩
    · have h := h.2 c_6
      refine q_iconst (v := 5) X dX8_reasonAgainstWithdrawal_29 (by decide) ?_
      refine q_goto (tgt := 34) X dX8_reasonAgainstWithdrawal_30 (by decide) ?_
      exact hE _ _ _ _ dX8_reasonAgainstWithdrawal_34 ⟨h, rfl⟩
  · have h := h.2 c_3
    refine q_iload_n (j := 0) X dX8_reasonAgainstWithdrawal_11 rfl rfl ?_
    exact hE _ _ _ _ dX8_reasonAgainstWithdrawal_12 ⟨h, rfl⟩
theorem dX6_takeDuty_0 : decode cX6_takeDuty 0 = .ok (.aload_n 0, 1) := by decide +kernel
theorem dX6_takeDuty_1 : decode cX6_takeDuty 1 = .ok (.aload_n 0, 1) := by decide +kernel
theorem dX6_takeDuty_2 : decode cX6_takeDuty 2 = .ok (.getfield 13, 3) := by decide +kernel
theorem dX6_takeDuty_5 : decode cX6_takeDuty 5 = .ok (.iload_n 1, 1) := by decide +kernel
theorem dX6_takeDuty_6 : decode cX6_takeDuty 6 = .ok (.isub, 1) := by decide +kernel
theorem dX6_takeDuty_7 : decode cX6_takeDuty 7 = .ok (.putfield 13, 3) := by decide +kernel
theorem dX6_takeDuty_10 : decode cX6_takeDuty 10 = .ok (.aload_n 0, 1) := by decide +kernel
theorem dX6_takeDuty_11 : decode cX6_takeDuty 11 = .ok (.aload_n 0, 1) := by decide +kernel
theorem dX6_takeDuty_12 : decode cX6_takeDuty 12 = .ok (.getfield 22, 3) := by decide +kernel
theorem dX6_takeDuty_15 : decode cX6_takeDuty 15 = .ok (.iload_n 1, 1) := by decide +kernel
theorem dX6_takeDuty_16 : decode cX6_takeDuty 16 = .ok (.iadd, 1) := by decide +kernel
theorem dX6_takeDuty_17 : decode cX6_takeDuty 17 = .ok (.putfield 22, 3) := by decide +kernel
theorem dX6_takeDuty_20 : decode cX6_takeDuty 20 = .ok (.return_, 1) := by decide +kernel
def w_X6_takeDuty (i : Nat) (p0 : Int32) (mm : Mm) (Q9 : Mm → Prop) : Prop :=
  ∀ m_1 : Mm, m_1 = sI mm 2 i 1 ((mm.1 2 i 1) - p0) → (∀ m_2 : Mm, m_2 = sI m_1 2 i 4 ((m_1.1 2 i 4) + p0) → (Q9 m_2))
def rm_X6_takeDuty : Room := { frames := 0, cells := 0, slots := 0, locals := 0 }
theorem hy_X6_takeDuty : yX6_takeDuty.cls = RX6 ∧ yX6_takeDuty.cls ≠ "java/lang/invoke/MethodHandle" ∧ yX6_takeDuty.cls ≠ "java/lang/invoke/VarHandle" ∧ (parseMethodDescriptor yX6_takeDuty.desc).map (fun d => d.parameters.length) = some 1 := by decide +kernel
set_option maxRecDepth 100000 in
set_option maxHeartbeats 4000000 in
theorem c_X6_takeDuty {l : Launch} {D : va_G} {cA : Nat → ClassId} {ad : Nat → Nat → Nat} {A : Nat → Prop} (ax : Ax ad GC A) (i : Nat) (hi : ok 2 i) (p0 : Int32) (mm : Mm) (Q9 : Mm → Prop) (h : w_X6_takeDuty i p0 mm Q9) : Met l yX6_takeDuty (.code yX6_takeDuty cX6_takeDuty 2 none :: TG) rm_X6_takeDuty (PcM TT D cA ad false GC (ZC ad A) [.ref (ad 2 i), .int p0] mm) (AnsV TT D cA ad false GC A Q9) 0 0 A := by
  have zo := ZC_ok ad A
  unfold w_X6_takeDuty at h
  refine enterV pl_X6 ⟨rfl, rfl⟩ rfl (Nat.le_of_ble_eq_true rfl) ?_
  intro p e s m args below meth c QQ X hK hZ hnm hE
  refine q_aload_n (j := 0) X dX6_takeDuty_0 rfl rfl ?_
  refine q_aload_n (j := 0) X dX6_takeDuty_1 rfl rfl ?_
  refine q_get (k := 1) (v := .int (mm.1 2 i 1)) X hK rfl rfl (Nat.le_of_ble_eq_true rfl) inTX6 (gc (t := 2) (by decide) hi) kw_1_42 rfl rfl dX6_takeDuty_2 ?_
  refine q_iload_n (j := 1) X dX6_takeDuty_5 rfl rfl ?_
  refine q_isub X dX6_takeDuty_6 ?_
  refine q_putI (k := 1) X ax hK rfl rfl (Nat.le_of_ble_eq_true rfl) inTX6 (gc (t := 2) (by decide) hi) tyX6 tyX6_ok nmX6 kw_1_42 rfl rfl (tyX6_ok 1 (Nat.le_of_ble_eq_true rfl)) rfl dX6_takeDuty_7 ?_
  refine q_nmP (fun m_1 em_1 => ?_)
  have h := h m_1 em_1
  refine q_aload_n (j := 0) X dX6_takeDuty_10 rfl rfl ?_
  refine q_aload_n (j := 0) X dX6_takeDuty_11 rfl rfl ?_
  refine q_get (k := 4) (v := .int (m_1.1 2 i 4)) X hK rfl rfl (Nat.le_of_ble_eq_true rfl) inTX6 (gc (t := 2) (by decide) hi) kw_1_51 rfl rfl dX6_takeDuty_12 ?_
  refine q_iload_n (j := 1) X dX6_takeDuty_15 rfl rfl ?_
  refine q_iadd X dX6_takeDuty_16 ?_
  refine q_putI (k := 4) X ax hK rfl rfl (Nat.le_of_ble_eq_true rfl) inTX6 (gc (t := 2) (by decide) hi) tyX6 tyX6_ok nmX6 kw_1_51 rfl rfl (tyX6_ok 4 (Nat.le_of_ble_eq_true rfl)) rfl dX6_takeDuty_17 ?_
  refine q_nmP (fun m_2 em_2 => ?_)
  have h := h m_2 em_2
  exact hE _ _ _ dX6_takeDuty_20 h
theorem dX8_addReceipt_0 : decode cX8_addReceipt 0 = .ok (.aload_n 0, 1) := by decide +kernel
theorem dX8_addReceipt_1 : decode cX8_addReceipt 1 = .ok (.getfield 26, 3) := by decide +kernel
theorem dX8_addReceipt_4 : decode cX8_addReceipt 4 = .ok (.bipush 11, 2) := by decide +kernel
theorem dX8_addReceipt_6 : decode cX8_addReceipt 6 = .ok (.aaload, 1) := by decide +kernel
theorem dX8_addReceipt_7 : decode cX8_addReceipt 7 = .ok (.astore_n 1, 1) := by decide +kernel
theorem dX8_addReceipt_8 : decode cX8_addReceipt 8 = .ok (.bipush 11, 2) := by decide +kernel
theorem dX8_addReceipt_10 : decode cX8_addReceipt 10 = .ok (.istore_n 2, 1) := by decide +kernel
theorem dX8_addReceipt_11 : decode cX8_addReceipt 11 = .ok (.iload_n 2, 1) := by decide +kernel
theorem dX8_addReceipt_12 : decode cX8_addReceipt 12 = .ok (.ifCond .le 23, 3) := by decide +kernel
theorem dX8_addReceipt_15 : decode cX8_addReceipt 15 = .ok (.aload_n 0, 1) := by decide +kernel
theorem dX8_addReceipt_16 : decode cX8_addReceipt 16 = .ok (.getfield 26, 3) := by decide +kernel
theorem dX8_addReceipt_19 : decode cX8_addReceipt 19 = .ok (.iload_n 2, 1) := by decide +kernel
theorem dX8_addReceipt_20 : decode cX8_addReceipt 20 = .ok (.aload_n 0, 1) := by decide +kernel
theorem dX8_addReceipt_21 : decode cX8_addReceipt 21 = .ok (.getfield 26, 3) := by decide +kernel
theorem dX8_addReceipt_24 : decode cX8_addReceipt 24 = .ok (.iload_n 2, 1) := by decide +kernel
theorem dX8_addReceipt_25 : decode cX8_addReceipt 25 = .ok (.iconst 1, 1) := by decide +kernel
theorem dX8_addReceipt_26 : decode cX8_addReceipt 26 = .ok (.isub, 1) := by decide +kernel
theorem dX8_addReceipt_27 : decode cX8_addReceipt 27 = .ok (.aaload, 1) := by decide +kernel
theorem dX8_addReceipt_28 : decode cX8_addReceipt 28 = .ok (.aastore, 1) := by decide +kernel
theorem dX8_addReceipt_29 : decode cX8_addReceipt 29 = .ok (.iinc 2 (-1), 3) := by decide +kernel
theorem dX8_addReceipt_32 : decode cX8_addReceipt 32 = .ok (.goto (-21), 3) := by decide +kernel
theorem dX8_addReceipt_35 : decode cX8_addReceipt 35 = .ok (.aload_n 0, 1) := by decide +kernel
theorem dX8_addReceipt_36 : decode cX8_addReceipt 36 = .ok (.getfield 26, 3) := by decide +kernel
theorem dX8_addReceipt_39 : decode cX8_addReceipt 39 = .ok (.iconst 0, 1) := by decide +kernel
theorem dX8_addReceipt_40 : decode cX8_addReceipt 40 = .ok (.aload_n 1, 1) := by decide +kernel
theorem dX8_addReceipt_41 : decode cX8_addReceipt 41 = .ok (.aastore, 1) := by decide +kernel
theorem dX8_addReceipt_42 : decode cX8_addReceipt 42 = .ok (.aload_n 0, 1) := by decide +kernel
theorem dX8_addReceipt_43 : decode cX8_addReceipt 43 = .ok (.bipush 12, 2) := by decide +kernel
theorem dX8_addReceipt_45 : decode cX8_addReceipt 45 = .ok (.aload_n 0, 1) := by decide +kernel
theorem dX8_addReceipt_46 : decode cX8_addReceipt 46 = .ok (.getfield 71, 3) := by decide +kernel
theorem dX8_addReceipt_49 : decode cX8_addReceipt 49 = .ok (.iconst 1, 1) := by decide +kernel
theorem dX8_addReceipt_50 : decode cX8_addReceipt 50 = .ok (.iadd, 1) := by decide +kernel
theorem dX8_addReceipt_51 : decode cX8_addReceipt 51 = .ok (.invokestatic 100, 3) := by decide +kernel
theorem dX8_addReceipt_54 : decode cX8_addReceipt 54 = .ok (.putfield 71, 3) := by decide +kernel
theorem dX8_addReceipt_57 : decode cX8_addReceipt 57 = .ok (.aload_n 1, 1) := by decide +kernel
theorem dX8_addReceipt_58 : decode cX8_addReceipt 58 = .ok (.areturn, 1) := by decide +kernel
def w_X8_addReceipt_B11 (i : Nat) (mm : Mm) (Q9 : Nat → Mm → Prop) (K_3 : Int32 → Mm → Prop) (y_1 : Int32) (m_2 : Mm) : Prop :=
  ((y_1 ≤ 0 → ok 4 (mm.2 8 i 11) ∧ ∀ m_7 : Mm, m_7 = sR m_2 8 i 0 (mm.2 8 i 11) → (∀ m_8 : Mm, m_8 = sI m_7 1 i 4 (if ((m_7.1 1 i 4) + 1) < 12 then ((m_7.1 1 i 4) + 1) else 12) → (Q9 (mm.2 8 i 11) m_8))) ∧
  (¬ y_1 ≤ 0 → vp_in (y_1 - 1) 12 ∧ (ok 4 (m_2.2 8 i (y_1 - 1).toNatClampNeg) ∧ vp_in y_1 12 ∧ ∀ m_12 : Mm, m_12 = sR m_2 8 i y_1.toNatClampNeg (m_2.2 8 i (y_1 - 1).toNatClampNeg) → (∀ x_13 : Int32, x_13 = y_1 + (-1) → (K_3 x_13 m_12)))))
def w_X8_addReceipt (i : Nat) (mm : Mm) (Q9 : Nat → Mm → Prop) : Prop :=
  ∃ n, itr (α := Int32 × Mm) (fun K a => w_X8_addReceipt_B11 i mm Q9 (fun z0 z1 => K (z0, z1)) a.1 a.2) n (11, mm)
def rm_X8_addReceipt : Room := { frames := 1, cells := 0, slots := 0, locals := 21 }
theorem hy_X8_addReceipt : yX8_addReceipt.cls = RX8 ∧ yX8_addReceipt.cls ≠ "java/lang/invoke/MethodHandle" ∧ yX8_addReceipt.cls ≠ "java/lang/invoke/VarHandle" ∧ (parseMethodDescriptor yX8_addReceipt.desc).map (fun d => d.parameters.length) = some 0 := by decide +kernel
set_option maxRecDepth 100000 in
set_option maxHeartbeats 4000000 in
theorem c_X8_addReceipt {l : Launch} {D : va_G} {cA : Nat → ClassId} {ad : Nat → Nat → Nat} {A : Nat → Prop} (ax : Ax ad GC A) (i : Nat) (hi : ok 1 i) (mm : Mm) (Q9 : Nat → Mm → Prop) (h : w_X8_addReceipt i mm Q9) : Met l yX8_addReceipt (.code yX8_addReceipt cX8_addReceipt 3 (some (.object "BondWarehouse$Receipt")) :: TG) rm_X8_addReceipt (PcM TT D cA ad false GC (ZC ad A) [.ref (ad 1 i)] mm) (AnsQ TT D cA ad false GC 4 A Q9) 0 0 A := by
  have zo := ZC_ok ad A
  unfold w_X8_addReceipt at h
  refine enterR (Or.inl ⟨_, rfl⟩) pl_X8 ⟨rfl, rfl⟩ rfl (Nat.le_of_ble_eq_true rfl) ?_
  intro p e s m args below meth c QQ X hK hZ hnm hE
  refine q_aload_n (j := 0) X dX8_addReceipt_0 rfl rfl ?_
  refine q_get (k := 7) (v := .ref (ad 8 i)) X hK rfl rfl (Nat.le_of_ble_eq_true rfl) inTX8 (gc (t := 1) (by decide) hi) kw_2_5 rfl (rv_nn (a := ad 8) (r := i) hi.1) dX8_addReceipt_1 ?_
  refine q_bipush (v := 11) X dX8_addReceipt_4 (by decide) ?_
  refine q_aald (t := 8) (i := i) (jn := 11) (v := rv (ad 4) (mm.2 8 i 11)) X hK rfl rfl (gc (t := 8) (by decide) hi) rfl (vpl (by decide +kernel)) (by decide +kernel) rfl dX8_addReceipt_6 ?_
  refine q_vstore_n (lv' := [(1, rv (ad 4) (mm.2 8 i 11)), (0, .ref (ad 1 i))]) X dX8_addReceipt_7 rfl (by decide) rfl ?_
  refine q_bipush (v := 11) X dX8_addReceipt_8 (by decide) ?_
  refine q_istore_n (lv' := [(2, .int 11), (1, rv (ad 4) (mm.2 8 i 11)), (0, .ref (ad 1 i))]) X dX8_addReceipt_10 rfl (by decide) (by simp [rv_cat]) ?_
  refine q_sub [2, 1, 0] rfl ?_
  have L11 : ∀ (n : Nat) (y_1 : Int32) (m_2 : Mm), itr (α := Int32 × Mm) (fun K a => w_X8_addReceipt_B11 i mm Q9 (fun z0 z1 => K (z0, z1)) a.1 a.2) n (y_1, m_2) → V p l e rm_X8_addReceipt s m args below meth c QQ 3 A 0 0 (Rep TT D cA ad false GC m_2) 11 [(0, .ref (ad 1 i)), (1, rv (ad 4) (mm.2 8 i 11)), (2, .int y_1)] [] := by
    intro n
    induction n with
    | zero => intro y_1 m_2 h; exact h.elim
    | succ n ih_4 =>
      intro y_1 m_2 h
      have h : w_X8_addReceipt_B11 i mm Q9 (fun z0 z1 => itr (α := Int32 × Mm) (fun K a => w_X8_addReceipt_B11 i mm Q9 (fun z0 z1 => K (z0, z1)) a.1 a.2) n (z0, z1)) y_1 m_2 := h
      unfold w_X8_addReceipt_B11 at h
      refine q_iload_n (j := 2) X dX8_addReceipt_11 rfl rfl ?_
      refine q_if_le (tgt := 35) X dX8_addReceipt_12 (by decide) (fun c_5 => ?_) (fun c_5 => ?_)
      · have h := h.1 c_5
        refine q_aload_n (j := 0) X dX8_addReceipt_35 rfl rfl ?_
        refine q_get (k := 7) (v := .ref (ad 8 i)) X hK rfl rfl (Nat.le_of_ble_eq_true rfl) inTX8 (gc (t := 1) (by decide) hi) kw_2_5 rfl (rv_nn (a := ad 8) (r := i) hi.1) dX8_addReceipt_36 ?_
        refine q_iconst (v := 0) X dX8_addReceipt_39 (by decide) ?_
        refine q_vload_n (j := 1) X dX8_addReceipt_40 rfl rfl ?_
        obtain ⟨k_6, h⟩ := h
        rw [rv_nn (a := ad 4) (r := (mm.2 8 i 11)) k_6.1]
        refine q_aast (t := 8) (i := i) (jn := 0) X ax hK rfl rfl (gc (t := 8) (by decide) hi) rfl rfl rfl (gc (t := 4) (by decide) k_6) k_6.1 (vpl (by decide +kernel)) (by decide +kernel) rfl rfl dX8_addReceipt_41 ?_
        refine q_nmP (fun m_7 em_7 => ?_)
        have h := h m_7 em_7
        refine q_aload_n (j := 0) X dX8_addReceipt_42 rfl rfl ?_
        refine q_bipush (v := 12) X dX8_addReceipt_43 (by decide) ?_
        refine q_aload_n (j := 0) X dX8_addReceipt_45 rfl rfl ?_
        refine q_get (k := 4) (v := .int (m_7.1 1 i 4)) X hK rfl rfl (Nat.le_of_ble_eq_true rfl) inTX8 (gc (t := 1) (by decide) hi) kw_1_237 rfl rfl dX8_addReceipt_46 ?_
        refine q_iconst (v := 1) X dX8_addReceipt_49 (by decide) ?_
        refine q_iadd X dX8_addReceipt_50 ?_
        refine q_min X kw_3_133 kw_3_134 kw_1_11 kw_3_135 (Nat.le_of_ble_eq_true rfl) (Nat.le_of_ble_eq_true rfl) ⟨Nat.le_of_ble_eq_true rfl, Nat.le_of_ble_eq_true rfl⟩ dX8_addReceipt_51 ?_
        refine q_putI (k := 4) X ax hK rfl rfl (Nat.le_of_ble_eq_true rfl) inTX8 (gc (t := 1) (by decide) hi) tyX8 tyX8_ok nmX8 kw_1_237 rfl rfl (tyX8_ok 4 (Nat.le_of_ble_eq_true rfl)) rfl dX8_addReceipt_54 ?_
        refine q_nmP (fun m_8 em_8 => ?_)
        have h := h m_8 em_8
        refine q_aload_n (j := 1) X dX8_addReceipt_57 rfl rfl ?_
        rw [← rv_nn (a := ad 4) (r := (mm.2 8 i 11)) k_6.1]
        exact hE _ _ (mm.2 8 i 11) _ dX8_addReceipt_58 h
      · have h := h.2 c_5
        refine q_aload_n (j := 0) X dX8_addReceipt_15 rfl rfl ?_
        refine q_get (k := 7) (v := .ref (ad 8 i)) X hK rfl rfl (Nat.le_of_ble_eq_true rfl) inTX8 (gc (t := 1) (by decide) hi) kw_2_5 rfl (rv_nn (a := ad 8) (r := i) hi.1) dX8_addReceipt_16 ?_
        refine q_iload_n (j := 2) X dX8_addReceipt_19 rfl rfl ?_
        refine q_aload_n (j := 0) X dX8_addReceipt_20 rfl rfl ?_
        refine q_get (k := 7) (v := .ref (ad 8 i)) X hK rfl rfl (Nat.le_of_ble_eq_true rfl) inTX8 (gc (t := 1) (by decide) hi) kw_2_5 rfl (rv_nn (a := ad 8) (r := i) hi.1) dX8_addReceipt_21 ?_
        refine q_iload_n (j := 2) X dX8_addReceipt_24 rfl rfl ?_
        refine q_iconst (v := 1) X dX8_addReceipt_25 (by decide) ?_
        refine q_isub X dX8_addReceipt_26 ?_
        obtain ⟨b_9, h⟩ := h
        refine q_aald (t := 8) (i := i) (jn := (y_1 - 1).toNatClampNeg) (v := rv (ad 4) (m_2.2 8 i (y_1 - 1).toNatClampNeg)) X hK rfl rfl (gc (t := 8) (by decide) hi) rfl b_9 rfl rfl dX8_addReceipt_27 ?_
        obtain ⟨k_10, h⟩ := h
        rw [rv_nn (a := ad 4) (r := (m_2.2 8 i (y_1 - 1).toNatClampNeg)) k_10.1]
        obtain ⟨b_11, h⟩ := h
        refine q_aast (t := 8) (i := i) (jn := y_1.toNatClampNeg) X ax hK rfl rfl (gc (t := 8) (by decide) hi) rfl rfl rfl (gc (t := 4) (by decide) k_10) k_10.1 b_11 rfl rfl rfl dX8_addReceipt_28 ?_
        refine q_nmP (fun m_12 em_12 => ?_)
        have h := h m_12 em_12
        obtain ⟨x_13, ex_13⟩ : ∃ z : Int32, z = y_1 + (-1) := ⟨_, rfl⟩
        have h := h x_13 ex_13
        refine q_iinc (j := 2) (v := x_13) (lv' := [(2, .int x_13), (0, .ref (ad 1 i)), (1, rv (ad 4) (mm.2 8 i 11))]) X dX8_addReceipt_29 rfl (by rw [ex_13]; rfl) (by decide) (by simp [rv_cat]) ?_
        refine q_goto (tgt := 11) X dX8_addReceipt_32 (by decide) ?_
        refine q_sub [1, 2, 0] rfl ?_
        exact ih_4 x_13 m_12 h
  obtain ⟨n_14, h⟩ := h
  exact L11 n_14 11 mm h
theorem dX2_losePart_0 : decode cX2_losePart 0 = .ok (.aload_n 0, 1) := by decide +kernel
theorem dX2_losePart_1 : decode cX2_losePart 1 = .ok (.aload_n 0, 1) := by decide +kernel
theorem dX2_losePart_2 : decode cX2_losePart 2 = .ok (.getfield 19, 3) := by decide +kernel
theorem dX2_losePart_5 : decode cX2_losePart 5 = .ok (.aload_n 0, 1) := by decide +kernel
theorem dX2_losePart_6 : decode cX2_losePart 6 = .ok (.iload_n 1, 1) := by decide +kernel
theorem dX2_losePart_7 : decode cX2_losePart 7 = .ok (.invokevirtual 35, 3) := by decide +kernel
theorem dX2_losePart_10 : decode cX2_losePart 10 = .ok (.isub, 1) := by decide +kernel
theorem dX2_losePart_11 : decode cX2_losePart 11 = .ok (.putfield 19, 3) := by decide +kernel
theorem dX2_losePart_14 : decode cX2_losePart 14 = .ok (.aload_n 0, 1) := by decide +kernel
theorem dX2_losePart_15 : decode cX2_losePart 15 = .ok (.aload_n 0, 1) := by decide +kernel
theorem dX2_losePart_16 : decode cX2_losePart 16 = .ok (.getfield 16, 3) := by decide +kernel
theorem dX2_losePart_19 : decode cX2_losePart 19 = .ok (.iload_n 1, 1) := by decide +kernel
theorem dX2_losePart_20 : decode cX2_losePart 20 = .ok (.isub, 1) := by decide +kernel
theorem dX2_losePart_21 : decode cX2_losePart 21 = .ok (.putfield 16, 3) := by decide +kernel
theorem dX2_losePart_24 : decode cX2_losePart 24 = .ok (.return_, 1) := by decide +kernel
def w_X2_losePart (i : Nat) (p0 : Int32) (mm : Mm) (Q9 : Mm → Prop) : Prop :=
  w_X2_shareOf i p0 mm (fun (r_1 : Int32) => ∀ m_3 : Mm, m_3 = sI mm 3 i 3 ((mm.1 3 i 3) - r_1) → (∀ m_4 : Mm, m_4 = sI m_3 3 i 2 ((m_3.1 3 i 2) - p0) → (Q9 m_4)))
def rm_X2_losePart : Room := { frames := 1, cells := 0, slots := 0, locals := 21 }
theorem hy_X2_losePart : yX2_losePart.cls = RX2 ∧ yX2_losePart.cls ≠ "java/lang/invoke/MethodHandle" ∧ yX2_losePart.cls ≠ "java/lang/invoke/VarHandle" ∧ (parseMethodDescriptor yX2_losePart.desc).map (fun d => d.parameters.length) = some 1 := by decide +kernel
set_option maxRecDepth 100000 in
set_option maxHeartbeats 4000000 in
theorem c_X2_losePart {l : Launch} {D : va_G} {cA : Nat → ClassId} {ad : Nat → Nat → Nat} {A : Nat → Prop} (ax : Ax ad GC A) (i : Nat) (hi : ok 3 i) (p0 : Int32) (mm : Mm) (Q9 : Mm → Prop) (h : w_X2_losePart i p0 mm Q9) : Met l yX2_losePart (.code yX2_losePart cX2_losePart 2 none :: TG) rm_X2_losePart (PcM TT D cA ad false GC (ZC ad A) [.ref (ad 3 i), .int p0] mm) (AnsV TT D cA ad false GC A Q9) 0 0 A := by
  have zo := ZC_ok ad A
  unfold w_X2_losePart at h
  refine enterV pl_X2 ⟨rfl, rfl⟩ rfl (Nat.le_of_ble_eq_true rfl) ?_
  intro p e s m args below meth c QQ X hK hZ hnm hE
  refine q_aload_n (j := 0) X dX2_losePart_0 rfl rfl ?_
  refine q_aload_n (j := 0) X dX2_losePart_1 rfl rfl ?_
  refine q_get (k := 3) (v := .int (mm.1 3 i 3)) X hK rfl rfl (Nat.le_of_ble_eq_true rfl) inTX2 (gc (t := 3) (by decide) hi) kw_1_97 rfl rfl dX2_losePart_2 ?_
  refine q_aload_n (j := 0) X dX2_losePart_5 rfl rfl ?_
  refine q_iload_n (j := 1) X dX2_losePart_6 rfl rfl ?_
  refine q_calli (q_runV X hK hZ zo (gc (t := 3) (by decide) hi) rfl rfl [.int p0] [.int (mm.1 3 i 3), .ref (ad 3 i)] rfl rfl (Nat.le_of_ble_eq_true rfl) dX2_losePart_7 ⟨Nat.le_of_ble_eq_true rfl, Nat.le_of_ble_eq_true rfl⟩ (c_X2_shareOf ax i hi p0 mm _ h) rfl rfl (gV kw_3_140 kw_3_122 ks_23 kw_1_4 kw_3_123) hy_X2_shareOf ⟨Nat.le_of_ble_eq_true rfl, Nat.le_of_ble_eq_true rfl⟩) (fun r_1 m_2 h => ?_)
  obtain ⟨h, hm⟩ := h
  subst hm
  refine q_isub X dX2_losePart_10 ?_
  refine q_putI (k := 3) X ax hK rfl rfl (Nat.le_of_ble_eq_true rfl) inTX2 (gc (t := 3) (by decide) hi) tyX2 tyX2_ok nmX2 kw_1_97 rfl rfl (tyX2_ok 3 (Nat.le_of_ble_eq_true rfl)) rfl dX2_losePart_11 ?_
  refine q_nmP (fun m_3 em_3 => ?_)
  have h := h m_3 em_3
  refine q_aload_n (j := 0) X dX2_losePart_14 rfl rfl ?_
  refine q_aload_n (j := 0) X dX2_losePart_15 rfl rfl ?_
  refine q_get (k := 2) (v := .int (m_3.1 3 i 2)) X hK rfl rfl (Nat.le_of_ble_eq_true rfl) inTX2 (gc (t := 3) (by decide) hi) kw_1_93 rfl rfl dX2_losePart_16 ?_
  refine q_iload_n (j := 1) X dX2_losePart_19 rfl rfl ?_
  refine q_isub X dX2_losePart_20 ?_
  refine q_putI (k := 2) X ax hK rfl rfl (Nat.le_of_ble_eq_true rfl) inTX2 (gc (t := 3) (by decide) hi) tyX2 tyX2_ok nmX2 kw_1_93 rfl rfl (tyX2_ok 2 (Nat.le_of_ble_eq_true rfl)) rfl dX2_losePart_21 ?_
  refine q_nmP (fun m_4 em_4 => ?_)
  have h := h m_4 em_4
  exact hE _ _ _ dX2_losePart_24 h
theorem dX8_closeIfEmpty_0 : decode cX8_closeIfEmpty 0 = .ok (.aload_n 1, 1) := by decide +kernel
theorem dX8_closeIfEmpty_1 : decode cX8_closeIfEmpty 1 = .ok (.getfield 97, 3) := by decide +kernel
theorem dX8_closeIfEmpty_4 : decode cX8_closeIfEmpty 4 = .ok (.ifCond .le 4, 3) := by decide +kernel
theorem dX8_closeIfEmpty_7 : decode cX8_closeIfEmpty 7 = .ok (.return_, 1) := by decide +kernel
theorem dX8_closeIfEmpty_8 : decode cX8_closeIfEmpty 8 = .ok (.iconst 0, 1) := by decide +kernel
theorem dX8_closeIfEmpty_9 : decode cX8_closeIfEmpty 9 = .ok (.istore_n 2, 1) := by decide +kernel
theorem dX8_closeIfEmpty_10 : decode cX8_closeIfEmpty 10 = .ok (.iload_n 2, 1) := by decide +kernel
theorem dX8_closeIfEmpty_11 : decode cX8_closeIfEmpty 11 = .ok (.iconst 1, 1) := by decide +kernel
theorem dX8_closeIfEmpty_12 : decode cX8_closeIfEmpty 12 = .ok (.iadd, 1) := by decide +kernel
theorem dX8_closeIfEmpty_13 : decode cX8_closeIfEmpty 13 = .ok (.aload_n 0, 1) := by decide +kernel
theorem dX8_closeIfEmpty_14 : decode cX8_closeIfEmpty 14 = .ok (.getfield 62, 3) := by decide +kernel
theorem dX8_closeIfEmpty_17 : decode cX8_closeIfEmpty 17 = .ok (.if_icmp .ge 42, 3) := by decide +kernel
theorem dX8_closeIfEmpty_20 : decode cX8_closeIfEmpty 20 = .ok (.aload_n 0, 1) := by decide +kernel
theorem dX8_closeIfEmpty_21 : decode cX8_closeIfEmpty 21 = .ok (.getfield 20, 3) := by decide +kernel
theorem dX8_closeIfEmpty_24 : decode cX8_closeIfEmpty 24 = .ok (.iload_n 2, 1) := by decide +kernel
theorem dX8_closeIfEmpty_25 : decode cX8_closeIfEmpty 25 = .ok (.aaload, 1) := by decide +kernel
theorem dX8_closeIfEmpty_26 : decode cX8_closeIfEmpty 26 = .ok (.aload_n 1, 1) := by decide +kernel
theorem dX8_closeIfEmpty_27 : decode cX8_closeIfEmpty 27 = .ok (.if_acmp .ne 26, 3) := by decide +kernel
theorem dX8_closeIfEmpty_30 : decode cX8_closeIfEmpty 30 = .ok (.aload_n 0, 1) := by decide +kernel
theorem dX8_closeIfEmpty_31 : decode cX8_closeIfEmpty 31 = .ok (.getfield 20, 3) := by decide +kernel
theorem dX8_closeIfEmpty_34 : decode cX8_closeIfEmpty 34 = .ok (.iload_n 2, 1) := by decide +kernel
theorem dX8_closeIfEmpty_35 : decode cX8_closeIfEmpty 35 = .ok (.aload_n 0, 1) := by decide +kernel
theorem dX8_closeIfEmpty_36 : decode cX8_closeIfEmpty 36 = .ok (.getfield 20, 3) := by decide +kernel
theorem dX8_closeIfEmpty_39 : decode cX8_closeIfEmpty 39 = .ok (.iload_n 2, 1) := by decide +kernel
theorem dX8_closeIfEmpty_40 : decode cX8_closeIfEmpty 40 = .ok (.iconst 1, 1) := by decide +kernel
theorem dX8_closeIfEmpty_41 : decode cX8_closeIfEmpty 41 = .ok (.iadd, 1) := by decide +kernel
theorem dX8_closeIfEmpty_42 : decode cX8_closeIfEmpty 42 = .ok (.aaload, 1) := by decide +kernel
theorem dX8_closeIfEmpty_43 : decode cX8_closeIfEmpty 43 = .ok (.aastore, 1) := by decide +kernel
theorem dX8_closeIfEmpty_44 : decode cX8_closeIfEmpty 44 = .ok (.aload_n 0, 1) := by decide +kernel
theorem dX8_closeIfEmpty_45 : decode cX8_closeIfEmpty 45 = .ok (.getfield 20, 3) := by decide +kernel
theorem dX8_closeIfEmpty_48 : decode cX8_closeIfEmpty 48 = .ok (.iload_n 2, 1) := by decide +kernel
theorem dX8_closeIfEmpty_49 : decode cX8_closeIfEmpty 49 = .ok (.iconst 1, 1) := by decide +kernel
theorem dX8_closeIfEmpty_50 : decode cX8_closeIfEmpty 50 = .ok (.iadd, 1) := by decide +kernel
theorem dX8_closeIfEmpty_51 : decode cX8_closeIfEmpty 51 = .ok (.aload_n 1, 1) := by decide +kernel
theorem dX8_closeIfEmpty_52 : decode cX8_closeIfEmpty 52 = .ok (.aastore, 1) := by decide +kernel
theorem dX8_closeIfEmpty_53 : decode cX8_closeIfEmpty 53 = .ok (.iinc 2 1, 3) := by decide +kernel
theorem dX8_closeIfEmpty_56 : decode cX8_closeIfEmpty 56 = .ok (.goto (-46), 3) := by decide +kernel
theorem dX8_closeIfEmpty_59 : decode cX8_closeIfEmpty 59 = .ok (.aload_n 0, 1) := by decide +kernel
theorem dX8_closeIfEmpty_60 : decode cX8_closeIfEmpty 60 = .ok (.aload_n 0, 1) := by decide +kernel
theorem dX8_closeIfEmpty_61 : decode cX8_closeIfEmpty 61 = .ok (.getfield 62, 3) := by decide +kernel
theorem dX8_closeIfEmpty_64 : decode cX8_closeIfEmpty 64 = .ok (.iconst 1, 1) := by decide +kernel
theorem dX8_closeIfEmpty_65 : decode cX8_closeIfEmpty 65 = .ok (.isub, 1) := by decide +kernel
theorem dX8_closeIfEmpty_66 : decode cX8_closeIfEmpty 66 = .ok (.putfield 62, 3) := by decide +kernel
theorem dX8_closeIfEmpty_69 : decode cX8_closeIfEmpty 69 = .ok (.return_, 1) := by decide +kernel
def w_X8_closeIfEmpty_B10 (i : Nat) (p0 : Nat) (Q9 : Mm → Prop) (K_4 : Int32 → Mm → Prop) (y_2 : Int32) (m_3 : Mm) : Prop :=
  (((m_3.1 1 i 1) ≤ (y_2 + 1) → ∀ m_7 : Mm, m_7 = sI m_3 1 i 1 ((m_3.1 1 i 1) - 1) → (Q9 m_7)) ∧
  (¬ (m_3.1 1 i 1) ≤ (y_2 + 1) → vp_in y_2 16 ∧ (ok 3 (m_3.2 7 i y_2.toNatClampNeg) ∧ ((¬ (m_3.2 7 i y_2.toNatClampNeg) = p0 → ∀ x_11 : Int32, x_11 = y_2 + 1 → (K_4 x_11 m_3)) ∧
  ((m_3.2 7 i y_2.toNatClampNeg) = p0 → vp_in (y_2 + 1) 16 ∧ (ok 3 (m_3.2 7 i (y_2 + 1).toNatClampNeg) ∧ ∀ m_14 : Mm, m_14 = sR m_3 7 i y_2.toNatClampNeg (m_3.2 7 i (y_2 + 1).toNatClampNeg) → (∀ m_15 : Mm, m_15 = sR m_14 7 i (y_2 + 1).toNatClampNeg p0 → (∀ x_16 : Int32, x_16 = y_2 + 1 → (K_4 x_16 m_15)))))))))
def w_X8_closeIfEmpty (i : Nat) (p0 : Nat) (mm : Mm) (Q9 : Mm → Prop) : Prop :=
  (((mm.1 3 p0 2) ≤ 0 → ∃ n, itr (α := Int32 × Mm) (fun K a => w_X8_closeIfEmpty_B10 i p0 Q9 (fun z0 z1 => K (z0, z1)) a.1 a.2) n (0, mm)) ∧
  (¬ (mm.1 3 p0 2) ≤ 0 → Q9 mm))
def rm_X8_closeIfEmpty : Room := { frames := 0, cells := 0, slots := 0, locals := 0 }
theorem hy_X8_closeIfEmpty : yX8_closeIfEmpty.cls = RX8 ∧ yX8_closeIfEmpty.cls ≠ "java/lang/invoke/MethodHandle" ∧ yX8_closeIfEmpty.cls ≠ "java/lang/invoke/VarHandle" ∧ (parseMethodDescriptor yX8_closeIfEmpty.desc).map (fun d => d.parameters.length) = some 1 := by decide +kernel
set_option maxRecDepth 100000 in
set_option maxHeartbeats 4000000 in
theorem c_X8_closeIfEmpty {l : Launch} {D : va_G} {cA : Nat → ClassId} {ad : Nat → Nat → Nat} {A : Nat → Prop} (ax : Ax ad GC A) (i : Nat) (hi : ok 1 i) (p0 : Nat) (hp0 : ok 3 p0) (mm : Mm) (Q9 : Mm → Prop) (h : w_X8_closeIfEmpty i p0 mm Q9) : Met l yX8_closeIfEmpty (.code yX8_closeIfEmpty cX8_closeIfEmpty 3 none :: TG) rm_X8_closeIfEmpty (PcM TT D cA ad false GC (ZC ad A) [.ref (ad 1 i), .ref (ad 3 p0)] mm) (AnsV TT D cA ad false GC A Q9) 0 0 A := by
  have zo := ZC_ok ad A
  unfold w_X8_closeIfEmpty at h
  refine enterV pl_X8 ⟨rfl, rfl⟩ rfl (Nat.le_of_ble_eq_true rfl) ?_
  intro p e s m args below meth c QQ X hK hZ hnm hE
  refine q_aload_n (j := 1) X dX8_closeIfEmpty_0 rfl rfl ?_
  refine q_getN (k := 2) (v := .int (mm.1 3 p0 2)) X hK rfl rfl (Nat.le_of_ble_eq_true rfl) inTX2 (gc (t := 3) (by decide) hp0) (List.mem_of_getElem? (i := 19) rfl) rfl rfl dX8_closeIfEmpty_1 ?_
  refine q_if_le (tgt := 8) X dX8_closeIfEmpty_4 (by decide) (fun c_1 => ?_) (fun c_1 => ?_)
  · have h := h.1 c_1
    refine q_iconst (v := 0) X dX8_closeIfEmpty_8 (by decide) ?_
    refine q_istore_n (lv' := [(2, .int 0), (0, .ref (ad 1 i)), (1, .ref (ad 3 p0))]) X dX8_closeIfEmpty_9 rfl (by decide) rfl ?_
    refine q_sub [1, 2, 0] rfl ?_
    have L10 : ∀ (n : Nat) (y_2 : Int32) (m_3 : Mm), itr (α := Int32 × Mm) (fun K a => w_X8_closeIfEmpty_B10 i p0 Q9 (fun z0 z1 => K (z0, z1)) a.1 a.2) n (y_2, m_3) → V p l e rm_X8_closeIfEmpty s m args below meth c QQ 3 A 0 0 (Rep TT D cA ad false GC m_3) 10 [(0, .ref (ad 1 i)), (1, .ref (ad 3 p0)), (2, .int y_2)] [] := by
      intro n
      induction n with
      | zero => intro y_2 m_3 h; exact h.elim
      | succ n ih_5 =>
        intro y_2 m_3 h
        have h : w_X8_closeIfEmpty_B10 i p0 Q9 (fun z0 z1 => itr (α := Int32 × Mm) (fun K a => w_X8_closeIfEmpty_B10 i p0 Q9 (fun z0 z1 => K (z0, z1)) a.1 a.2) n (z0, z1)) y_2 m_3 := h
        unfold w_X8_closeIfEmpty_B10 at h
        refine q_iload_n (j := 2) X dX8_closeIfEmpty_10 rfl rfl ?_
        refine q_iconst (v := 1) X dX8_closeIfEmpty_11 (by decide) ?_
        refine q_iadd X dX8_closeIfEmpty_12 ?_
        refine q_aload_n (j := 0) X dX8_closeIfEmpty_13 rfl rfl ?_
        refine q_get (k := 1) (v := .int (m_3.1 1 i 1)) X hK rfl rfl (Nat.le_of_ble_eq_true rfl) inTX8 (gc (t := 1) (by decide) hi) kw_1_230 rfl rfl dX8_closeIfEmpty_14 ?_
        refine q_icmp_ge (tgt := 59) X dX8_closeIfEmpty_17 (by decide) (fun c_6 => ?_) (fun c_6 => ?_)
        · have h := h.1 c_6
          refine q_aload_n (j := 0) X dX8_closeIfEmpty_59 rfl rfl ?_
          refine q_aload_n (j := 0) X dX8_closeIfEmpty_60 rfl rfl ?_
          refine q_get (k := 1) (v := .int (m_3.1 1 i 1)) X hK rfl rfl (Nat.le_of_ble_eq_true rfl) inTX8 (gc (t := 1) (by decide) hi) kw_1_230 rfl rfl dX8_closeIfEmpty_61 ?_
          refine q_iconst (v := 1) X dX8_closeIfEmpty_64 (by decide) ?_
          refine q_isub X dX8_closeIfEmpty_65 ?_
          refine q_putI (k := 1) X ax hK rfl rfl (Nat.le_of_ble_eq_true rfl) inTX8 (gc (t := 1) (by decide) hi) tyX8 tyX8_ok nmX8 kw_1_230 rfl rfl (tyX8_ok 1 (Nat.le_of_ble_eq_true rfl)) rfl dX8_closeIfEmpty_66 ?_
          refine q_nmP (fun m_7 em_7 => ?_)
          have h := h m_7 em_7
          exact hE _ _ _ dX8_closeIfEmpty_69 h
        · have h := h.2 c_6
          refine q_aload_n (j := 0) X dX8_closeIfEmpty_20 rfl rfl ?_
          refine q_get (k := 6) (v := .ref (ad 7 i)) X hK rfl rfl (Nat.le_of_ble_eq_true rfl) inTX8 (gc (t := 1) (by decide) hi) kw_2_2 rfl (rv_nn (a := ad 7) (r := i) hi.1) dX8_closeIfEmpty_21 ?_
          refine q_iload_n (j := 2) X dX8_closeIfEmpty_24 rfl rfl ?_
          obtain ⟨b_8, h⟩ := h
          refine q_aald (t := 7) (i := i) (jn := y_2.toNatClampNeg) (v := rv (ad 3) (m_3.2 7 i y_2.toNatClampNeg)) X hK rfl rfl (gc (t := 7) (by decide) hi) rfl b_8 rfl rfl dX8_closeIfEmpty_25 ?_
          refine q_aload_n (j := 1) X dX8_closeIfEmpty_26 rfl rfl ?_
          obtain ⟨k_9, h⟩ := h
          rw [rv_nn (a := ad 3) (r := (m_3.2 7 i y_2.toNatClampNeg)) k_9.1]
          refine q_acmp_ne (tgt := 53) X ax (gc (t := 3) (by decide) k_9) (gc (t := 3) (by decide) hp0) dX8_closeIfEmpty_27 (by decide) (fun c_10 => ?_) (fun c_10 => ?_)
          · have h := h.1 c_10
            obtain ⟨x_11, ex_11⟩ : ∃ z : Int32, z = y_2 + 1 := ⟨_, rfl⟩
            have h := h x_11 ex_11
            refine q_iinc (j := 2) (v := x_11) (lv' := [(2, .int x_11), (0, .ref (ad 1 i)), (1, .ref (ad 3 p0))]) X dX8_closeIfEmpty_53 rfl (by rw [ex_11]; rfl) (by decide) rfl ?_
            refine q_goto (tgt := 10) X dX8_closeIfEmpty_56 (by decide) ?_
            refine q_sub [1, 2, 0] rfl ?_
            exact ih_5 x_11 m_3 h
          · have h := h.2 c_10
            refine q_aload_n (j := 0) X dX8_closeIfEmpty_30 rfl rfl ?_
            refine q_get (k := 6) (v := .ref (ad 7 i)) X hK rfl rfl (Nat.le_of_ble_eq_true rfl) inTX8 (gc (t := 1) (by decide) hi) kw_2_2 rfl (rv_nn (a := ad 7) (r := i) hi.1) dX8_closeIfEmpty_31 ?_
            refine q_iload_n (j := 2) X dX8_closeIfEmpty_34 rfl rfl ?_
            refine q_aload_n (j := 0) X dX8_closeIfEmpty_35 rfl rfl ?_
            refine q_get (k := 6) (v := .ref (ad 7 i)) X hK rfl rfl (Nat.le_of_ble_eq_true rfl) inTX8 (gc (t := 1) (by decide) hi) kw_2_2 rfl (rv_nn (a := ad 7) (r := i) hi.1) dX8_closeIfEmpty_36 ?_
            refine q_iload_n (j := 2) X dX8_closeIfEmpty_39 rfl rfl ?_
            refine q_iconst (v := 1) X dX8_closeIfEmpty_40 (by decide) ?_
            refine q_iadd X dX8_closeIfEmpty_41 ?_
            obtain ⟨b_12, h⟩ := h
            refine q_aald (t := 7) (i := i) (jn := (y_2 + 1).toNatClampNeg) (v := rv (ad 3) (m_3.2 7 i (y_2 + 1).toNatClampNeg)) X hK rfl rfl (gc (t := 7) (by decide) hi) rfl b_12 rfl rfl dX8_closeIfEmpty_42 ?_
            obtain ⟨k_13, h⟩ := h
            rw [rv_nn (a := ad 3) (r := (m_3.2 7 i (y_2 + 1).toNatClampNeg)) k_13.1]
            refine q_aast (t := 7) (i := i) (jn := y_2.toNatClampNeg) X ax hK rfl rfl (gc (t := 7) (by decide) hi) rfl rfl rfl (gc (t := 3) (by decide) k_13) k_13.1 b_8 rfl rfl rfl dX8_closeIfEmpty_43 ?_
            refine q_nmP (fun m_14 em_14 => ?_)
            have h := h m_14 em_14
            refine q_aload_n (j := 0) X dX8_closeIfEmpty_44 rfl rfl ?_
            refine q_get (k := 6) (v := .ref (ad 7 i)) X hK rfl rfl (Nat.le_of_ble_eq_true rfl) inTX8 (gc (t := 1) (by decide) hi) kw_2_2 rfl (rv_nn (a := ad 7) (r := i) hi.1) dX8_closeIfEmpty_45 ?_
            refine q_iload_n (j := 2) X dX8_closeIfEmpty_48 rfl rfl ?_
            refine q_iconst (v := 1) X dX8_closeIfEmpty_49 (by decide) ?_
            refine q_iadd X dX8_closeIfEmpty_50 ?_
            refine q_aload_n (j := 1) X dX8_closeIfEmpty_51 rfl rfl ?_
            refine q_aast (t := 7) (i := i) (jn := (y_2 + 1).toNatClampNeg) X ax hK rfl rfl (gc (t := 7) (by decide) hi) rfl rfl rfl (gc (t := 3) (by decide) hp0) hp0.1 b_12 rfl rfl rfl dX8_closeIfEmpty_52 ?_
            refine q_nmP (fun m_15 em_15 => ?_)
            have h := h m_15 em_15
            obtain ⟨x_16, ex_16⟩ : ∃ z : Int32, z = y_2 + 1 := ⟨_, rfl⟩
            have h := h x_16 ex_16
            refine q_iinc (j := 2) (v := x_16) (lv' := [(2, .int x_16), (0, .ref (ad 1 i)), (1, .ref (ad 3 p0))]) X dX8_closeIfEmpty_53 rfl (by rw [ex_16]; rfl) (by decide) rfl ?_
            refine q_goto (tgt := 10) X dX8_closeIfEmpty_56 (by decide) ?_
            refine q_sub [1, 2, 0] rfl ?_
            exact ih_5 x_16 m_15 h
    obtain ⟨n_17, h⟩ := h
    exact L10 n_17 0 mm h
  · have h := h.2 c_1
    exact hE _ _ _ dX8_closeIfEmpty_7 h
theorem dX1_takeIntoCountry_0 : decode cX1_takeIntoCountry 0 = .ok (.aload_n 0, 1) := by decide +kernel
theorem dX1_takeIntoCountry_1 : decode cX1_takeIntoCountry 1 = .ok (.getfield 9, 3) := by decide +kernel
theorem dX1_takeIntoCountry_4 : decode cX1_takeIntoCountry 4 = .ok (.iload_n 1, 1) := by decide +kernel
theorem dX1_takeIntoCountry_5 : decode cX1_takeIntoCountry 5 = .ok (.invokevirtual 79, 3) := by decide +kernel
theorem dX1_takeIntoCountry_8 : decode cX1_takeIntoCountry 8 = .ok (.astore_n 3, 1) := by decide +kernel
theorem dX1_takeIntoCountry_9 : decode cX1_takeIntoCountry 9 = .ok (.aload_n 3, 1) := by decide +kernel
theorem dX1_takeIntoCountry_10 : decode cX1_takeIntoCountry 10 = .ok (.ifnonnull 5, 3) := by decide +kernel
theorem dX1_takeIntoCountry_13 : decode cX1_takeIntoCountry 13 = .ok (.iconst (-1), 1) := by decide +kernel
theorem dX1_takeIntoCountry_14 : decode cX1_takeIntoCountry 14 = .ok (.ireturn, 1) := by decide +kernel
theorem dX1_takeIntoCountry_15 : decode cX1_takeIntoCountry 15 = .ok (.iload_n 2, 1) := by decide +kernel
theorem dX1_takeIntoCountry_16 : decode cX1_takeIntoCountry 16 = .ok (.iconst 1, 1) := by decide +kernel
theorem dX1_takeIntoCountry_17 : decode cX1_takeIntoCountry 17 = .ok (.sipush 999, 3) := by decide +kernel
theorem dX1_takeIntoCountry_20 : decode cX1_takeIntoCountry 20 = .ok (.invokestatic 83, 3) := by decide +kernel
theorem dX1_takeIntoCountry_23 : decode cX1_takeIntoCountry 23 = .ok (.ifCond .ne 6, 3) := by decide +kernel
theorem dX1_takeIntoCountry_26 : decode cX1_takeIntoCountry 26 = .ok (.bipush (-2), 2) := by decide +kernel
theorem dX1_takeIntoCountry_28 : decode cX1_takeIntoCountry 28 = .ok (.ireturn, 1) := by decide +kernel
theorem dX1_takeIntoCountry_29 : decode cX1_takeIntoCountry 29 = .ok (.aload_n 0, 1) := by decide +kernel
theorem dX1_takeIntoCountry_30 : decode cX1_takeIntoCountry 30 = .ok (.getfield 9, 3) := by decide +kernel
theorem dX1_takeIntoCountry_33 : decode cX1_takeIntoCountry 33 = .ok (.aload_n 3, 1) := by decide +kernel
theorem dX1_takeIntoCountry_34 : decode cX1_takeIntoCountry 34 = .ok (.iload_n 2, 1) := by decide +kernel
theorem dX1_takeIntoCountry_35 : decode cX1_takeIntoCountry 35 = .ok (.invokevirtual 87, 3) := by decide +kernel
theorem dX1_takeIntoCountry_38 : decode cX1_takeIntoCountry 38 = .ok (.ifCond .eq 6, 3) := by decide +kernel
theorem dX1_takeIntoCountry_41 : decode cX1_takeIntoCountry 41 = .ok (.bipush (-3), 2) := by decide +kernel
theorem dX1_takeIntoCountry_43 : decode cX1_takeIntoCountry 43 = .ok (.ireturn, 1) := by decide +kernel
theorem dX1_takeIntoCountry_44 : decode cX1_takeIntoCountry 44 = .ok (.aload_n 0, 1) := by decide +kernel
theorem dX1_takeIntoCountry_45 : decode cX1_takeIntoCountry 45 = .ok (.getfield 15, 3) := by decide +kernel
theorem dX1_takeIntoCountry_48 : decode cX1_takeIntoCountry 48 = .ok (.aload_n 0, 1) := by decide +kernel
theorem dX1_takeIntoCountry_49 : decode cX1_takeIntoCountry 49 = .ok (.getfield 9, 3) := by decide +kernel
theorem dX1_takeIntoCountry_52 : decode cX1_takeIntoCountry 52 = .ok (.invokevirtual 29, 3) := by decide +kernel
theorem dX1_takeIntoCountry_55 : decode cX1_takeIntoCountry 55 = .ok (.aload_n 0, 1) := by decide +kernel
theorem dX1_takeIntoCountry_56 : decode cX1_takeIntoCountry 56 = .ok (.getfield 9, 3) := by decide +kernel
theorem dX1_takeIntoCountry_59 : decode cX1_takeIntoCountry 59 = .ok (.aload_n 3, 1) := by decide +kernel
theorem dX1_takeIntoCountry_60 : decode cX1_takeIntoCountry 60 = .ok (.iload_n 2, 1) := by decide +kernel
theorem dX1_takeIntoCountry_61 : decode cX1_takeIntoCountry 61 = .ok (.invokevirtual 91, 3) := by decide +kernel
theorem dX1_takeIntoCountry_64 : decode cX1_takeIntoCountry 64 = .ok (.istore 4, 2) := by decide +kernel
theorem dX1_takeIntoCountry_66 : decode cX1_takeIntoCountry 66 = .ok (.aload_n 0, 1) := by decide +kernel
theorem dX1_takeIntoCountry_67 : decode cX1_takeIntoCountry 67 = .ok (.getfield 9, 3) := by decide +kernel
theorem dX1_takeIntoCountry_70 : decode cX1_takeIntoCountry 70 = .ok (.getfield 94, 3) := by decide +kernel
theorem dX1_takeIntoCountry_73 : decode cX1_takeIntoCountry 73 = .ok (.iload 4, 2) := by decide +kernel
theorem dX1_takeIntoCountry_75 : decode cX1_takeIntoCountry 75 = .ok (.invokevirtual 98, 3) := by decide +kernel
theorem dX1_takeIntoCountry_78 : decode cX1_takeIntoCountry 78 = .ok (.aload_n 0, 1) := by decide +kernel
theorem dX1_takeIntoCountry_79 : decode cX1_takeIntoCountry 79 = .ok (.getfield 9, 3) := by decide +kernel
theorem dX1_takeIntoCountry_82 : decode cX1_takeIntoCountry 82 = .ok (.invokevirtual 104, 3) := by decide +kernel
theorem dX1_takeIntoCountry_85 : decode cX1_takeIntoCountry 85 = .ok (.astore 5, 2) := by decide +kernel
theorem dX1_takeIntoCountry_87 : decode cX1_takeIntoCountry 87 = .ok (.aload 5, 2) := by decide +kernel
theorem dX1_takeIntoCountry_89 : decode cX1_takeIntoCountry 89 = .ok (.aload_n 3, 1) := by decide +kernel
theorem dX1_takeIntoCountry_90 : decode cX1_takeIntoCountry 90 = .ok (.getfield 39, 3) := by decide +kernel
theorem dX1_takeIntoCountry_93 : decode cX1_takeIntoCountry 93 = .ok (.putfield 108, 3) := by decide +kernel
theorem dX1_takeIntoCountry_96 : decode cX1_takeIntoCountry 96 = .ok (.aload 5, 2) := by decide +kernel
theorem dX1_takeIntoCountry_98 : decode cX1_takeIntoCountry 98 = .ok (.iload_n 2, 1) := by decide +kernel
theorem dX1_takeIntoCountry_99 : decode cX1_takeIntoCountry 99 = .ok (.putfield 111, 3) := by decide +kernel
theorem dX1_takeIntoCountry_102 : decode cX1_takeIntoCountry 102 = .ok (.aload 5, 2) := by decide +kernel
theorem dX1_takeIntoCountry_104 : decode cX1_takeIntoCountry 104 = .ok (.iload 4, 2) := by decide +kernel
theorem dX1_takeIntoCountry_106 : decode cX1_takeIntoCountry 106 = .ok (.putfield 112, 3) := by decide +kernel
theorem dX1_takeIntoCountry_109 : decode cX1_takeIntoCountry 109 = .ok (.aload 5, 2) := by decide +kernel
theorem dX1_takeIntoCountry_111 : decode cX1_takeIntoCountry 111 = .ok (.aload_n 0, 1) := by decide +kernel
theorem dX1_takeIntoCountry_112 : decode cX1_takeIntoCountry 112 = .ok (.getfield 9, 3) := by decide +kernel
theorem dX1_takeIntoCountry_115 : decode cX1_takeIntoCountry 115 = .ok (.getfield 54, 3) := by decide +kernel
theorem dX1_takeIntoCountry_118 : decode cX1_takeIntoCountry 118 = .ok (.putfield 115, 3) := by decide +kernel
theorem dX1_takeIntoCountry_121 : decode cX1_takeIntoCountry 121 = .ok (.aload_n 0, 1) := by decide +kernel
theorem dX1_takeIntoCountry_122 : decode cX1_takeIntoCountry 122 = .ok (.getfield 9, 3) := by decide +kernel
theorem dX1_takeIntoCountry_125 : decode cX1_takeIntoCountry 125 = .ok (.getfield 67, 3) := by decide +kernel
theorem dX1_takeIntoCountry_128 : decode cX1_takeIntoCountry 128 = .ok (.aload_n 3, 1) := by decide +kernel
theorem dX1_takeIntoCountry_129 : decode cX1_takeIntoCountry 129 = .ok (.getfield 39, 3) := by decide +kernel
theorem dX1_takeIntoCountry_132 : decode cX1_takeIntoCountry 132 = .ok (.aaload, 1) := by decide +kernel
theorem dX1_takeIntoCountry_133 : decode cX1_takeIntoCountry 133 = .ok (.dup, 1) := by decide +kernel
theorem dX1_takeIntoCountry_134 : decode cX1_takeIntoCountry 134 = .ok (.getfield 118, 3) := by decide +kernel
theorem dX1_takeIntoCountry_137 : decode cX1_takeIntoCountry 137 = .ok (.iload_n 2, 1) := by decide +kernel
theorem dX1_takeIntoCountry_138 : decode cX1_takeIntoCountry 138 = .ok (.iadd, 1) := by decide +kernel
theorem dX1_takeIntoCountry_139 : decode cX1_takeIntoCountry 139 = .ok (.putfield 118, 3) := by decide +kernel
theorem dX1_takeIntoCountry_142 : decode cX1_takeIntoCountry 142 = .ok (.aload_n 3, 1) := by decide +kernel
theorem dX1_takeIntoCountry_143 : decode cX1_takeIntoCountry 143 = .ok (.iload_n 2, 1) := by decide +kernel
theorem dX1_takeIntoCountry_144 : decode cX1_takeIntoCountry 144 = .ok (.invokevirtual 121, 3) := by decide +kernel
theorem dX1_takeIntoCountry_147 : decode cX1_takeIntoCountry 147 = .ok (.aload_n 0, 1) := by decide +kernel
theorem dX1_takeIntoCountry_148 : decode cX1_takeIntoCountry 148 = .ok (.getfield 9, 3) := by decide +kernel
theorem dX1_takeIntoCountry_151 : decode cX1_takeIntoCountry 151 = .ok (.aload_n 3, 1) := by decide +kernel
theorem dX1_takeIntoCountry_152 : decode cX1_takeIntoCountry 152 = .ok (.invokevirtual 124, 3) := by decide +kernel
theorem dX1_takeIntoCountry_155 : decode cX1_takeIntoCountry 155 = .ok (.iload 4, 2) := by decide +kernel
theorem dX1_takeIntoCountry_157 : decode cX1_takeIntoCountry 157 = .ok (.ireturn, 1) := by decide +kernel
def w_X1_takeIntoCountry (p0 : Int32) (p1 : Int32) (mm : Mm) (Q9 : Int32 → Mm → Prop) : Prop :=
  w_X8_findEntry 1 p0 mm (fun (r_1 : Nat) => ((¬ r_1 = 0 → w_X9_isWithin p1 1 999 mm (fun (r_4 : Int32) => ((¬ r_4 = 0 → ok 3 r_1 ∧ w_X8_reasonAgainstWithdrawal 1 r_1 p1 mm (fun (r_8 : Int32) => ((r_8 = 0 → w_X3_save 1 mm (fun (m_12 : Mm) => w_X8_dutyNow 1 r_1 p1 m_12 (fun (r_13 : Int32) => w_X6_takeDuty 1 r_13 m_12 (fun (m_16 : Mm) => w_X8_addReceipt 1 m_16 (fun (r_17 : Nat) (m_18 : Mm) => ok 4 r_17 ∧ ∀ m_20 : Mm, m_20 = sI m_18 4 r_17 0 (m_18.1 3 r_1 1) → (∀ m_21 : Mm, m_21 = sI m_20 4 r_17 1 p1 → (∀ m_22 : Mm, m_22 = sI m_21 4 r_17 2 r_13 → (∀ m_23 : Mm, m_23 = sI m_22 4 r_17 3 (m_22.1 1 1 0) → (vp_in (m_23.1 3 r_1 1) 6 ∧ (∀ m_25 : Mm, m_25 = sI m_23 6 (6 * (1 - 1) + (m_23.1 3 r_1 1).toNatClampNeg + 1) 3 ((m_23.1 6 (6 * (1 - 1) + (m_23.1 3 r_1 1).toNatClampNeg + 1) 3) + p1) → (w_X2_losePart r_1 p1 m_25 (fun (m_27 : Mm) => w_X8_closeIfEmpty 1 r_1 m_27 (fun (m_29 : Mm) => Q9 r_13 m_29))))))))))))) ∧
  (¬ r_8 = 0 → Q9 (-3) mm)))) ∧
  (r_4 = 0 → Q9 (-2) mm)))) ∧
  (r_1 = 0 → Q9 (-1) mm)))
def rm_X1_takeIntoCountry : Room := { frames := 3, cells := 0, slots := 0, locals := 69 }
theorem hy_X1_takeIntoCountry : yX1_takeIntoCountry.cls = RX1 ∧ yX1_takeIntoCountry.cls ≠ "java/lang/invoke/MethodHandle" ∧ yX1_takeIntoCountry.cls ≠ "java/lang/invoke/VarHandle" ∧ (parseMethodDescriptor yX1_takeIntoCountry.desc).map (fun d => d.parameters.length) = some 2 := by decide +kernel
set_option maxRecDepth 100000 in
set_option maxHeartbeats 4000000 in
theorem c_X1_takeIntoCountry {l : Launch} {D : va_G} {cA : Nat → ClassId} {ad : Nat → Nat → Nat} {A : Nat → Prop} (ax : Ax ad GC A) (p0 : Int32) (p1 : Int32) (mm : Mm) (Q9 : Int32 → Mm → Prop) (h : w_X1_takeIntoCountry p0 p1 mm Q9) : Met l yX1_takeIntoCountry (.code yX1_takeIntoCountry cX1_takeIntoCountry 6 (some .int) :: TG) rm_X1_takeIntoCountry (PcM TT D cA ad false GC (ZC ad A) [.ref (ad 16 1), .int p0, .int p1] mm) (AnsI TT D cA ad false GC A Q9) 0 0 A := by
  have zo := ZC_ok ad A
  unfold w_X1_takeIntoCountry at h
  refine enterI pl_X1 ⟨rfl, rfl⟩ rfl (Nat.le_of_ble_eq_true rfl) ?_
  intro p e s m args below meth c QQ X hK hZ hnm hE
  refine q_aload_n (j := 0) X dX1_takeIntoCountry_0 rfl rfl ?_
  refine q_get (k := 0) (v := .ref (ad 1 1)) X hK rfl rfl (Nat.le_of_ble_eq_true rfl) inTX1 (gc (t := 16) (by decide) (ok1 (t := 16) (Nat.le_of_ble_eq_true rfl))) kw_2_75 rfl (rv_nn (a := ad 1) (r := 1) (ok1 (t := 1) (Nat.le_of_ble_eq_true rfl)).1) dX1_takeIntoCountry_1 ?_
  refine q_iload_n (j := 1) X dX1_takeIntoCountry_4 rfl rfl ?_
  refine q_callr (q_runVN X hK hZ zo (gc (t := 1) (by decide) (ok1 (t := 1) (Nat.le_of_ble_eq_true rfl))) rfl rfl [.int p0] [] rfl rfl (Nat.le_of_ble_eq_true rfl) dX1_takeIntoCountry_5 ⟨Nat.le_of_ble_eq_true rfl, Nat.le_of_ble_eq_true rfl⟩ (c_X8_findEntry ax 1 (ok1 (t := 1) (Nat.le_of_ble_eq_true rfl)) p0 mm _ h) rfl rfl (List.mem_of_getElem? (i := 24) rfl) kw_1_2 kw_3_106 kw_3_105 ks_19 hy_X8_findEntry.2 ⟨Nat.le_of_ble_eq_true rfl, Nat.le_of_ble_eq_true rfl⟩) (fun r_1 m_2 h => ?_)
  obtain ⟨h, hm⟩ := h
  subst hm
  refine q_vstore_n (lv' := [(3, rv (ad 3) r_1), (0, .ref (ad 16 1)), (1, .int p0), (2, .int p1)]) X dX1_takeIntoCountry_8 rfl (by decide) rfl ?_
  refine q_vload_n (j := 0) X dX1_takeIntoCountry_9 rfl rfl ?_
  refine q_ifnonnull (tgt := 15) X dX1_takeIntoCountry_10 (by decide) (fun c_3 => ?_) (fun c_3 => ?_)
  · have h := h.1 c_3
    refine q_iload_n (j := 3) X dX1_takeIntoCountry_15 rfl rfl ?_
    refine q_iconst (v := 1) X dX1_takeIntoCountry_16 (by decide) ?_
    refine q_sipush (v := 999) X dX1_takeIntoCountry_17 (by decide) ?_
    refine q_calli (q_runSN X hK hZ zo [.int p1, .int 1, .int 999] [] rfl rfl (Nat.le_of_ble_eq_true rfl) dX1_takeIntoCountry_20 ⟨Nat.le_of_ble_eq_true rfl, Nat.le_of_ble_eq_true rfl⟩ (c_X9_isWithin ax p1 1 999 mm _ h) rfl rfl (List.mem_of_getElem? (i := 25) rfl) kw_1_1 kw_2_158 kw_2_157 hy_X9_isWithin.2 ⟨Nat.le_of_ble_eq_true rfl, Nat.le_of_ble_eq_true rfl⟩) (fun r_4 m_5 h => ?_)
    obtain ⟨h, hm⟩ := h
    subst hm
    refine q_if_ne (tgt := 29) X dX1_takeIntoCountry_23 (by decide) (fun c_6 => ?_) (fun c_6 => ?_)
    · have h := h.1 c_6
      refine q_aload_n (j := 1) X dX1_takeIntoCountry_29 rfl rfl ?_
      refine q_get (k := 0) (v := .ref (ad 1 1)) X hK rfl rfl (Nat.le_of_ble_eq_true rfl) inTX1 (gc (t := 16) (by decide) (ok1 (t := 16) (Nat.le_of_ble_eq_true rfl))) kw_2_75 rfl (rv_nn (a := ad 1) (r := 1) (ok1 (t := 1) (Nat.le_of_ble_eq_true rfl)).1) dX1_takeIntoCountry_30 ?_
      refine q_vload_n (j := 0) X dX1_takeIntoCountry_33 rfl rfl ?_
      refine q_iload_n (j := 3) X dX1_takeIntoCountry_34 rfl rfl ?_
      obtain ⟨k_7, h⟩ := h
      rw [rv_nn (a := ad 3) (r := r_1) k_7.1]
      refine q_calli (q_runVN X hK hZ zo (gc (t := 1) (by decide) (ok1 (t := 1) (Nat.le_of_ble_eq_true rfl))) rfl rfl [.ref (ad 3 r_1), .int p1] [] rfl rfl (Nat.le_of_ble_eq_true rfl) dX1_takeIntoCountry_35 ⟨Nat.le_of_ble_eq_true rfl, Nat.le_of_ble_eq_true rfl⟩ (c_X8_reasonAgainstWithdrawal ax 1 (ok1 (t := 1) (Nat.le_of_ble_eq_true rfl)) r_1 k_7 p1 mm _ h) rfl rfl (List.mem_of_getElem? (i := 26) rfl) kw_1_2 kw_3_111 kw_3_110 ks_20 hy_X8_reasonAgainstWithdrawal.2 ⟨Nat.le_of_ble_eq_true rfl, Nat.le_of_ble_eq_true rfl⟩) (fun r_8 m_9 h => ?_)
      obtain ⟨h, hm⟩ := h
      subst hm
      refine q_if_eq (tgt := 44) X dX1_takeIntoCountry_38 (by decide) (fun c_10 => ?_) (fun c_10 => ?_)
      · have h := h.1 c_10
        refine q_aload_n (j := 1) X dX1_takeIntoCountry_44 rfl rfl ?_
        refine q_get (k := 1) (v := .ref (ad 12 1)) X hK rfl rfl (Nat.le_of_ble_eq_true rfl) inTX1 (gc (t := 16) (by decide) (ok1 (t := 16) (Nat.le_of_ble_eq_true rfl))) kw_2_76 rfl (rv_nn (a := ad 12) (r := 1) (ok1 (t := 12) (Nat.le_of_ble_eq_true rfl)).1) dX1_takeIntoCountry_45 ?_
        refine q_aload_n (j := 1) X dX1_takeIntoCountry_48 rfl rfl ?_
        refine q_get (k := 0) (v := .ref (ad 1 1)) X hK rfl rfl (Nat.le_of_ble_eq_true rfl) inTX1 (gc (t := 16) (by decide) (ok1 (t := 16) (Nat.le_of_ble_eq_true rfl))) kw_2_75 rfl (rv_nn (a := ad 1) (r := 1) (ok1 (t := 1) (Nat.le_of_ble_eq_true rfl)).1) dX1_takeIntoCountry_49 ?_
        refine q_callv (q_runVN X hK hZ zo (gc (t := 12) (by decide) (ok1 (t := 12) (Nat.le_of_ble_eq_true rfl))) rfl rfl [.ref (ad 1 1)] [] rfl rfl (Nat.le_of_ble_eq_true rfl) dX1_takeIntoCountry_52 ⟨Nat.le_of_ble_eq_true rfl, Nat.le_of_ble_eq_true rfl⟩ (c_X3_save ax 1 (ok1 (t := 1) (Nat.le_of_ble_eq_true rfl)) mm _ h) rfl rfl (List.mem_of_getElem? (i := 15) rfl) kw_1_8 kw_2_194 kw_2_193 ks_9 hy_X3_save.2 ⟨Nat.le_of_ble_eq_true rfl, Nat.le_of_ble_eq_true rfl⟩) (fun m_12 h => ?_)
        refine q_aload_n (j := 1) X dX1_takeIntoCountry_55 rfl rfl ?_
        refine q_get (k := 0) (v := .ref (ad 1 1)) X hK rfl rfl (Nat.le_of_ble_eq_true rfl) inTX1 (gc (t := 16) (by decide) (ok1 (t := 16) (Nat.le_of_ble_eq_true rfl))) kw_2_75 rfl (rv_nn (a := ad 1) (r := 1) (ok1 (t := 1) (Nat.le_of_ble_eq_true rfl)).1) dX1_takeIntoCountry_56 ?_
        refine q_aload_n (j := 0) X dX1_takeIntoCountry_59 rfl rfl ?_
        refine q_iload_n (j := 3) X dX1_takeIntoCountry_60 rfl rfl ?_
        refine q_calli (q_runVN X hK hZ zo (gc (t := 1) (by decide) (ok1 (t := 1) (Nat.le_of_ble_eq_true rfl))) rfl rfl [.ref (ad 3 r_1), .int p1] [] rfl rfl (Nat.le_of_ble_eq_true rfl) dX1_takeIntoCountry_61 ⟨Nat.le_of_ble_eq_true rfl, Nat.le_of_ble_eq_true rfl⟩ (c_X8_dutyNow ax 1 (ok1 (t := 1) (Nat.le_of_ble_eq_true rfl)) r_1 k_7 p1 m_12 _ h) rfl rfl (List.mem_of_getElem? (i := 28) rfl) kw_1_2 kw_3_119 kw_3_118 ks_22 hy_X8_dutyNow.2 ⟨Nat.le_of_ble_eq_true rfl, Nat.le_of_ble_eq_true rfl⟩) (fun r_13 m_14 h => ?_)
        obtain ⟨h, hm⟩ := h
        subst hm
        refine q_istore (lv' := [(4, .int r_13), (3, .ref (ad 3 r_1)), (0, .ref (ad 16 1)), (1, .int p0), (2, .int p1)]) X dX1_takeIntoCountry_64 (by decide) rfl ?_
        refine q_aload_n (j := 2) X dX1_takeIntoCountry_66 rfl rfl ?_
        refine q_get (k := 0) (v := .ref (ad 1 1)) X hK rfl rfl (Nat.le_of_ble_eq_true rfl) inTX1 (gc (t := 16) (by decide) (ok1 (t := 16) (Nat.le_of_ble_eq_true rfl))) kw_2_75 rfl (rv_nn (a := ad 1) (r := 1) (ok1 (t := 1) (Nat.le_of_ble_eq_true rfl)).1) dX1_takeIntoCountry_67 ?_
        refine q_getN (k := 5) (v := .ref (ad 2 1)) X hK rfl rfl (Nat.le_of_ble_eq_true rfl) inTX8 (gc (t := 1) (by decide) (ok1 (t := 1) (Nat.le_of_ble_eq_true rfl))) (List.mem_of_getElem? (i := 73) rfl) rfl (rv_nn (a := ad 2) (r := 1) (ok1 (t := 2) (Nat.le_of_ble_eq_true rfl)).1) dX1_takeIntoCountry_70 ?_
        refine q_iload (j := 0) X dX1_takeIntoCountry_73 rfl ?_
        refine q_callv (q_runVN X hK hZ zo (gc (t := 2) (by decide) (ok1 (t := 2) (Nat.le_of_ble_eq_true rfl))) rfl rfl [.int r_13] [] rfl rfl (Nat.le_of_ble_eq_true rfl) dX1_takeIntoCountry_75 ⟨Nat.le_of_ble_eq_true rfl, Nat.le_of_ble_eq_true rfl⟩ (c_X6_takeDuty ax 1 (ok1 (t := 2) (Nat.le_of_ble_eq_true rfl)) r_13 m_12 _ h) rfl rfl (List.mem_of_getElem? (i := 29) rfl) kw_1_3 kw_3_128 kw_3_127 ks_24 hy_X6_takeDuty.2 ⟨Nat.le_of_ble_eq_true rfl, Nat.le_of_ble_eq_true rfl⟩) (fun m_16 h => ?_)
        refine q_aload_n (j := 2) X dX1_takeIntoCountry_78 rfl rfl ?_
        refine q_get (k := 0) (v := .ref (ad 1 1)) X hK rfl rfl (Nat.le_of_ble_eq_true rfl) inTX1 (gc (t := 16) (by decide) (ok1 (t := 16) (Nat.le_of_ble_eq_true rfl))) kw_2_75 rfl (rv_nn (a := ad 1) (r := 1) (ok1 (t := 1) (Nat.le_of_ble_eq_true rfl)).1) dX1_takeIntoCountry_79 ?_
        refine q_callr (q_runVN X hK hZ zo (gc (t := 1) (by decide) (ok1 (t := 1) (Nat.le_of_ble_eq_true rfl))) rfl rfl [] [] rfl rfl (Nat.le_of_ble_eq_true rfl) dX1_takeIntoCountry_82 ⟨Nat.le_of_ble_eq_true rfl, Nat.le_of_ble_eq_true rfl⟩ (c_X8_addReceipt ax 1 (ok1 (t := 1) (Nat.le_of_ble_eq_true rfl)) m_16 _ h) rfl rfl (List.mem_of_getElem? (i := 30) rfl) kw_1_2 kw_3_132 kw_3_131 ks_25 hy_X8_addReceipt.2 ⟨Nat.le_of_ble_eq_true rfl, Nat.le_of_ble_eq_true rfl⟩) (fun r_17 m_18 h => ?_)
        refine q_vstore (lv' := [(5, rv (ad 4) r_17), (4, .int r_13), (3, .ref (ad 3 r_1)), (0, .ref (ad 16 1)), (1, .int p0), (2, .int p1)]) X dX1_takeIntoCountry_85 (by decide) rfl ?_
        refine q_vload (j := 0) X dX1_takeIntoCountry_87 rfl ?_
        refine q_aload_n (j := 2) X dX1_takeIntoCountry_89 rfl rfl ?_
        refine q_getN (k := 1) (v := .int (m_18.1 3 r_1 1)) X hK rfl rfl (Nat.le_of_ble_eq_true rfl) inTX2 (gc (t := 3) (by decide) k_7) (List.mem_of_getElem? (i := 15) rfl) rfl rfl dX1_takeIntoCountry_90 ?_
        obtain ⟨k_19, h⟩ := h
        rw [rv_nn (a := ad 4) (r := r_17) k_19.1]
        refine q_putIN (k := 0) X ax hK rfl rfl (Nat.le_of_ble_eq_true rfl) inTX7 (gc (t := 4) (by decide) k_19) tyX7 tyX7_ok nmX7 (List.mem_of_getElem? (i := 34) rfl) rfl rfl (tyX7_ok 0 (Nat.le_of_ble_eq_true rfl)) rfl dX1_takeIntoCountry_93 ?_
        refine q_nmP (fun m_20 em_20 => ?_)
        have h := h m_20 em_20
        refine q_aload (j := 0) X dX1_takeIntoCountry_96 rfl ?_
        refine q_iload_n (j := 5) X dX1_takeIntoCountry_98 rfl rfl ?_
        refine q_putIN (k := 1) X ax hK rfl rfl (Nat.le_of_ble_eq_true rfl) inTX7 (gc (t := 4) (by decide) k_19) tyX7 tyX7_ok nmX7 (List.mem_of_getElem? (i := 36) rfl) rfl rfl (tyX7_ok 1 (Nat.le_of_ble_eq_true rfl)) rfl dX1_takeIntoCountry_99 ?_
        refine q_nmP (fun m_21 em_21 => ?_)
        have h := h m_21 em_21
        refine q_aload (j := 0) X dX1_takeIntoCountry_102 rfl ?_
        refine q_iload (j := 1) X dX1_takeIntoCountry_104 rfl ?_
        refine q_putIN (k := 2) X ax hK rfl rfl (Nat.le_of_ble_eq_true rfl) inTX7 (gc (t := 4) (by decide) k_19) tyX7 tyX7_ok nmX7 (List.mem_of_getElem? (i := 39) rfl) rfl rfl (tyX7_ok 2 (Nat.le_of_ble_eq_true rfl)) rfl dX1_takeIntoCountry_106 ?_
        refine q_nmP (fun m_22 em_22 => ?_)
        have h := h m_22 em_22
        refine q_aload (j := 0) X dX1_takeIntoCountry_109 rfl ?_
        refine q_aload_n (j := 3) X dX1_takeIntoCountry_111 rfl rfl ?_
        refine q_get (k := 0) (v := .ref (ad 1 1)) X hK rfl rfl (Nat.le_of_ble_eq_true rfl) inTX1 (gc (t := 16) (by decide) (ok1 (t := 16) (Nat.le_of_ble_eq_true rfl))) kw_2_75 rfl (rv_nn (a := ad 1) (r := 1) (ok1 (t := 1) (Nat.le_of_ble_eq_true rfl)).1) dX1_takeIntoCountry_112 ?_
        refine q_getN (k := 0) (v := .int (m_22.1 1 1 0)) X hK rfl rfl (Nat.le_of_ble_eq_true rfl) inTX8 (gc (t := 1) (by decide) (ok1 (t := 1) (Nat.le_of_ble_eq_true rfl))) (List.mem_of_getElem? (i := 66) rfl) rfl rfl dX1_takeIntoCountry_115 ?_
        refine q_putIN (k := 3) X ax hK rfl rfl (Nat.le_of_ble_eq_true rfl) inTX7 (gc (t := 4) (by decide) k_19) tyX7 tyX7_ok nmX7 (List.mem_of_getElem? (i := 41) rfl) rfl rfl (tyX7_ok 3 (Nat.le_of_ble_eq_true rfl)) rfl dX1_takeIntoCountry_118 ?_
        refine q_nmP (fun m_23 em_23 => ?_)
        have h := h m_23 em_23
        refine q_aload_n (j := 3) X dX1_takeIntoCountry_121 rfl rfl ?_
        refine q_get (k := 0) (v := .ref (ad 1 1)) X hK rfl rfl (Nat.le_of_ble_eq_true rfl) inTX1 (gc (t := 16) (by decide) (ok1 (t := 16) (Nat.le_of_ble_eq_true rfl))) kw_2_75 rfl (rv_nn (a := ad 1) (r := 1) (ok1 (t := 1) (Nat.le_of_ble_eq_true rfl)).1) dX1_takeIntoCountry_122 ?_
        refine q_getN (k := 9) (v := .ref (ad 10 1)) X hK rfl rfl (Nat.le_of_ble_eq_true rfl) inTX8 (gc (t := 1) (by decide) (ok1 (t := 1) (Nat.le_of_ble_eq_true rfl))) (List.mem_of_getElem? (i := 79) rfl) rfl (rv_nn (a := ad 10) (r := 1) (ok1 (t := 10) (Nat.le_of_ble_eq_true rfl)).1) dX1_takeIntoCountry_125 ?_
        refine q_aload_n (j := 2) X dX1_takeIntoCountry_128 rfl rfl ?_
        refine q_getN (k := 1) (v := .int (m_23.1 3 r_1 1)) X hK rfl rfl (Nat.le_of_ble_eq_true rfl) inTX2 (gc (t := 3) (by decide) k_7) (List.mem_of_getElem? (i := 15) rfl) rfl rfl dX1_takeIntoCountry_129 ?_
        obtain ⟨b_24, h⟩ := h
        refine q_aald (t := 10) (i := 1) (jn := (m_23.1 3 r_1 1).toNatClampNeg) (v := .ref (ad 6 (6 * (1 - 1) + (m_23.1 3 r_1 1).toNatClampNeg + 1))) X hK rfl rfl (gc (t := 10) (by decide) (ok1 (t := 10) (Nat.le_of_ble_eq_true rfl))) rfl b_24 rfl (rv_nn (a := ad 6) (r := (6 * (1 - 1) + (m_23.1 3 r_1 1).toNatClampNeg + 1)) (ok_ki (ok1 (t := 10) (Nat.le_of_ble_eq_true rfl)) b_24).1) dX1_takeIntoCountry_132 ?_
        refine q_dup X dX1_takeIntoCountry_133 rfl ?_
        refine q_getN (k := 3) (v := .int (m_23.1 6 (6 * (1 - 1) + (m_23.1 3 r_1 1).toNatClampNeg + 1) 3)) X hK rfl rfl (Nat.le_of_ble_eq_true rfl) inTX5 (gc (t := 6) (by decide) (ok_ki (ok1 (t := 10) (Nat.le_of_ble_eq_true rfl)) b_24)) (List.mem_of_getElem? (i := 56) rfl) rfl rfl dX1_takeIntoCountry_134 ?_
        refine q_iload_n (j := 5) X dX1_takeIntoCountry_137 rfl rfl ?_
        refine q_iadd X dX1_takeIntoCountry_138 ?_
        refine q_putIN (k := 3) X ax hK rfl rfl (Nat.le_of_ble_eq_true rfl) inTX5 (gc (t := 6) (by decide) (ok_ki (ok1 (t := 10) (Nat.le_of_ble_eq_true rfl)) b_24)) tyX5 tyX5_ok nmX5 (List.mem_of_getElem? (i := 56) rfl) rfl rfl (tyX5_ok 3 (Nat.le_of_ble_eq_true rfl)) rfl dX1_takeIntoCountry_139 ?_
        refine q_nmP (fun m_25 em_25 => ?_)
        have h := h m_25 em_25
        refine q_aload_n (j := 2) X dX1_takeIntoCountry_142 rfl rfl ?_
        refine q_iload_n (j := 5) X dX1_takeIntoCountry_143 rfl rfl ?_
        refine q_callv (q_runVN X hK hZ zo (gc (t := 3) (by decide) k_7) rfl rfl [.int p1] [] rfl rfl (Nat.le_of_ble_eq_true rfl) dX1_takeIntoCountry_144 ⟨Nat.le_of_ble_eq_true rfl, Nat.le_of_ble_eq_true rfl⟩ (c_X2_losePart ax r_1 k_7 p1 m_25 _ h) rfl rfl (List.mem_of_getElem? (i := 31) rfl) kw_1_4 kw_3_139 kw_3_138 ks_26 hy_X2_losePart.2 ⟨Nat.le_of_ble_eq_true rfl, Nat.le_of_ble_eq_true rfl⟩) (fun m_27 h => ?_)
        refine q_aload_n (j := 3) X dX1_takeIntoCountry_147 rfl rfl ?_
        refine q_get (k := 0) (v := .ref (ad 1 1)) X hK rfl rfl (Nat.le_of_ble_eq_true rfl) inTX1 (gc (t := 16) (by decide) (ok1 (t := 16) (Nat.le_of_ble_eq_true rfl))) kw_2_75 rfl (rv_nn (a := ad 1) (r := 1) (ok1 (t := 1) (Nat.le_of_ble_eq_true rfl)).1) dX1_takeIntoCountry_148 ?_
        refine q_aload_n (j := 2) X dX1_takeIntoCountry_151 rfl rfl ?_
        refine q_callv (q_runVN X hK hZ zo (gc (t := 1) (by decide) (ok1 (t := 1) (Nat.le_of_ble_eq_true rfl))) rfl rfl [.ref (ad 3 r_1)] [] rfl rfl (Nat.le_of_ble_eq_true rfl) dX1_takeIntoCountry_152 ⟨Nat.le_of_ble_eq_true rfl, Nat.le_of_ble_eq_true rfl⟩ (c_X8_closeIfEmpty ax 1 (ok1 (t := 1) (Nat.le_of_ble_eq_true rfl)) r_1 k_7 m_27 _ h) rfl rfl (List.mem_of_getElem? (i := 32) rfl) kw_1_2 kw_3_144 kw_3_143 ks_27 hy_X8_closeIfEmpty.2 ⟨Nat.le_of_ble_eq_true rfl, Nat.le_of_ble_eq_true rfl⟩) (fun m_29 h => ?_)
        refine q_iload (j := 1) X dX1_takeIntoCountry_155 rfl ?_
        exact hE _ _ _ _ dX1_takeIntoCountry_157 h
      · have h := h.2 c_10
        refine q_bipush (v := (-3)) X dX1_takeIntoCountry_41 (by decide) ?_
        exact hE _ _ _ _ dX1_takeIntoCountry_43 h
    · have h := h.2 c_6
      refine q_bipush (v := (-2)) X dX1_takeIntoCountry_26 (by decide) ?_
      exact hE _ _ _ _ dX1_takeIntoCountry_28 h
  · have h := h.2 c_3
    refine q_iconst (v := (-1)) X dX1_takeIntoCountry_13 (by decide) ?_
    exact hE _ _ _ _ dX1_takeIntoCountry_14 h
theorem dX8_isLate_0 : decode cX8_isLate 0 = .ok (.aload_n 0, 1) := by decide +kernel
theorem dX8_isLate_1 : decode cX8_isLate 1 = .ok (.aload_n 1, 1) := by decide +kernel
theorem dX8_isLate_2 : decode cX8_isLate 2 = .ok (.invokevirtual 109, 3) := by decide +kernel
theorem dX8_isLate_5 : decode cX8_isLate 5 = .ok (.sipush 200, 3) := by decide +kernel
theorem dX8_isLate_8 : decode cX8_isLate 8 = .ok (.if_icmp .le 7, 3) := by decide +kernel
theorem dX8_isLate_11 : decode cX8_isLate 11 = .ok (.iconst 1, 1) := by decide +kernel
theorem dX8_isLate_12 : decode cX8_isLate 12 = .ok (.goto 4, 3) := by decide +kernel
theorem dX8_isLate_15 : decode cX8_isLate 15 = .ok (.iconst 0, 1) := by decide +kernel
theorem dX8_isLate_16 : decode cX8_isLate 16 = .ok (.ireturn, 1) := by decide +kernel
def w_X8_isLate (i : Nat) (p0 : Nat) (mm : Mm) (Q9 : Int32 → Prop) : Prop :=
  w_X8_ageNow i p0 mm (fun (r_1 : Int32) => ((r_1 ≤ 200 → Q9 0) ∧
  (¬ r_1 ≤ 200 → Q9 1)))
def rm_X8_isLate : Room := { frames := 1, cells := 0, slots := 0, locals := 21 }
theorem hy_X8_isLate : yX8_isLate.cls = RX8 ∧ yX8_isLate.cls ≠ "java/lang/invoke/MethodHandle" ∧ yX8_isLate.cls ≠ "java/lang/invoke/VarHandle" ∧ (parseMethodDescriptor yX8_isLate.desc).map (fun d => d.parameters.length) = some 1 := by decide +kernel
set_option maxRecDepth 100000 in
set_option maxHeartbeats 4000000 in
theorem c_X8_isLate {l : Launch} {D : va_G} {cA : Nat → ClassId} {ad : Nat → Nat → Nat} {A : Nat → Prop} (ax : Ax ad GC A) (i : Nat) (hi : ok 1 i) (p0 : Nat) (hp0 : ok 3 p0) (mm : Mm) (Q9 : Int32 → Prop) (h : w_X8_isLate i p0 mm Q9) : Met l yX8_isLate (.code yX8_isLate cX8_isLate 2 (some .boolean) :: TG) rm_X8_isLate (PcM TT D cA ad false GC (ZC ad A) [.ref (ad 1 i), .ref (ad 3 p0)] mm) (AnsI TT D cA ad false GC A (fun r mm' => Q9 r ∧ mm = mm')) 0 0 A := by
  have zo := ZC_ok ad A
  unfold w_X8_isLate at h
  refine enterZ pl_X8 ⟨rfl, rfl⟩ rfl (Nat.le_of_ble_eq_true rfl) ?_
  intro p e s m args below meth c QQ X hK hZ hnm hE
  refine q_aload_n (j := 0) X dX8_isLate_0 rfl rfl ?_
  refine q_aload_n (j := 1) X dX8_isLate_1 rfl rfl ?_
  refine q_calli (q_runV X hK hZ zo (gc (t := 1) (by decide) hi) rfl rfl [.ref (ad 3 p0)] [] rfl rfl (Nat.le_of_ble_eq_true rfl) dX8_isLate_2 ⟨Nat.le_of_ble_eq_true rfl, Nat.le_of_ble_eq_true rfl⟩ (c_X8_ageNow ax i hi p0 hp0 mm _ h) rfl rfl (gV kw_2_179 kw_2_181 ks_6 kw_1_2 kw_2_182) hy_X8_ageNow ⟨Nat.le_of_ble_eq_true rfl, Nat.le_of_ble_eq_true rfl⟩) (fun r_1 m_2 h => ?_)
  obtain ⟨h, hm⟩ := h
  subst hm
  refine q_sipush (v := 200) X dX8_isLate_5 (by decide) ?_
  refine q_icmp_le (tgt := 15) X dX8_isLate_8 (by decide) (fun c_3 => ?_) (fun c_3 => ?_)
  · have h := h.1 c_3
    refine q_iconst (v := 0) X dX8_isLate_15 (by decide) ?_
    exact hE _ _ _ _ dX8_isLate_16 (Or.inl rfl) ⟨h, rfl⟩
  · have h := h.2 c_3
    refine q_iconst (v := 1) X dX8_isLate_11 (by decide) ?_
    refine q_goto (tgt := 16) X dX8_isLate_12 (by decide) ?_
    exact hE _ _ _ _ dX8_isLate_16 (Or.inr rfl) ⟨h, rfl⟩
theorem dX8_reasonAgainstExport_0 : decode cX8_reasonAgainstExport 0 = .ok (.aload_n 0, 1) := by decide +kernel
theorem dX8_reasonAgainstExport_1 : decode cX8_reasonAgainstExport 1 = .ok (.aload_n 1, 1) := by decide +kernel
theorem dX8_reasonAgainstExport_2 : decode cX8_reasonAgainstExport 2 = .ok (.iload_n 2, 1) := by decide +kernel
theorem dX8_reasonAgainstExport_3 : decode cX8_reasonAgainstExport 3 = .ok (.invokevirtual 173, 3) := by decide +kernel
theorem dX8_reasonAgainstExport_6 : decode cX8_reasonAgainstExport 6 = .ok (.istore_n 3, 1) := by decide +kernel
theorem dX8_reasonAgainstExport_7 : decode cX8_reasonAgainstExport 7 = .ok (.iload_n 3, 1) := by decide +kernel
theorem dX8_reasonAgainstExport_8 : decode cX8_reasonAgainstExport 8 = .ok (.ifCond .eq 5, 3) := by decide +kernel
theorem dX8_reasonAgainstExport_11 : decode cX8_reasonAgainstExport 11 = .ok (.iload_n 3, 1) := by decide +kernel
theorem dX8_reasonAgainstExport_12 : decode cX8_reasonAgainstExport 12 = .ok (.ireturn, 1) := by decide +kernel
theorem dX8_reasonAgainstExport_13 : decode cX8_reasonAgainstExport 13 = .ok (.aload_n 0, 1) := by decide +kernel
theorem dX8_reasonAgainstExport_14 : decode cX8_reasonAgainstExport 14 = .ok (.aload_n 1, 1) := by decide +kernel
theorem dX8_reasonAgainstExport_15 : decode cX8_reasonAgainstExport 15 = .ok (.invokevirtual 179, 3) := by decide +kernel
theorem dX8_reasonAgainstExport_18 : decode cX8_reasonAgainstExport 18 = .ok (.ifCond .eq 7, 3) := by decide +kernel
theorem dX8_reasonAgainstExport_21 : decode cX8_reasonAgainstExport 21 = .ok (.iconst 5, 1) := by decide +kernel
theorem dX8_reasonAgainstExport_22 : decode cX8_reasonAgainstExport 22 = .ok (.goto 4, 3) := by decide +kernel
theorem dX8_reasonAgainstExport_25 : decode cX8_reasonAgainstExport 25 = .ok (.iconst 0, 1) := by decide +kernel
theorem dX8_reasonAgainstExport_26 : decode cX8_reasonAgainstExport 26 = .ok (.ireturn, 1) := by decide +kernel
def w_X8_reasonAgainstExport (i : Nat) (p0 : Nat) (p1 : Int32) (mm : Mm) (Q9 : Int32 → Prop) : Prop :=
  w_X8_reasonAgainstLeaving i p0 p1 mm (fun (r_1 : Int32) => ((r_1 = 0 → w_X8_isLate i p0 mm (fun (r_4 : Int32) => ((r_4 = 0 → Q9 0) ∧
  (¬ r_4 = 0 → Q9 5)))) ∧
  (¬ r_1 = 0 → Q9 r_1)))
def rm_X8_reasonAgainstExport : Room := { frames := 2, cells := 0, slots := 0, locals := 42 }
theorem hy_X8_reasonAgainstExport : yX8_reasonAgainstExport.cls = RX8 ∧ yX8_reasonAgainstExport.cls ≠ "java/lang/invoke/MethodHandle" ∧ yX8_reasonAgainstExport.cls ≠ "java/lang/invoke/VarHandle" ∧ (parseMethodDescriptor yX8_reasonAgainstExport.desc).map (fun d => d.parameters.length) = some 2 := by decide +kernel
set_option maxRecDepth 100000 in
set_option maxHeartbeats 4000000 in
theorem c_X8_reasonAgainstExport {l : Launch} {D : va_G} {cA : Nat → ClassId} {ad : Nat → Nat → Nat} {A : Nat → Prop} (ax : Ax ad GC A) (i : Nat) (hi : ok 1 i) (p0 : Nat) (hp0 : ok 3 p0) (p1 : Int32) (mm : Mm) (Q9 : Int32 → Prop) (h : w_X8_reasonAgainstExport i p0 p1 mm Q9) : Met l yX8_reasonAgainstExport (.code yX8_reasonAgainstExport cX8_reasonAgainstExport 4 (some .int) :: TG) rm_X8_reasonAgainstExport (PcM TT D cA ad false GC (ZC ad A) [.ref (ad 1 i), .ref (ad 3 p0), .int p1] mm) (AnsI TT D cA ad false GC A (fun r mm' => Q9 r ∧ mm = mm')) 0 0 A := by
  have zo := ZC_ok ad A
  unfold w_X8_reasonAgainstExport at h
  refine enterI pl_X8 ⟨rfl, rfl⟩ rfl (Nat.le_of_ble_eq_true rfl) ?_
  intro p e s m args below meth c QQ X hK hZ hnm hE
  refine q_aload_n (j := 0) X dX8_reasonAgainstExport_0 rfl rfl ?_
  refine q_aload_n (j := 1) X dX8_reasonAgainstExport_1 rfl rfl ?_
  refine q_iload_n (j := 2) X dX8_reasonAgainstExport_2 rfl rfl ?_
  refine q_calli (q_runV X hK hZ zo (gc (t := 1) (by decide) hi) rfl rfl [.ref (ad 3 p0), .int p1] [] rfl rfl (Nat.le_of_ble_eq_true rfl) dX8_reasonAgainstExport_3 ⟨Nat.le_of_ble_eq_true rfl, Nat.le_of_ble_eq_true rfl⟩ (c_X8_reasonAgainstLeaving ax i hi p0 hp0 p1 mm _ h) rfl rfl (gV kw_3_112 kw_3_114 ks_21 kw_1_2 kw_3_115) hy_X8_reasonAgainstLeaving ⟨Nat.le_of_ble_eq_true rfl, Nat.le_of_ble_eq_true rfl⟩) (fun r_1 m_2 h => ?_)
  obtain ⟨h, hm⟩ := h
  subst hm
  refine q_istore_n (lv' := [(3, .int r_1), (0, .ref (ad 1 i)), (1, .ref (ad 3 p0)), (2, .int p1)]) X dX8_reasonAgainstExport_6 rfl (by decide) rfl ?_
  refine q_iload_n (j := 0) X dX8_reasonAgainstExport_7 rfl rfl ?_
  refine q_if_eq (tgt := 13) X dX8_reasonAgainstExport_8 (by decide) (fun c_3 => ?_) (fun c_3 => ?_)
  · have h := h.1 c_3
    refine q_aload_n (j := 1) X dX8_reasonAgainstExport_13 rfl rfl ?_
    refine q_aload_n (j := 2) X dX8_reasonAgainstExport_14 rfl rfl ?_
    refine q_calli (q_runV X hK hZ zo (gc (t := 1) (by decide) hi) rfl rfl [.ref (ad 3 p0)] [] rfl rfl (Nat.le_of_ble_eq_true rfl) dX8_reasonAgainstExport_15 ⟨Nat.le_of_ble_eq_true rfl, Nat.le_of_ble_eq_true rfl⟩ (c_X8_isLate ax i hi p0 hp0 mm _ h) rfl rfl (gV kw_3_161 kw_3_163 ks_30 kw_1_2 kw_3_164) hy_X8_isLate ⟨Nat.le_of_ble_eq_true rfl, Nat.le_of_ble_eq_true rfl⟩) (fun r_4 m_5 h => ?_)
    obtain ⟨h, hm⟩ := h
    subst hm
    refine q_if_eq (tgt := 25) X dX8_reasonAgainstExport_18 (by decide) (fun c_6 => ?_) (fun c_6 => ?_)
    · have h := h.1 c_6
      refine q_iconst (v := 0) X dX8_reasonAgainstExport_25 (by decide) ?_
      exact hE _ _ _ _ dX8_reasonAgainstExport_26 ⟨h, rfl⟩
    · have h := h.2 c_6
      refine q_iconst (v := 5) X dX8_reasonAgainstExport_21 (by decide) ?_
      refine q_goto (tgt := 26) X dX8_reasonAgainstExport_22 (by decide) ?_
      exact hE _ _ _ _ dX8_reasonAgainstExport_26 ⟨h, rfl⟩
  · have h := h.2 c_3
    refine q_iload_n (j := 0) X dX8_reasonAgainstExport_11 rfl rfl ?_
    exact hE _ _ _ _ dX8_reasonAgainstExport_12 ⟨h, rfl⟩
theorem dX1_takeAbroad_0 : decode cX1_takeAbroad 0 = .ok (.aload_n 0, 1) := by decide +kernel
theorem dX1_takeAbroad_1 : decode cX1_takeAbroad 1 = .ok (.getfield 9, 3) := by decide +kernel
theorem dX1_takeAbroad_4 : decode cX1_takeAbroad 4 = .ok (.iload_n 1, 1) := by decide +kernel
theorem dX1_takeAbroad_5 : decode cX1_takeAbroad 5 = .ok (.invokevirtual 79, 3) := by decide +kernel
theorem dX1_takeAbroad_8 : decode cX1_takeAbroad 8 = .ok (.astore_n 3, 1) := by decide +kernel
theorem dX1_takeAbroad_9 : decode cX1_takeAbroad 9 = .ok (.aload_n 3, 1) := by decide +kernel
theorem dX1_takeAbroad_10 : decode cX1_takeAbroad 10 = .ok (.ifnonnull 5, 3) := by decide +kernel
theorem dX1_takeAbroad_13 : decode cX1_takeAbroad 13 = .ok (.iconst (-1), 1) := by decide +kernel
theorem dX1_takeAbroad_14 : decode cX1_takeAbroad 14 = .ok (.ireturn, 1) := by decide +kernel
theorem dX1_takeAbroad_15 : decode cX1_takeAbroad 15 = .ok (.iload_n 2, 1) := by decide +kernel
theorem dX1_takeAbroad_16 : decode cX1_takeAbroad 16 = .ok (.iconst 1, 1) := by decide +kernel
theorem dX1_takeAbroad_17 : decode cX1_takeAbroad 17 = .ok (.sipush 999, 3) := by decide +kernel
theorem dX1_takeAbroad_20 : decode cX1_takeAbroad 20 = .ok (.invokestatic 83, 3) := by decide +kernel
theorem dX1_takeAbroad_23 : decode cX1_takeAbroad 23 = .ok (.ifCond .ne 6, 3) := by decide +kernel
theorem dX1_takeAbroad_26 : decode cX1_takeAbroad 26 = .ok (.bipush (-2), 2) := by decide +kernel
theorem dX1_takeAbroad_28 : decode cX1_takeAbroad 28 = .ok (.ireturn, 1) := by decide +kernel
theorem dX1_takeAbroad_29 : decode cX1_takeAbroad 29 = .ok (.aload_n 0, 1) := by decide +kernel
theorem dX1_takeAbroad_30 : decode cX1_takeAbroad 30 = .ok (.getfield 9, 3) := by decide +kernel
theorem dX1_takeAbroad_33 : decode cX1_takeAbroad 33 = .ok (.aload_n 3, 1) := by decide +kernel
theorem dX1_takeAbroad_34 : decode cX1_takeAbroad 34 = .ok (.iload_n 2, 1) := by decide +kernel
theorem dX1_takeAbroad_35 : decode cX1_takeAbroad 35 = .ok (.invokevirtual 128, 3) := by decide +kernel
theorem dX1_takeAbroad_38 : decode cX1_takeAbroad 38 = .ok (.ifCond .eq 6, 3) := by decide +kernel
theorem dX1_takeAbroad_41 : decode cX1_takeAbroad 41 = .ok (.bipush (-3), 2) := by decide +kernel
theorem dX1_takeAbroad_43 : decode cX1_takeAbroad 43 = .ok (.ireturn, 1) := by decide +kernel
theorem dX1_takeAbroad_44 : decode cX1_takeAbroad 44 = .ok (.aload_n 0, 1) := by decide +kernel
theorem dX1_takeAbroad_45 : decode cX1_takeAbroad 45 = .ok (.getfield 15, 3) := by decide +kernel
theorem dX1_takeAbroad_48 : decode cX1_takeAbroad 48 = .ok (.aload_n 0, 1) := by decide +kernel
theorem dX1_takeAbroad_49 : decode cX1_takeAbroad 49 = .ok (.getfield 9, 3) := by decide +kernel
theorem dX1_takeAbroad_52 : decode cX1_takeAbroad 52 = .ok (.invokevirtual 29, 3) := by decide +kernel
theorem dX1_takeAbroad_55 : decode cX1_takeAbroad 55 = .ok (.aload_n 0, 1) := by decide +kernel
theorem dX1_takeAbroad_56 : decode cX1_takeAbroad 56 = .ok (.getfield 9, 3) := by decide +kernel
theorem dX1_takeAbroad_59 : decode cX1_takeAbroad 59 = .ok (.getfield 67, 3) := by decide +kernel
theorem dX1_takeAbroad_62 : decode cX1_takeAbroad 62 = .ok (.aload_n 3, 1) := by decide +kernel
theorem dX1_takeAbroad_63 : decode cX1_takeAbroad 63 = .ok (.getfield 39, 3) := by decide +kernel
theorem dX1_takeAbroad_66 : decode cX1_takeAbroad 66 = .ok (.aaload, 1) := by decide +kernel
theorem dX1_takeAbroad_67 : decode cX1_takeAbroad 67 = .ok (.dup, 1) := by decide +kernel
theorem dX1_takeAbroad_68 : decode cX1_takeAbroad 68 = .ok (.getfield 131, 3) := by decide +kernel
theorem dX1_takeAbroad_71 : decode cX1_takeAbroad 71 = .ok (.iload_n 2, 1) := by decide +kernel
theorem dX1_takeAbroad_72 : decode cX1_takeAbroad 72 = .ok (.iadd, 1) := by decide +kernel
theorem dX1_takeAbroad_73 : decode cX1_takeAbroad 73 = .ok (.putfield 131, 3) := by decide +kernel
theorem dX1_takeAbroad_76 : decode cX1_takeAbroad 76 = .ok (.aload_n 3, 1) := by decide +kernel
theorem dX1_takeAbroad_77 : decode cX1_takeAbroad 77 = .ok (.iload_n 2, 1) := by decide +kernel
theorem dX1_takeAbroad_78 : decode cX1_takeAbroad 78 = .ok (.invokevirtual 121, 3) := by decide +kernel
theorem dX1_takeAbroad_81 : decode cX1_takeAbroad 81 = .ok (.aload_n 0, 1) := by decide +kernel
theorem dX1_takeAbroad_82 : decode cX1_takeAbroad 82 = .ok (.getfield 9, 3) := by decide +kernel
theorem dX1_takeAbroad_85 : decode cX1_takeAbroad 85 = .ok (.aload_n 3, 1) := by decide +kernel
theorem dX1_takeAbroad_86 : decode cX1_takeAbroad 86 = .ok (.invokevirtual 124, 3) := by decide +kernel
theorem dX1_takeAbroad_89 : decode cX1_takeAbroad 89 = .ok (.aload_n 3, 1) := by decide +kernel
theorem dX1_takeAbroad_90 : decode cX1_takeAbroad 90 = .ok (.getfield 45, 3) := by decide +kernel
theorem dX1_takeAbroad_93 : decode cX1_takeAbroad 93 = .ok (.ireturn, 1) := by decide +kernel
def w_X1_takeAbroad (p0 : Int32) (p1 : Int32) (mm : Mm) (Q9 : Int32 → Mm → Prop) : Prop :=
  w_X8_findEntry 1 p0 mm (fun (r_1 : Nat) => ((¬ r_1 = 0 → w_X9_isWithin p1 1 999 mm (fun (r_4 : Int32) => ((¬ r_4 = 0 → ok 3 r_1 ∧ w_X8_reasonAgainstExport 1 r_1 p1 mm (fun (r_8 : Int32) => ((r_8 = 0 → w_X3_save 1 mm (fun (m_12 : Mm) => vp_in (m_12.1 3 r_1 1) 6 ∧ (∀ m_14 : Mm, m_14 = sI m_12 6 (6 * (1 - 1) + (m_12.1 3 r_1 1).toNatClampNeg + 1) 4 ((m_12.1 6 (6 * (1 - 1) + (m_12.1 3 r_1 1).toNatClampNeg + 1) 4) + p1) → (w_X2_losePart r_1 p1 m_14 (fun (m_16 : Mm) => w_X8_closeIfEmpty 1 r_1 m_16 (fun (m_18 : Mm) => Q9 (m_18.1 3 r_1 2) m_18)))))) ∧
  (¬ r_8 = 0 → Q9 (-3) mm)))) ∧
  (r_4 = 0 → Q9 (-2) mm)))) ∧
  (r_1 = 0 → Q9 (-1) mm)))
def rm_X1_takeAbroad : Room := { frames := 3, cells := 0, slots := 0, locals := 65 }
theorem hy_X1_takeAbroad : yX1_takeAbroad.cls = RX1 ∧ yX1_takeAbroad.cls ≠ "java/lang/invoke/MethodHandle" ∧ yX1_takeAbroad.cls ≠ "java/lang/invoke/VarHandle" ∧ (parseMethodDescriptor yX1_takeAbroad.desc).map (fun d => d.parameters.length) = some 2 := by decide +kernel
set_option maxRecDepth 100000 in
set_option maxHeartbeats 4000000 in
theorem c_X1_takeAbroad {l : Launch} {D : va_G} {cA : Nat → ClassId} {ad : Nat → Nat → Nat} {A : Nat → Prop} (ax : Ax ad GC A) (p0 : Int32) (p1 : Int32) (mm : Mm) (Q9 : Int32 → Mm → Prop) (h : w_X1_takeAbroad p0 p1 mm Q9) : Met l yX1_takeAbroad (.code yX1_takeAbroad cX1_takeAbroad 4 (some .int) :: TG) rm_X1_takeAbroad (PcM TT D cA ad false GC (ZC ad A) [.ref (ad 16 1), .int p0, .int p1] mm) (AnsI TT D cA ad false GC A Q9) 0 0 A := by
  have zo := ZC_ok ad A
  unfold w_X1_takeAbroad at h
  refine enterI pl_X1 ⟨rfl, rfl⟩ rfl (Nat.le_of_ble_eq_true rfl) ?_
  intro p e s m args below meth c QQ X hK hZ hnm hE
  refine q_aload_n (j := 0) X dX1_takeAbroad_0 rfl rfl ?_
  refine q_get (k := 0) (v := .ref (ad 1 1)) X hK rfl rfl (Nat.le_of_ble_eq_true rfl) inTX1 (gc (t := 16) (by decide) (ok1 (t := 16) (Nat.le_of_ble_eq_true rfl))) kw_2_75 rfl (rv_nn (a := ad 1) (r := 1) (ok1 (t := 1) (Nat.le_of_ble_eq_true rfl)).1) dX1_takeAbroad_1 ?_
  refine q_iload_n (j := 1) X dX1_takeAbroad_4 rfl rfl ?_
  refine q_callr (q_runVN X hK hZ zo (gc (t := 1) (by decide) (ok1 (t := 1) (Nat.le_of_ble_eq_true rfl))) rfl rfl [.int p0] [] rfl rfl (Nat.le_of_ble_eq_true rfl) dX1_takeAbroad_5 ⟨Nat.le_of_ble_eq_true rfl, Nat.le_of_ble_eq_true rfl⟩ (c_X8_findEntry ax 1 (ok1 (t := 1) (Nat.le_of_ble_eq_true rfl)) p0 mm _ h) rfl rfl (List.mem_of_getElem? (i := 24) rfl) kw_1_2 kw_3_106 kw_3_105 ks_19 hy_X8_findEntry.2 ⟨Nat.le_of_ble_eq_true rfl, Nat.le_of_ble_eq_true rfl⟩) (fun r_1 m_2 h => ?_)
  obtain ⟨h, hm⟩ := h
  subst hm
  refine q_vstore_n (lv' := [(3, rv (ad 3) r_1), (0, .ref (ad 16 1)), (1, .int p0), (2, .int p1)]) X dX1_takeAbroad_8 rfl (by decide) rfl ?_
  refine q_vload_n (j := 0) X dX1_takeAbroad_9 rfl rfl ?_
  refine q_ifnonnull (tgt := 15) X dX1_takeAbroad_10 (by decide) (fun c_3 => ?_) (fun c_3 => ?_)
  · have h := h.1 c_3
    refine q_iload_n (j := 3) X dX1_takeAbroad_15 rfl rfl ?_
    refine q_iconst (v := 1) X dX1_takeAbroad_16 (by decide) ?_
    refine q_sipush (v := 999) X dX1_takeAbroad_17 (by decide) ?_
    refine q_calli (q_runSN X hK hZ zo [.int p1, .int 1, .int 999] [] rfl rfl (Nat.le_of_ble_eq_true rfl) dX1_takeAbroad_20 ⟨Nat.le_of_ble_eq_true rfl, Nat.le_of_ble_eq_true rfl⟩ (c_X9_isWithin ax p1 1 999 mm _ h) rfl rfl (List.mem_of_getElem? (i := 25) rfl) kw_1_1 kw_2_158 kw_2_157 hy_X9_isWithin.2 ⟨Nat.le_of_ble_eq_true rfl, Nat.le_of_ble_eq_true rfl⟩) (fun r_4 m_5 h => ?_)
    obtain ⟨h, hm⟩ := h
    subst hm
    refine q_if_ne (tgt := 29) X dX1_takeAbroad_23 (by decide) (fun c_6 => ?_) (fun c_6 => ?_)
    · have h := h.1 c_6
      refine q_aload_n (j := 1) X dX1_takeAbroad_29 rfl rfl ?_
      refine q_get (k := 0) (v := .ref (ad 1 1)) X hK rfl rfl (Nat.le_of_ble_eq_true rfl) inTX1 (gc (t := 16) (by decide) (ok1 (t := 16) (Nat.le_of_ble_eq_true rfl))) kw_2_75 rfl (rv_nn (a := ad 1) (r := 1) (ok1 (t := 1) (Nat.le_of_ble_eq_true rfl)).1) dX1_takeAbroad_30 ?_
      refine q_vload_n (j := 0) X dX1_takeAbroad_33 rfl rfl ?_
      refine q_iload_n (j := 3) X dX1_takeAbroad_34 rfl rfl ?_
      obtain ⟨k_7, h⟩ := h
      rw [rv_nn (a := ad 3) (r := r_1) k_7.1]
      refine q_calli (q_runVN X hK hZ zo (gc (t := 1) (by decide) (ok1 (t := 1) (Nat.le_of_ble_eq_true rfl))) rfl rfl [.ref (ad 3 r_1), .int p1] [] rfl rfl (Nat.le_of_ble_eq_true rfl) dX1_takeAbroad_35 ⟨Nat.le_of_ble_eq_true rfl, Nat.le_of_ble_eq_true rfl⟩ (c_X8_reasonAgainstExport ax 1 (ok1 (t := 1) (Nat.le_of_ble_eq_true rfl)) r_1 k_7 p1 mm _ h) rfl rfl (List.mem_of_getElem? (i := 34) rfl) kw_1_2 kw_3_160 kw_3_159 ks_29 hy_X8_reasonAgainstExport.2 ⟨Nat.le_of_ble_eq_true rfl, Nat.le_of_ble_eq_true rfl⟩) (fun r_8 m_9 h => ?_)
      obtain ⟨h, hm⟩ := h
      subst hm
      refine q_if_eq (tgt := 44) X dX1_takeAbroad_38 (by decide) (fun c_10 => ?_) (fun c_10 => ?_)
      · have h := h.1 c_10
        refine q_aload_n (j := 1) X dX1_takeAbroad_44 rfl rfl ?_
        refine q_get (k := 1) (v := .ref (ad 12 1)) X hK rfl rfl (Nat.le_of_ble_eq_true rfl) inTX1 (gc (t := 16) (by decide) (ok1 (t := 16) (Nat.le_of_ble_eq_true rfl))) kw_2_76 rfl (rv_nn (a := ad 12) (r := 1) (ok1 (t := 12) (Nat.le_of_ble_eq_true rfl)).1) dX1_takeAbroad_45 ?_
        refine q_aload_n (j := 1) X dX1_takeAbroad_48 rfl rfl ?_
        refine q_get (k := 0) (v := .ref (ad 1 1)) X hK rfl rfl (Nat.le_of_ble_eq_true rfl) inTX1 (gc (t := 16) (by decide) (ok1 (t := 16) (Nat.le_of_ble_eq_true rfl))) kw_2_75 rfl (rv_nn (a := ad 1) (r := 1) (ok1 (t := 1) (Nat.le_of_ble_eq_true rfl)).1) dX1_takeAbroad_49 ?_
        refine q_callv (q_runVN X hK hZ zo (gc (t := 12) (by decide) (ok1 (t := 12) (Nat.le_of_ble_eq_true rfl))) rfl rfl [.ref (ad 1 1)] [] rfl rfl (Nat.le_of_ble_eq_true rfl) dX1_takeAbroad_52 ⟨Nat.le_of_ble_eq_true rfl, Nat.le_of_ble_eq_true rfl⟩ (c_X3_save ax 1 (ok1 (t := 1) (Nat.le_of_ble_eq_true rfl)) mm _ h) rfl rfl (List.mem_of_getElem? (i := 15) rfl) kw_1_8 kw_2_194 kw_2_193 ks_9 hy_X3_save.2 ⟨Nat.le_of_ble_eq_true rfl, Nat.le_of_ble_eq_true rfl⟩) (fun m_12 h => ?_)
        refine q_aload_n (j := 1) X dX1_takeAbroad_55 rfl rfl ?_
        refine q_get (k := 0) (v := .ref (ad 1 1)) X hK rfl rfl (Nat.le_of_ble_eq_true rfl) inTX1 (gc (t := 16) (by decide) (ok1 (t := 16) (Nat.le_of_ble_eq_true rfl))) kw_2_75 rfl (rv_nn (a := ad 1) (r := 1) (ok1 (t := 1) (Nat.le_of_ble_eq_true rfl)).1) dX1_takeAbroad_56 ?_
        refine q_getN (k := 9) (v := .ref (ad 10 1)) X hK rfl rfl (Nat.le_of_ble_eq_true rfl) inTX8 (gc (t := 1) (by decide) (ok1 (t := 1) (Nat.le_of_ble_eq_true rfl))) (List.mem_of_getElem? (i := 79) rfl) rfl (rv_nn (a := ad 10) (r := 1) (ok1 (t := 10) (Nat.le_of_ble_eq_true rfl)).1) dX1_takeAbroad_59 ?_
        refine q_aload_n (j := 0) X dX1_takeAbroad_62 rfl rfl ?_
        refine q_getN (k := 1) (v := .int (m_12.1 3 r_1 1)) X hK rfl rfl (Nat.le_of_ble_eq_true rfl) inTX2 (gc (t := 3) (by decide) k_7) (List.mem_of_getElem? (i := 15) rfl) rfl rfl dX1_takeAbroad_63 ?_
        obtain ⟨b_13, h⟩ := h
        refine q_aald (t := 10) (i := 1) (jn := (m_12.1 3 r_1 1).toNatClampNeg) (v := .ref (ad 6 (6 * (1 - 1) + (m_12.1 3 r_1 1).toNatClampNeg + 1))) X hK rfl rfl (gc (t := 10) (by decide) (ok1 (t := 10) (Nat.le_of_ble_eq_true rfl))) rfl b_13 rfl (rv_nn (a := ad 6) (r := (6 * (1 - 1) + (m_12.1 3 r_1 1).toNatClampNeg + 1)) (ok_ki (ok1 (t := 10) (Nat.le_of_ble_eq_true rfl)) b_13).1) dX1_takeAbroad_66 ?_
        refine q_dup X dX1_takeAbroad_67 rfl ?_
        refine q_getN (k := 4) (v := .int (m_12.1 6 (6 * (1 - 1) + (m_12.1 3 r_1 1).toNatClampNeg + 1) 4)) X hK rfl rfl (Nat.le_of_ble_eq_true rfl) inTX5 (gc (t := 6) (by decide) (ok_ki (ok1 (t := 10) (Nat.le_of_ble_eq_true rfl)) b_13)) (List.mem_of_getElem? (i := 58) rfl) rfl rfl dX1_takeAbroad_68 ?_
        refine q_iload_n (j := 3) X dX1_takeAbroad_71 rfl rfl ?_
        refine q_iadd X dX1_takeAbroad_72 ?_
        refine q_putIN (k := 4) X ax hK rfl rfl (Nat.le_of_ble_eq_true rfl) inTX5 (gc (t := 6) (by decide) (ok_ki (ok1 (t := 10) (Nat.le_of_ble_eq_true rfl)) b_13)) tyX5 tyX5_ok nmX5 (List.mem_of_getElem? (i := 58) rfl) rfl rfl (tyX5_ok 4 (Nat.le_of_ble_eq_true rfl)) rfl dX1_takeAbroad_73 ?_
        refine q_nmP (fun m_14 em_14 => ?_)
        have h := h m_14 em_14
        refine q_aload_n (j := 0) X dX1_takeAbroad_76 rfl rfl ?_
        refine q_iload_n (j := 3) X dX1_takeAbroad_77 rfl rfl ?_
        refine q_callv (q_runVN X hK hZ zo (gc (t := 3) (by decide) k_7) rfl rfl [.int p1] [] rfl rfl (Nat.le_of_ble_eq_true rfl) dX1_takeAbroad_78 ⟨Nat.le_of_ble_eq_true rfl, Nat.le_of_ble_eq_true rfl⟩ (c_X2_losePart ax r_1 k_7 p1 m_14 _ h) rfl rfl (List.mem_of_getElem? (i := 31) rfl) kw_1_4 kw_3_139 kw_3_138 ks_26 hy_X2_losePart.2 ⟨Nat.le_of_ble_eq_true rfl, Nat.le_of_ble_eq_true rfl⟩) (fun m_16 h => ?_)
        refine q_aload_n (j := 1) X dX1_takeAbroad_81 rfl rfl ?_
        refine q_get (k := 0) (v := .ref (ad 1 1)) X hK rfl rfl (Nat.le_of_ble_eq_true rfl) inTX1 (gc (t := 16) (by decide) (ok1 (t := 16) (Nat.le_of_ble_eq_true rfl))) kw_2_75 rfl (rv_nn (a := ad 1) (r := 1) (ok1 (t := 1) (Nat.le_of_ble_eq_true rfl)).1) dX1_takeAbroad_82 ?_
        refine q_aload_n (j := 0) X dX1_takeAbroad_85 rfl rfl ?_
        refine q_callv (q_runVN X hK hZ zo (gc (t := 1) (by decide) (ok1 (t := 1) (Nat.le_of_ble_eq_true rfl))) rfl rfl [.ref (ad 3 r_1)] [] rfl rfl (Nat.le_of_ble_eq_true rfl) dX1_takeAbroad_86 ⟨Nat.le_of_ble_eq_true rfl, Nat.le_of_ble_eq_true rfl⟩ (c_X8_closeIfEmpty ax 1 (ok1 (t := 1) (Nat.le_of_ble_eq_true rfl)) r_1 k_7 m_16 _ h) rfl rfl (List.mem_of_getElem? (i := 32) rfl) kw_1_2 kw_3_144 kw_3_143 ks_27 hy_X8_closeIfEmpty.2 ⟨Nat.le_of_ble_eq_true rfl, Nat.le_of_ble_eq_true rfl⟩) (fun m_18 h => ?_)
        refine q_aload_n (j := 0) X dX1_takeAbroad_89 rfl rfl ?_
        refine q_getN (k := 2) (v := .int (m_18.1 3 r_1 2)) X hK rfl rfl (Nat.le_of_ble_eq_true rfl) inTX2 (gc (t := 3) (by decide) k_7) (List.mem_of_getElem? (i := 18) rfl) rfl rfl dX1_takeAbroad_90 ?_
        exact hE _ _ _ _ dX1_takeAbroad_93 h
      · have h := h.2 c_10
        refine q_bipush (v := (-3)) X dX1_takeAbroad_41 (by decide) ?_
        exact hE _ _ _ _ dX1_takeAbroad_43 h
    · have h := h.2 c_6
      refine q_bipush (v := (-2)) X dX1_takeAbroad_26 (by decide) ?_
      exact hE _ _ _ _ dX1_takeAbroad_28 h
  · have h := h.2 c_3
    refine q_iconst (v := (-1)) X dX1_takeAbroad_13 (by decide) ?_
    exact hE _ _ _ _ dX1_takeAbroad_14 h
theorem dX8_findReceipt_0 : decode cX8_findReceipt 0 = .ok (.iload_n 1, 1) := by decide +kernel
theorem dX8_findReceipt_1 : decode cX8_findReceipt 1 = .ok (.iconst 0, 1) := by decide +kernel
theorem dX8_findReceipt_2 : decode cX8_findReceipt 2 = .ok (.aload_n 0, 1) := by decide +kernel
theorem dX8_findReceipt_3 : decode cX8_findReceipt 3 = .ok (.getfield 71, 3) := by decide +kernel
theorem dX8_findReceipt_6 : decode cX8_findReceipt 6 = .ok (.iconst 1, 1) := by decide +kernel
theorem dX8_findReceipt_7 : decode cX8_findReceipt 7 = .ok (.isub, 1) := by decide +kernel
theorem dX8_findReceipt_8 : decode cX8_findReceipt 8 = .ok (.invokestatic 93, 3) := by decide +kernel
theorem dX8_findReceipt_11 : decode cX8_findReceipt 11 = .ok (.ifCond .eq 12, 3) := by decide +kernel
theorem dX8_findReceipt_14 : decode cX8_findReceipt 14 = .ok (.aload_n 0, 1) := by decide +kernel
theorem dX8_findReceipt_15 : decode cX8_findReceipt 15 = .ok (.getfield 26, 3) := by decide +kernel
theorem dX8_findReceipt_18 : decode cX8_findReceipt 18 = .ok (.iload_n 1, 1) := by decide +kernel
theorem dX8_findReceipt_19 : decode cX8_findReceipt 19 = .ok (.aaload, 1) := by decide +kernel
theorem dX8_findReceipt_20 : decode cX8_findReceipt 20 = .ok (.goto 4, 3) := by decide +kernel
theorem dX8_findReceipt_23 : decode cX8_findReceipt 23 = .ok (.aconst_null, 1) := by decide +kernel
theorem dX8_findReceipt_24 : decode cX8_findReceipt 24 = .ok (.areturn, 1) := by decide +kernel
def w_X8_findReceipt (i : Nat) (p0 : Int32) (mm : Mm) (Q9 : Nat → Prop) : Prop :=
  w_X9_isWithin p0 0 ((mm.1 1 i 4) - 1) mm (fun (r_1 : Int32) => ((r_1 = 0 → Q9 0) ∧
  (¬ r_1 = 0 → vp_in p0 12 ∧ (Q9 (mm.2 8 i p0.toNatClampNeg)))))
def rm_X8_findReceipt : Room := { frames := 1, cells := 0, slots := 0, locals := 22 }
theorem hy_X8_findReceipt : yX8_findReceipt.cls = RX8 ∧ yX8_findReceipt.cls ≠ "java/lang/invoke/MethodHandle" ∧ yX8_findReceipt.cls ≠ "java/lang/invoke/VarHandle" ∧ (parseMethodDescriptor yX8_findReceipt.desc).map (fun d => d.parameters.length) = some 1 := by decide +kernel
set_option maxRecDepth 100000 in
set_option maxHeartbeats 4000000 in
theorem c_X8_findReceipt {l : Launch} {D : va_G} {cA : Nat → ClassId} {ad : Nat → Nat → Nat} {A : Nat → Prop} (ax : Ax ad GC A) (i : Nat) (hi : ok 1 i) (p0 : Int32) (mm : Mm) (Q9 : Nat → Prop) (h : w_X8_findReceipt i p0 mm Q9) : Met l yX8_findReceipt (.code yX8_findReceipt cX8_findReceipt 2 (some (.object "BondWarehouse$Receipt")) :: TG) rm_X8_findReceipt (PcM TT D cA ad false GC (ZC ad A) [.ref (ad 1 i), .int p0] mm) (AnsQ TT D cA ad false GC 4 A (fun r mm' => Q9 r ∧ mm = mm')) 0 0 A := by
  have zo := ZC_ok ad A
  unfold w_X8_findReceipt at h
  refine enterR (Or.inl ⟨_, rfl⟩) pl_X8 ⟨rfl, rfl⟩ rfl (Nat.le_of_ble_eq_true rfl) ?_
  intro p e s m args below meth c QQ X hK hZ hnm hE
  refine q_iload_n (j := 1) X dX8_findReceipt_0 rfl rfl ?_
  refine q_iconst (v := 0) X dX8_findReceipt_1 (by decide) ?_
  refine q_aload_n (j := 0) X dX8_findReceipt_2 rfl rfl ?_
  refine q_get (k := 4) (v := .int (mm.1 1 i 4)) X hK rfl rfl (Nat.le_of_ble_eq_true rfl) inTX8 (gc (t := 1) (by decide) hi) kw_1_237 rfl rfl dX8_findReceipt_3 ?_
  refine q_iconst (v := 1) X dX8_findReceipt_6 (by decide) ?_
  refine q_isub X dX8_findReceipt_7 ?_
  refine q_calli (q_runSN X hK hZ zo [.int p0, .int 0, .int ((mm.1 1 i 4) - 1)] [] rfl rfl (Nat.le_of_ble_eq_true rfl) dX8_findReceipt_8 ⟨Nat.le_of_ble_eq_true rfl, Nat.le_of_ble_eq_true rfl⟩ (c_X9_isWithin ax p0 0 ((mm.1 1 i 4) - 1) mm _ h) rfl rfl (List.mem_of_getElem? (i := 37) rfl) kw_1_1 kw_2_158 kw_2_157 hy_X9_isWithin.2 ⟨Nat.le_of_ble_eq_true rfl, Nat.le_of_ble_eq_true rfl⟩) (fun r_1 m_2 h => ?_)
  obtain ⟨h, hm⟩ := h
  subst hm
  refine q_if_eq (tgt := 23) X dX8_findReceipt_11 (by decide) (fun c_3 => ?_) (fun c_3 => ?_)
  · have h := h.1 c_3
    refine q_null X dX8_findReceipt_23 ?_
    exact hE _ _ 0 _ dX8_findReceipt_24 ⟨h, rfl⟩
  · have h := h.2 c_3
    refine q_aload_n (j := 0) X dX8_findReceipt_14 rfl rfl ?_
    refine q_get (k := 7) (v := .ref (ad 8 i)) X hK rfl rfl (Nat.le_of_ble_eq_true rfl) inTX8 (gc (t := 1) (by decide) hi) kw_2_5 rfl (rv_nn (a := ad 8) (r := i) hi.1) dX8_findReceipt_15 ?_
    refine q_iload_n (j := 1) X dX8_findReceipt_18 rfl rfl ?_
    obtain ⟨b_4, h⟩ := h
    refine q_aald (t := 8) (i := i) (jn := p0.toNatClampNeg) (v := rv (ad 4) (mm.2 8 i p0.toNatClampNeg)) X hK rfl rfl (gc (t := 8) (by decide) hi) rfl b_4 rfl rfl dX8_findReceipt_19 ?_
    refine q_goto (tgt := 24) X dX8_findReceipt_20 (by decide) ?_
    exact hE _ _ (mm.2 8 i p0.toNatClampNeg) _ dX8_findReceipt_24 ⟨h, rfl⟩
theorem dX8_reasonAgainstDrawback_0 : decode cX8_reasonAgainstDrawback 0 = .ok (.aload_n 0, 1) := by decide +kernel
theorem dX8_reasonAgainstDrawback_1 : decode cX8_reasonAgainstDrawback 1 = .ok (.getfield 12, 3) := by decide +kernel
theorem dX8_reasonAgainstDrawback_4 : decode cX8_reasonAgainstDrawback 4 = .ok (.getfield 153, 3) := by decide +kernel
theorem dX8_reasonAgainstDrawback_7 : decode cX8_reasonAgainstDrawback 7 = .ok (.ifCond .le 5, 3) := by decide +kernel
theorem dX8_reasonAgainstDrawback_10 : decode cX8_reasonAgainstDrawback 10 = .ok (.iconst 1, 1) := by decide +kernel
theorem dX8_reasonAgainstDrawback_11 : decode cX8_reasonAgainstDrawback 11 = .ok (.ireturn, 1) := by decide +kernel
theorem dX8_reasonAgainstDrawback_12 : decode cX8_reasonAgainstDrawback 12 = .ok (.aload_n 0, 1) := by decide +kernel
theorem dX8_reasonAgainstDrawback_13 : decode cX8_reasonAgainstDrawback 13 = .ok (.getfield 58, 3) := by decide +kernel
theorem dX8_reasonAgainstDrawback_16 : decode cX8_reasonAgainstDrawback 16 = .ok (.aload_n 1, 1) := by decide +kernel
theorem dX8_reasonAgainstDrawback_17 : decode cX8_reasonAgainstDrawback 17 = .ok (.getfield 183, 3) := by decide +kernel
theorem dX8_reasonAgainstDrawback_20 : decode cX8_reasonAgainstDrawback 20 = .ok (.isub, 1) := by decide +kernel
theorem dX8_reasonAgainstDrawback_21 : decode cX8_reasonAgainstDrawback 21 = .ok (.bipush 60, 2) := by decide +kernel
theorem dX8_reasonAgainstDrawback_23 : decode cX8_reasonAgainstDrawback 23 = .ok (.if_icmp .le 5, 3) := by decide +kernel
theorem dX8_reasonAgainstDrawback_26 : decode cX8_reasonAgainstDrawback 26 = .ok (.iconst 2, 1) := by decide +kernel
theorem dX8_reasonAgainstDrawback_27 : decode cX8_reasonAgainstDrawback 27 = .ok (.ireturn, 1) := by decide +kernel
theorem dX8_reasonAgainstDrawback_28 : decode cX8_reasonAgainstDrawback 28 = .ok (.aload_n 1, 1) := by decide +kernel
theorem dX8_reasonAgainstDrawback_29 : decode cX8_reasonAgainstDrawback 29 = .ok (.getfield 186, 3) := by decide +kernel
theorem dX8_reasonAgainstDrawback_32 : decode cX8_reasonAgainstDrawback 32 = .ok (.iload_n 2, 1) := by decide +kernel
theorem dX8_reasonAgainstDrawback_33 : decode cX8_reasonAgainstDrawback 33 = .ok (.if_icmp .ge 7, 3) := by decide +kernel
theorem dX8_reasonAgainstDrawback_36 : decode cX8_reasonAgainstDrawback 36 = .ok (.iconst 3, 1) := by decide +kernel
theorem dX8_reasonAgainstDrawback_37 : decode cX8_reasonAgainstDrawback 37 = .ok (.goto 4, 3) := by decide +kernel
theorem dX8_reasonAgainstDrawback_40 : decode cX8_reasonAgainstDrawback 40 = .ok (.iconst 0, 1) := by decide +kernel
theorem dX8_reasonAgainstDrawback_41 : decode cX8_reasonAgainstDrawback 41 = .ok (.ireturn, 1) := by decide +kernel
def w_X8_reasonAgainstDrawback (i : Nat) (p0 : Nat) (p1 : Int32) (mm : Mm) (Q9 : Int32 → Prop) : Prop :=
  (((mm.1 2 i 2) ≤ 0 → ((((mm.1 1 i 0) - (mm.1 4 p0 3)) ≤ 60 → ((p1 ≤ (mm.1 4 p0 1) → Q9 0) ∧
  (¬ p1 ≤ (mm.1 4 p0 1) → Q9 3))) ∧
  (¬ ((mm.1 1 i 0) - (mm.1 4 p0 3)) ≤ 60 → Q9 2))) ∧
  (¬ (mm.1 2 i 2) ≤ 0 → Q9 1))
def rm_X8_reasonAgainstDrawback : Room := { frames := 0, cells := 0, slots := 0, locals := 0 }
theorem hy_X8_reasonAgainstDrawback : yX8_reasonAgainstDrawback.cls = RX8 ∧ yX8_reasonAgainstDrawback.cls ≠ "java/lang/invoke/MethodHandle" ∧ yX8_reasonAgainstDrawback.cls ≠ "java/lang/invoke/VarHandle" ∧ (parseMethodDescriptor yX8_reasonAgainstDrawback.desc).map (fun d => d.parameters.length) = some 2 := by decide +kernel
set_option maxRecDepth 100000 in
set_option maxHeartbeats 4000000 in
theorem c_X8_reasonAgainstDrawback {l : Launch} {D : va_G} {cA : Nat → ClassId} {ad : Nat → Nat → Nat} {A : Nat → Prop} (ax : Ax ad GC A) (i : Nat) (hi : ok 1 i) (p0 : Nat) (hp0 : ok 4 p0) (p1 : Int32) (mm : Mm) (Q9 : Int32 → Prop) (h : w_X8_reasonAgainstDrawback i p0 p1 mm Q9) : Met l yX8_reasonAgainstDrawback (.code yX8_reasonAgainstDrawback cX8_reasonAgainstDrawback 3 (some .int) :: TG) rm_X8_reasonAgainstDrawback (PcM TT D cA ad false GC (ZC ad A) [.ref (ad 1 i), .ref (ad 4 p0), .int p1] mm) (AnsI TT D cA ad false GC A (fun r mm' => Q9 r ∧ mm = mm')) 0 0 A := by
  have zo := ZC_ok ad A
  unfold w_X8_reasonAgainstDrawback at h
  refine enterI pl_X8 ⟨rfl, rfl⟩ rfl (Nat.le_of_ble_eq_true rfl) ?_
  intro p e s m args below meth c QQ X hK hZ hnm hE
  refine q_aload_n (j := 0) X dX8_reasonAgainstDrawback_0 rfl rfl ?_
  refine q_get (k := 5) (v := .ref (ad 2 i)) X hK rfl rfl (Nat.le_of_ble_eq_true rfl) inTX8 (gc (t := 1) (by decide) hi) kw_1_239 rfl (rv_nn (a := ad 2) (r := i) hi.1) dX8_reasonAgainstDrawback_1 ?_
  refine q_getN (k := 2) (v := .int (mm.1 2 i 2)) X hK rfl rfl (Nat.le_of_ble_eq_true rfl) inTX6 (gc (t := 2) (by decide) hi) (List.mem_of_getElem? (i := 6) rfl) rfl rfl dX8_reasonAgainstDrawback_4 ?_
  refine q_if_le (tgt := 12) X dX8_reasonAgainstDrawback_7 (by decide) (fun c_1 => ?_) (fun c_1 => ?_)
  · have h := h.1 c_1
    refine q_aload_n (j := 0) X dX8_reasonAgainstDrawback_12 rfl rfl ?_
    refine q_get (k := 0) (v := .int (mm.1 1 i 0)) X hK rfl rfl (Nat.le_of_ble_eq_true rfl) inTX8 (gc (t := 1) (by decide) hi) kw_1_227 rfl rfl dX8_reasonAgainstDrawback_13 ?_
    refine q_aload_n (j := 1) X dX8_reasonAgainstDrawback_16 rfl rfl ?_
    refine q_getN (k := 3) (v := .int (mm.1 4 p0 3)) X hK rfl rfl (Nat.le_of_ble_eq_true rfl) inTX7 (gc (t := 4) (by decide) hp0) (List.mem_of_getElem? (i := 42) rfl) rfl rfl dX8_reasonAgainstDrawback_17 ?_
    refine q_isub X dX8_reasonAgainstDrawback_20 ?_
    refine q_bipush (v := 60) X dX8_reasonAgainstDrawback_21 (by decide) ?_
    refine q_icmp_le (tgt := 28) X dX8_reasonAgainstDrawback_23 (by decide) (fun c_2 => ?_) (fun c_2 => ?_)
    · have h := h.1 c_2
      refine q_aload_n (j := 1) X dX8_reasonAgainstDrawback_28 rfl rfl ?_
      refine q_getN (k := 1) (v := .int (mm.1 4 p0 1)) X hK rfl rfl (Nat.le_of_ble_eq_true rfl) inTX7 (gc (t := 4) (by decide) hp0) (List.mem_of_getElem? (i := 37) rfl) rfl rfl dX8_reasonAgainstDrawback_29 ?_
      refine q_iload_n (j := 2) X dX8_reasonAgainstDrawback_32 rfl rfl ?_
      refine q_icmp_ge (tgt := 40) X dX8_reasonAgainstDrawback_33 (by decide) (fun c_3 => ?_) (fun c_3 => ?_)
      · have h := h.1 c_3
        refine q_iconst (v := 0) X dX8_reasonAgainstDrawback_40 (by decide) ?_
        exact hE _ _ _ _ dX8_reasonAgainstDrawback_41 ⟨h, rfl⟩
      · have h := h.2 c_3
        refine q_iconst (v := 3) X dX8_reasonAgainstDrawback_36 (by decide) ?_
        refine q_goto (tgt := 41) X dX8_reasonAgainstDrawback_37 (by decide) ?_
        exact hE _ _ _ _ dX8_reasonAgainstDrawback_41 ⟨h, rfl⟩
    · have h := h.2 c_2
      refine q_iconst (v := 2) X dX8_reasonAgainstDrawback_26 (by decide) ?_
      exact hE _ _ _ _ dX8_reasonAgainstDrawback_27 ⟨h, rfl⟩
  · have h := h.2 c_1
    refine q_iconst (v := 1) X dX8_reasonAgainstDrawback_10 (by decide) ?_
    exact hE _ _ _ _ dX8_reasonAgainstDrawback_11 ⟨h, rfl⟩
theorem dX7_dutyPart_0 : decode cX7_dutyPart 0 = .ok (.aload_n 0, 1) := by decide +kernel
theorem dX7_dutyPart_1 : decode cX7_dutyPart 1 = .ok (.getfield 13, 3) := by decide +kernel
theorem dX7_dutyPart_4 : decode cX7_dutyPart 4 = .ok (.ifCond .gt 5, 3) := by decide +kernel
theorem dX7_dutyPart_7 : decode cX7_dutyPart 7 = .ok (.iconst 0, 1) := by decide +kernel
theorem dX7_dutyPart_8 : decode cX7_dutyPart 8 = .ok (.ireturn, 1) := by decide +kernel
theorem dX7_dutyPart_9 : decode cX7_dutyPart 9 = .ok (.aload_n 0, 1) := by decide +kernel
theorem dX7_dutyPart_10 : decode cX7_dutyPart 10 = .ok (.getfield 16, 3) := by decide +kernel
theorem dX7_dutyPart_13 : decode cX7_dutyPart 13 = .ok (.iload_n 1, 1) := by decide +kernel
theorem dX7_dutyPart_14 : decode cX7_dutyPart 14 = .ok (.imul, 1) := by decide +kernel
theorem dX7_dutyPart_15 : decode cX7_dutyPart 15 = .ok (.aload_n 0, 1) := by decide +kernel
theorem dX7_dutyPart_16 : decode cX7_dutyPart 16 = .ok (.getfield 13, 3) := by decide +kernel
theorem dX7_dutyPart_19 : decode cX7_dutyPart 19 = .ok (.idiv, 1) := by decide +kernel
theorem dX7_dutyPart_20 : decode cX7_dutyPart 20 = .ok (.ireturn, 1) := by decide +kernel
def w_X7_dutyPart (i : Nat) (p0 : Int32) (mm : Mm) (Q9 : Int32 → Prop) : Prop :=
  ((0 < (mm.1 4 i 1) → ¬ (mm.1 4 i 1) = 0 ∧ (Q9 (((mm.1 4 i 2) * p0) / (mm.1 4 i 1)))) ∧
  (¬ 0 < (mm.1 4 i 1) → Q9 0))
def rm_X7_dutyPart : Room := { frames := 0, cells := 0, slots := 0, locals := 0 }
theorem hy_X7_dutyPart : yX7_dutyPart.cls = RX7 ∧ yX7_dutyPart.cls ≠ "java/lang/invoke/MethodHandle" ∧ yX7_dutyPart.cls ≠ "java/lang/invoke/VarHandle" ∧ (parseMethodDescriptor yX7_dutyPart.desc).map (fun d => d.parameters.length) = some 1 := by decide +kernel
set_option maxRecDepth 100000 in
set_option maxHeartbeats 4000000 in
theorem c_X7_dutyPart {l : Launch} {D : va_G} {cA : Nat → ClassId} {ad : Nat → Nat → Nat} {A : Nat → Prop} (ax : Ax ad GC A) (i : Nat) (hi : ok 4 i) (p0 : Int32) (mm : Mm) (Q9 : Int32 → Prop) (h : w_X7_dutyPart i p0 mm Q9) : Met l yX7_dutyPart (.code yX7_dutyPart cX7_dutyPart 2 (some .int) :: TG) rm_X7_dutyPart (PcM TT D cA ad false GC (ZC ad A) [.ref (ad 4 i), .int p0] mm) (AnsI TT D cA ad false GC A (fun r mm' => Q9 r ∧ mm = mm')) 0 0 A := by
  have zo := ZC_ok ad A
  unfold w_X7_dutyPart at h
  refine enterI pl_X7 ⟨rfl, rfl⟩ rfl (Nat.le_of_ble_eq_true rfl) ?_
  intro p e s m args below meth c QQ X hK hZ hnm hE
  refine q_aload_n (j := 0) X dX7_dutyPart_0 rfl rfl ?_
  refine q_get (k := 1) (v := .int (mm.1 4 i 1)) X hK rfl rfl (Nat.le_of_ble_eq_true rfl) inTX7 (gc (t := 4) (by decide) hi) kw_1_141 rfl rfl dX7_dutyPart_1 ?_
  refine q_if_gt (tgt := 9) X dX7_dutyPart_4 (by decide) (fun c_1 => ?_) (fun c_1 => ?_)
  · have h := h.1 c_1
    refine q_aload_n (j := 0) X dX7_dutyPart_9 rfl rfl ?_
    refine q_get (k := 2) (v := .int (mm.1 4 i 2)) X hK rfl rfl (Nat.le_of_ble_eq_true rfl) inTX7 (gc (t := 4) (by decide) hi) kw_1_145 rfl rfl dX7_dutyPart_10 ?_
    refine q_iload_n (j := 1) X dX7_dutyPart_13 rfl rfl ?_
    refine q_imul X dX7_dutyPart_14 ?_
    refine q_aload_n (j := 0) X dX7_dutyPart_15 rfl rfl ?_
    refine q_get (k := 1) (v := .int (mm.1 4 i 1)) X hK rfl rfl (Nat.le_of_ble_eq_true rfl) inTX7 (gc (t := 4) (by decide) hi) kw_1_141 rfl rfl dX7_dutyPart_16 ?_
    obtain ⟨c_2, h⟩ := h
    refine q_idiv X dX7_dutyPart_19 c_2 ?_
    exact hE _ _ _ _ dX7_dutyPart_20 ⟨h, rfl⟩
  · have h := h.2 c_1
    refine q_iconst (v := 0) X dX7_dutyPart_7 (by decide) ?_
    exact hE _ _ _ _ dX7_dutyPart_8 ⟨h, rfl⟩
theorem dX9_paidBackOf_0 : decode cX9_paidBackOf 0 = .ok (.iload_n 0, 1) := by decide +kernel
theorem dX9_paidBackOf_1 : decode cX9_paidBackOf 1 = .ok (.bipush 9, 2) := by decide +kernel
theorem dX9_paidBackOf_3 : decode cX9_paidBackOf 3 = .ok (.imul, 1) := by decide +kernel
theorem dX9_paidBackOf_4 : decode cX9_paidBackOf 4 = .ok (.bipush 10, 2) := by decide +kernel
theorem dX9_paidBackOf_6 : decode cX9_paidBackOf 6 = .ok (.idiv, 1) := by decide +kernel
theorem dX9_paidBackOf_7 : decode cX9_paidBackOf 7 = .ok (.ireturn, 1) := by decide +kernel
def w_X9_paidBackOf (p0 : Int32) (mm : Mm) (Q9 : Int32 → Prop) : Prop :=
  Q9 ((p0 * 9) / 10)
def rm_X9_paidBackOf : Room := { frames := 0, cells := 0, slots := 0, locals := 0 }
theorem hy_X9_paidBackOf : yX9_paidBackOf.cls = RX9 ∧ yX9_paidBackOf.cls ≠ "java/lang/invoke/MethodHandle" ∧ yX9_paidBackOf.cls ≠ "java/lang/invoke/VarHandle" ∧ (parseMethodDescriptor yX9_paidBackOf.desc).map (fun d => d.parameters.length) = some 1 := by decide +kernel
set_option maxRecDepth 100000 in
set_option maxHeartbeats 4000000 in
theorem c_X9_paidBackOf {l : Launch} {D : va_G} {cA : Nat → ClassId} {ad : Nat → Nat → Nat} {A : Nat → Prop} (ax : Ax ad GC A) (p0 : Int32) (mm : Mm) (Q9 : Int32 → Prop) (h : w_X9_paidBackOf p0 mm Q9) : Met l yX9_paidBackOf (.code yX9_paidBackOf cX9_paidBackOf 1 (some .int) :: TG) rm_X9_paidBackOf (PcM TT D cA ad false GC (ZC ad A) [.int p0] mm) (AnsI TT D cA ad false GC A (fun r mm' => Q9 r ∧ mm = mm')) 0 0 A := by
  have zo := ZC_ok ad A
  unfold w_X9_paidBackOf at h
  refine enterI pl_X9 ⟨rfl, rfl⟩ rfl (Nat.le_of_ble_eq_true rfl) ?_
  intro p e s m args below meth c QQ X hK hZ hnm hE
  refine q_iload_n (j := 0) X dX9_paidBackOf_0 rfl rfl ?_
  refine q_bipush (v := 9) X dX9_paidBackOf_1 (by decide) ?_
  refine q_imul X dX9_paidBackOf_3 ?_
  refine q_bipush (v := 10) X dX9_paidBackOf_4 (by decide) ?_
  refine q_idiv X dX9_paidBackOf_6 (by decide) ?_
  exact hE _ _ _ _ dX9_paidBackOf_7 ⟨h, rfl⟩
theorem dX6_giveDrawback_0 : decode cX6_giveDrawback 0 = .ok (.aload_n 0, 1) := by decide +kernel
theorem dX6_giveDrawback_1 : decode cX6_giveDrawback 1 = .ok (.aload_n 0, 1) := by decide +kernel
theorem dX6_giveDrawback_2 : decode cX6_giveDrawback 2 = .ok (.getfield 13, 3) := by decide +kernel
theorem dX6_giveDrawback_5 : decode cX6_giveDrawback 5 = .ok (.iload_n 1, 1) := by decide +kernel
theorem dX6_giveDrawback_6 : decode cX6_giveDrawback 6 = .ok (.iadd, 1) := by decide +kernel
theorem dX6_giveDrawback_7 : decode cX6_giveDrawback 7 = .ok (.putfield 13, 3) := by decide +kernel
theorem dX6_giveDrawback_10 : decode cX6_giveDrawback 10 = .ok (.aload_n 0, 1) := by decide +kernel
theorem dX6_giveDrawback_11 : decode cX6_giveDrawback 11 = .ok (.aload_n 0, 1) := by decide +kernel
theorem dX6_giveDrawback_12 : decode cX6_giveDrawback 12 = .ok (.getfield 28, 3) := by decide +kernel
theorem dX6_giveDrawback_15 : decode cX6_giveDrawback 15 = .ok (.iload_n 1, 1) := by decide +kernel
theorem dX6_giveDrawback_16 : decode cX6_giveDrawback 16 = .ok (.iadd, 1) := by decide +kernel
theorem dX6_giveDrawback_17 : decode cX6_giveDrawback 17 = .ok (.putfield 28, 3) := by decide +kernel
theorem dX6_giveDrawback_20 : decode cX6_giveDrawback 20 = .ok (.return_, 1) := by decide +kernel
def w_X6_giveDrawback (i : Nat) (p0 : Int32) (mm : Mm) (Q9 : Mm → Prop) : Prop :=
  ∀ m_1 : Mm, m_1 = sI mm 2 i 1 ((mm.1 2 i 1) + p0) → (∀ m_2 : Mm, m_2 = sI m_1 2 i 6 ((m_1.1 2 i 6) + p0) → (Q9 m_2))
def rm_X6_giveDrawback : Room := { frames := 0, cells := 0, slots := 0, locals := 0 }
theorem hy_X6_giveDrawback : yX6_giveDrawback.cls = RX6 ∧ yX6_giveDrawback.cls ≠ "java/lang/invoke/MethodHandle" ∧ yX6_giveDrawback.cls ≠ "java/lang/invoke/VarHandle" ∧ (parseMethodDescriptor yX6_giveDrawback.desc).map (fun d => d.parameters.length) = some 1 := by decide +kernel
set_option maxRecDepth 100000 in
set_option maxHeartbeats 4000000 in
theorem c_X6_giveDrawback {l : Launch} {D : va_G} {cA : Nat → ClassId} {ad : Nat → Nat → Nat} {A : Nat → Prop} (ax : Ax ad GC A) (i : Nat) (hi : ok 2 i) (p0 : Int32) (mm : Mm) (Q9 : Mm → Prop) (h : w_X6_giveDrawback i p0 mm Q9) : Met l yX6_giveDrawback (.code yX6_giveDrawback cX6_giveDrawback 2 none :: TG) rm_X6_giveDrawback (PcM TT D cA ad false GC (ZC ad A) [.ref (ad 2 i), .int p0] mm) (AnsV TT D cA ad false GC A Q9) 0 0 A := by
  have zo := ZC_ok ad A
  unfold w_X6_giveDrawback at h
  refine enterV pl_X6 ⟨rfl, rfl⟩ rfl (Nat.le_of_ble_eq_true rfl) ?_
  intro p e s m args below meth c QQ X hK hZ hnm hE
  refine q_aload_n (j := 0) X dX6_giveDrawback_0 rfl rfl ?_
  refine q_aload_n (j := 0) X dX6_giveDrawback_1 rfl rfl ?_
  refine q_get (k := 1) (v := .int (mm.1 2 i 1)) X hK rfl rfl (Nat.le_of_ble_eq_true rfl) inTX6 (gc (t := 2) (by decide) hi) kw_1_42 rfl rfl dX6_giveDrawback_2 ?_
  refine q_iload_n (j := 1) X dX6_giveDrawback_5 rfl rfl ?_
  refine q_iadd X dX6_giveDrawback_6 ?_
  refine q_putI (k := 1) X ax hK rfl rfl (Nat.le_of_ble_eq_true rfl) inTX6 (gc (t := 2) (by decide) hi) tyX6 tyX6_ok nmX6 kw_1_42 rfl rfl (tyX6_ok 1 (Nat.le_of_ble_eq_true rfl)) rfl dX6_giveDrawback_7 ?_
  refine q_nmP (fun m_1 em_1 => ?_)
  have h := h m_1 em_1
  refine q_aload_n (j := 0) X dX6_giveDrawback_10 rfl rfl ?_
  refine q_aload_n (j := 0) X dX6_giveDrawback_11 rfl rfl ?_
  refine q_get (k := 6) (v := .int (m_1.1 2 i 6)) X hK rfl rfl (Nat.le_of_ble_eq_true rfl) inTX6 (gc (t := 2) (by decide) hi) kw_1_55 rfl rfl dX6_giveDrawback_12 ?_
  refine q_iload_n (j := 1) X dX6_giveDrawback_15 rfl rfl ?_
  refine q_iadd X dX6_giveDrawback_16 ?_
  refine q_putI (k := 6) X ax hK rfl rfl (Nat.le_of_ble_eq_true rfl) inTX6 (gc (t := 2) (by decide) hi) tyX6 tyX6_ok nmX6 kw_1_55 rfl rfl (tyX6_ok 6 (Nat.le_of_ble_eq_true rfl)) rfl dX6_giveDrawback_17 ?_
  refine q_nmP (fun m_2 em_2 => ?_)
  have h := h m_2 em_2
  exact hE _ _ _ dX6_giveDrawback_20 h
theorem dX1_payBack_0 : decode cX1_payBack 0 = .ok (.aload_n 0, 1) := by decide +kernel
theorem dX1_payBack_1 : decode cX1_payBack 1 = .ok (.getfield 9, 3) := by decide +kernel
theorem dX1_payBack_4 : decode cX1_payBack 4 = .ok (.iload_n 1, 1) := by decide +kernel
theorem dX1_payBack_5 : decode cX1_payBack 5 = .ok (.invokevirtual 134, 3) := by decide +kernel
theorem dX1_payBack_8 : decode cX1_payBack 8 = .ok (.astore_n 3, 1) := by decide +kernel
theorem dX1_payBack_9 : decode cX1_payBack 9 = .ok (.aload_n 3, 1) := by decide +kernel
theorem dX1_payBack_10 : decode cX1_payBack 10 = .ok (.ifnonnull 5, 3) := by decide +kernel
theorem dX1_payBack_13 : decode cX1_payBack 13 = .ok (.iconst (-1), 1) := by decide +kernel
theorem dX1_payBack_14 : decode cX1_payBack 14 = .ok (.ireturn, 1) := by decide +kernel
theorem dX1_payBack_15 : decode cX1_payBack 15 = .ok (.iload_n 2, 1) := by decide +kernel
theorem dX1_payBack_16 : decode cX1_payBack 16 = .ok (.iconst 1, 1) := by decide +kernel
theorem dX1_payBack_17 : decode cX1_payBack 17 = .ok (.sipush 999, 3) := by decide +kernel
theorem dX1_payBack_20 : decode cX1_payBack 20 = .ok (.invokestatic 83, 3) := by decide +kernel
theorem dX1_payBack_23 : decode cX1_payBack 23 = .ok (.ifCond .ne 6, 3) := by decide +kernel
theorem dX1_payBack_26 : decode cX1_payBack 26 = .ok (.bipush (-2), 2) := by decide +kernel
theorem dX1_payBack_28 : decode cX1_payBack 28 = .ok (.ireturn, 1) := by decide +kernel
theorem dX1_payBack_29 : decode cX1_payBack 29 = .ok (.aload_n 0, 1) := by decide +kernel
theorem dX1_payBack_30 : decode cX1_payBack 30 = .ok (.getfield 9, 3) := by decide +kernel
theorem dX1_payBack_33 : decode cX1_payBack 33 = .ok (.aload_n 3, 1) := by decide +kernel
theorem dX1_payBack_34 : decode cX1_payBack 34 = .ok (.iload_n 2, 1) := by decide +kernel
theorem dX1_payBack_35 : decode cX1_payBack 35 = .ok (.invokevirtual 138, 3) := by decide +kernel
theorem dX1_payBack_38 : decode cX1_payBack 38 = .ok (.ifCond .eq 6, 3) := by decide +kernel
theorem dX1_payBack_41 : decode cX1_payBack 41 = .ok (.bipush (-3), 2) := by decide +kernel
theorem dX1_payBack_43 : decode cX1_payBack 43 = .ok (.ireturn, 1) := by decide +kernel
theorem dX1_payBack_44 : decode cX1_payBack 44 = .ok (.aload_n 0, 1) := by decide +kernel
theorem dX1_payBack_45 : decode cX1_payBack 45 = .ok (.getfield 15, 3) := by decide +kernel
theorem dX1_payBack_48 : decode cX1_payBack 48 = .ok (.aload_n 0, 1) := by decide +kernel
theorem dX1_payBack_49 : decode cX1_payBack 49 = .ok (.getfield 9, 3) := by decide +kernel
theorem dX1_payBack_52 : decode cX1_payBack 52 = .ok (.invokevirtual 29, 3) := by decide +kernel
theorem dX1_payBack_55 : decode cX1_payBack 55 = .ok (.aload_n 3, 1) := by decide +kernel
theorem dX1_payBack_56 : decode cX1_payBack 56 = .ok (.iload_n 2, 1) := by decide +kernel
theorem dX1_payBack_57 : decode cX1_payBack 57 = .ok (.invokevirtual 142, 3) := by decide +kernel
theorem dX1_payBack_60 : decode cX1_payBack 60 = .ok (.istore 4, 2) := by decide +kernel
theorem dX1_payBack_62 : decode cX1_payBack 62 = .ok (.iload 4, 2) := by decide +kernel
theorem dX1_payBack_64 : decode cX1_payBack 64 = .ok (.invokestatic 146, 3) := by decide +kernel
theorem dX1_payBack_67 : decode cX1_payBack 67 = .ok (.istore 5, 2) := by decide +kernel
theorem dX1_payBack_69 : decode cX1_payBack 69 = .ok (.aload_n 3, 1) := by decide +kernel
theorem dX1_payBack_70 : decode cX1_payBack 70 = .ok (.aload_n 3, 1) := by decide +kernel
theorem dX1_payBack_71 : decode cX1_payBack 71 = .ok (.getfield 111, 3) := by decide +kernel
theorem dX1_payBack_74 : decode cX1_payBack 74 = .ok (.iload_n 2, 1) := by decide +kernel
theorem dX1_payBack_75 : decode cX1_payBack 75 = .ok (.isub, 1) := by decide +kernel
theorem dX1_payBack_76 : decode cX1_payBack 76 = .ok (.putfield 111, 3) := by decide +kernel
theorem dX1_payBack_79 : decode cX1_payBack 79 = .ok (.aload_n 3, 1) := by decide +kernel
theorem dX1_payBack_80 : decode cX1_payBack 80 = .ok (.aload_n 3, 1) := by decide +kernel
theorem dX1_payBack_81 : decode cX1_payBack 81 = .ok (.getfield 112, 3) := by decide +kernel
theorem dX1_payBack_84 : decode cX1_payBack 84 = .ok (.iload 4, 2) := by decide +kernel
theorem dX1_payBack_86 : decode cX1_payBack 86 = .ok (.isub, 1) := by decide +kernel
theorem dX1_payBack_87 : decode cX1_payBack 87 = .ok (.putfield 112, 3) := by decide +kernel
theorem dX1_payBack_90 : decode cX1_payBack 90 = .ok (.aload_n 0, 1) := by decide +kernel
theorem dX1_payBack_91 : decode cX1_payBack 91 = .ok (.getfield 9, 3) := by decide +kernel
theorem dX1_payBack_94 : decode cX1_payBack 94 = .ok (.getfield 94, 3) := by decide +kernel
theorem dX1_payBack_97 : decode cX1_payBack 97 = .ok (.iload 5, 2) := by decide +kernel
theorem dX1_payBack_99 : decode cX1_payBack 99 = .ok (.invokevirtual 149, 3) := by decide +kernel
theorem dX1_payBack_102 : decode cX1_payBack 102 = .ok (.aload_n 0, 1) := by decide +kernel
theorem dX1_payBack_103 : decode cX1_payBack 103 = .ok (.getfield 9, 3) := by decide +kernel
theorem dX1_payBack_106 : decode cX1_payBack 106 = .ok (.getfield 67, 3) := by decide +kernel
theorem dX1_payBack_109 : decode cX1_payBack 109 = .ok (.aload_n 3, 1) := by decide +kernel
theorem dX1_payBack_110 : decode cX1_payBack 110 = .ok (.getfield 108, 3) := by decide +kernel
theorem dX1_payBack_113 : decode cX1_payBack 113 = .ok (.aaload, 1) := by decide +kernel
theorem dX1_payBack_114 : decode cX1_payBack 114 = .ok (.dup, 1) := by decide +kernel
theorem dX1_payBack_115 : decode cX1_payBack 115 = .ok (.getfield 152, 3) := by decide +kernel
theorem dX1_payBack_118 : decode cX1_payBack 118 = .ok (.iload_n 2, 1) := by decide +kernel
theorem dX1_payBack_119 : decode cX1_payBack 119 = .ok (.iadd, 1) := by decide +kernel
theorem dX1_payBack_120 : decode cX1_payBack 120 = .ok (.putfield 152, 3) := by decide +kernel
theorem dX1_payBack_123 : decode cX1_payBack 123 = .ok (.iload 5, 2) := by decide +kernel
theorem dX1_payBack_125 : decode cX1_payBack 125 = .ok (.ireturn, 1) := by decide +kernel
def w_X1_payBack (p0 : Int32) (p1 : Int32) (mm : Mm) (Q9 : Int32 → Mm → Prop) : Prop :=
  w_X8_findReceipt 1 p0 mm (fun (r_1 : Nat) => ((¬ r_1 = 0 → w_X9_isWithin p1 1 999 mm (fun (r_4 : Int32) => ((¬ r_4 = 0 → ok 4 r_1 ∧ w_X8_reasonAgainstDrawback 1 r_1 p1 mm (fun (r_8 : Int32) => ((r_8 = 0 → w_X3_save 1 mm (fun (m_12 : Mm) => w_X7_dutyPart r_1 p1 m_12 (fun (r_13 : Int32) => w_X9_paidBackOf r_13 m_12 (fun (r_15 : Int32) => ∀ m_17 : Mm, m_17 = sI m_12 4 r_1 1 ((m_12.1 4 r_1 1) - p1) → (∀ m_18 : Mm, m_18 = sI m_17 4 r_1 2 ((m_17.1 4 r_1 2) - r_13) → (w_X6_giveDrawback 1 r_15 m_18 (fun (m_20 : Mm) => vp_in (m_20.1 4 r_1 0) 6 ∧ (∀ m_22 : Mm, m_22 = sI m_20 6 (6 * (1 - 1) + (m_20.1 4 r_1 0).toNatClampNeg + 1) 7 ((m_20.1 6 (6 * (1 - 1) + (m_20.1 4 r_1 0).toNatClampNeg + 1) 7) + p1) → (Q9 r_15 m_22))))))))) ∧
  (¬ r_8 = 0 → Q9 (-3) mm)))) ∧
  (r_4 = 0 → Q9 (-2) mm)))) ∧
  (r_1 = 0 → Q9 (-1) mm)))
def rm_X1_payBack : Room := { frames := 3, cells := 0, slots := 0, locals := 64 }
theorem hy_X1_payBack : yX1_payBack.cls = RX1 ∧ yX1_payBack.cls ≠ "java/lang/invoke/MethodHandle" ∧ yX1_payBack.cls ≠ "java/lang/invoke/VarHandle" ∧ (parseMethodDescriptor yX1_payBack.desc).map (fun d => d.parameters.length) = some 2 := by decide +kernel
set_option maxRecDepth 100000 in
set_option maxHeartbeats 4000000 in
theorem c_X1_payBack {l : Launch} {D : va_G} {cA : Nat → ClassId} {ad : Nat → Nat → Nat} {A : Nat → Prop} (ax : Ax ad GC A) (p0 : Int32) (p1 : Int32) (mm : Mm) (Q9 : Int32 → Mm → Prop) (h : w_X1_payBack p0 p1 mm Q9) : Met l yX1_payBack (.code yX1_payBack cX1_payBack 6 (some .int) :: TG) rm_X1_payBack (PcM TT D cA ad false GC (ZC ad A) [.ref (ad 16 1), .int p0, .int p1] mm) (AnsI TT D cA ad false GC A Q9) 0 0 A := by
  have zo := ZC_ok ad A
  unfold w_X1_payBack at h
  refine enterI pl_X1 ⟨rfl, rfl⟩ rfl (Nat.le_of_ble_eq_true rfl) ?_
  intro p e s m args below meth c QQ X hK hZ hnm hE
  refine q_aload_n (j := 0) X dX1_payBack_0 rfl rfl ?_
  refine q_get (k := 0) (v := .ref (ad 1 1)) X hK rfl rfl (Nat.le_of_ble_eq_true rfl) inTX1 (gc (t := 16) (by decide) (ok1 (t := 16) (Nat.le_of_ble_eq_true rfl))) kw_2_75 rfl (rv_nn (a := ad 1) (r := 1) (ok1 (t := 1) (Nat.le_of_ble_eq_true rfl)).1) dX1_payBack_1 ?_
  refine q_iload_n (j := 1) X dX1_payBack_4 rfl rfl ?_
  refine q_callr (q_runVN X hK hZ zo (gc (t := 1) (by decide) (ok1 (t := 1) (Nat.le_of_ble_eq_true rfl))) rfl rfl [.int p0] [] rfl rfl (Nat.le_of_ble_eq_true rfl) dX1_payBack_5 ⟨Nat.le_of_ble_eq_true rfl, Nat.le_of_ble_eq_true rfl⟩ (c_X8_findReceipt ax 1 (ok1 (t := 1) (Nat.le_of_ble_eq_true rfl)) p0 mm _ h) rfl rfl (List.mem_of_getElem? (i := 36) rfl) kw_1_2 kw_3_179 kw_3_178 ks_32 hy_X8_findReceipt.2 ⟨Nat.le_of_ble_eq_true rfl, Nat.le_of_ble_eq_true rfl⟩) (fun r_1 m_2 h => ?_)
  obtain ⟨h, hm⟩ := h
  subst hm
  refine q_vstore_n (lv' := [(3, rv (ad 4) r_1), (0, .ref (ad 16 1)), (1, .int p0), (2, .int p1)]) X dX1_payBack_8 rfl (by decide) rfl ?_
  refine q_vload_n (j := 0) X dX1_payBack_9 rfl rfl ?_
  refine q_ifnonnull (tgt := 15) X dX1_payBack_10 (by decide) (fun c_3 => ?_) (fun c_3 => ?_)
  · have h := h.1 c_3
    refine q_iload_n (j := 3) X dX1_payBack_15 rfl rfl ?_
    refine q_iconst (v := 1) X dX1_payBack_16 (by decide) ?_
    refine q_sipush (v := 999) X dX1_payBack_17 (by decide) ?_
    refine q_calli (q_runSN X hK hZ zo [.int p1, .int 1, .int 999] [] rfl rfl (Nat.le_of_ble_eq_true rfl) dX1_payBack_20 ⟨Nat.le_of_ble_eq_true rfl, Nat.le_of_ble_eq_true rfl⟩ (c_X9_isWithin ax p1 1 999 mm _ h) rfl rfl (List.mem_of_getElem? (i := 25) rfl) kw_1_1 kw_2_158 kw_2_157 hy_X9_isWithin.2 ⟨Nat.le_of_ble_eq_true rfl, Nat.le_of_ble_eq_true rfl⟩) (fun r_4 m_5 h => ?_)
    obtain ⟨h, hm⟩ := h
    subst hm
    refine q_if_ne (tgt := 29) X dX1_payBack_23 (by decide) (fun c_6 => ?_) (fun c_6 => ?_)
    · have h := h.1 c_6
      refine q_aload_n (j := 1) X dX1_payBack_29 rfl rfl ?_
      refine q_get (k := 0) (v := .ref (ad 1 1)) X hK rfl rfl (Nat.le_of_ble_eq_true rfl) inTX1 (gc (t := 16) (by decide) (ok1 (t := 16) (Nat.le_of_ble_eq_true rfl))) kw_2_75 rfl (rv_nn (a := ad 1) (r := 1) (ok1 (t := 1) (Nat.le_of_ble_eq_true rfl)).1) dX1_payBack_30 ?_
      refine q_vload_n (j := 0) X dX1_payBack_33 rfl rfl ?_
      refine q_iload_n (j := 3) X dX1_payBack_34 rfl rfl ?_
      obtain ⟨k_7, h⟩ := h
      rw [rv_nn (a := ad 4) (r := r_1) k_7.1]
      refine q_calli (q_runVN X hK hZ zo (gc (t := 1) (by decide) (ok1 (t := 1) (Nat.le_of_ble_eq_true rfl))) rfl rfl [.ref (ad 4 r_1), .int p1] [] rfl rfl (Nat.le_of_ble_eq_true rfl) dX1_payBack_35 ⟨Nat.le_of_ble_eq_true rfl, Nat.le_of_ble_eq_true rfl⟩ (c_X8_reasonAgainstDrawback ax 1 (ok1 (t := 1) (Nat.le_of_ble_eq_true rfl)) r_1 k_7 p1 mm _ h) rfl rfl (List.mem_of_getElem? (i := 38) rfl) kw_1_2 kw_3_184 kw_3_183 ks_33 hy_X8_reasonAgainstDrawback.2 ⟨Nat.le_of_ble_eq_true rfl, Nat.le_of_ble_eq_true rfl⟩) (fun r_8 m_9 h => ?_)
      obtain ⟨h, hm⟩ := h
      subst hm
      refine q_if_eq (tgt := 44) X dX1_payBack_38 (by decide) (fun c_10 => ?_) (fun c_10 => ?_)
      · have h := h.1 c_10
        refine q_aload_n (j := 1) X dX1_payBack_44 rfl rfl ?_
        refine q_get (k := 1) (v := .ref (ad 12 1)) X hK rfl rfl (Nat.le_of_ble_eq_true rfl) inTX1 (gc (t := 16) (by decide) (ok1 (t := 16) (Nat.le_of_ble_eq_true rfl))) kw_2_76 rfl (rv_nn (a := ad 12) (r := 1) (ok1 (t := 12) (Nat.le_of_ble_eq_true rfl)).1) dX1_payBack_45 ?_
        refine q_aload_n (j := 1) X dX1_payBack_48 rfl rfl ?_
        refine q_get (k := 0) (v := .ref (ad 1 1)) X hK rfl rfl (Nat.le_of_ble_eq_true rfl) inTX1 (gc (t := 16) (by decide) (ok1 (t := 16) (Nat.le_of_ble_eq_true rfl))) kw_2_75 rfl (rv_nn (a := ad 1) (r := 1) (ok1 (t := 1) (Nat.le_of_ble_eq_true rfl)).1) dX1_payBack_49 ?_
        refine q_callv (q_runVN X hK hZ zo (gc (t := 12) (by decide) (ok1 (t := 12) (Nat.le_of_ble_eq_true rfl))) rfl rfl [.ref (ad 1 1)] [] rfl rfl (Nat.le_of_ble_eq_true rfl) dX1_payBack_52 ⟨Nat.le_of_ble_eq_true rfl, Nat.le_of_ble_eq_true rfl⟩ (c_X3_save ax 1 (ok1 (t := 1) (Nat.le_of_ble_eq_true rfl)) mm _ h) rfl rfl (List.mem_of_getElem? (i := 15) rfl) kw_1_8 kw_2_194 kw_2_193 ks_9 hy_X3_save.2 ⟨Nat.le_of_ble_eq_true rfl, Nat.le_of_ble_eq_true rfl⟩) (fun m_12 h => ?_)
        refine q_aload_n (j := 0) X dX1_payBack_55 rfl rfl ?_
        refine q_iload_n (j := 3) X dX1_payBack_56 rfl rfl ?_
        refine q_calli (q_runVN X hK hZ zo (gc (t := 4) (by decide) k_7) rfl rfl [.int p1] [] rfl rfl (Nat.le_of_ble_eq_true rfl) dX1_payBack_57 ⟨Nat.le_of_ble_eq_true rfl, Nat.le_of_ble_eq_true rfl⟩ (c_X7_dutyPart ax r_1 k_7 p1 m_12 _ h) rfl rfl (List.mem_of_getElem? (i := 39) rfl) kw_1_5 kw_3_188 kw_3_187 ks_34 hy_X7_dutyPart.2 ⟨Nat.le_of_ble_eq_true rfl, Nat.le_of_ble_eq_true rfl⟩) (fun r_13 m_14 h => ?_)
        obtain ⟨h, hm⟩ := h
        subst hm
        refine q_istore (lv' := [(4, .int r_13), (3, .ref (ad 4 r_1)), (0, .ref (ad 16 1)), (1, .int p0), (2, .int p1)]) X dX1_payBack_60 (by decide) rfl ?_
        refine q_iload (j := 0) X dX1_payBack_62 rfl ?_
        refine q_calli (q_runSN X hK hZ zo [.int r_13] [] rfl rfl (Nat.le_of_ble_eq_true rfl) dX1_payBack_64 ⟨Nat.le_of_ble_eq_true rfl, Nat.le_of_ble_eq_true rfl⟩ (c_X9_paidBackOf ax r_13 m_12 _ h) rfl rfl (List.mem_of_getElem? (i := 40) rfl) kw_1_1 kw_3_191 kw_3_190 hy_X9_paidBackOf.2 ⟨Nat.le_of_ble_eq_true rfl, Nat.le_of_ble_eq_true rfl⟩) (fun r_15 m_16 h => ?_)
        obtain ⟨h, hm⟩ := h
        subst hm
        refine q_istore (lv' := [(5, .int r_15), (4, .int r_13), (3, .ref (ad 4 r_1)), (0, .ref (ad 16 1)), (1, .int p0), (2, .int p1)]) X dX1_payBack_67 (by decide) rfl ?_
        refine q_aload_n (j := 2) X dX1_payBack_69 rfl rfl ?_
        refine q_aload_n (j := 2) X dX1_payBack_70 rfl rfl ?_
        refine q_getN (k := 1) (v := .int (m_12.1 4 r_1 1)) X hK rfl rfl (Nat.le_of_ble_eq_true rfl) inTX7 (gc (t := 4) (by decide) k_7) (List.mem_of_getElem? (i := 36) rfl) rfl rfl dX1_payBack_71 ?_
        refine q_iload_n (j := 5) X dX1_payBack_74 rfl rfl ?_
        refine q_isub X dX1_payBack_75 ?_
        refine q_putIN (k := 1) X ax hK rfl rfl (Nat.le_of_ble_eq_true rfl) inTX7 (gc (t := 4) (by decide) k_7) tyX7 tyX7_ok nmX7 (List.mem_of_getElem? (i := 36) rfl) rfl rfl (tyX7_ok 1 (Nat.le_of_ble_eq_true rfl)) rfl dX1_payBack_76 ?_
        refine q_nmP (fun m_17 em_17 => ?_)
        have h := h m_17 em_17
        refine q_aload_n (j := 2) X dX1_payBack_79 rfl rfl ?_
        refine q_aload_n (j := 2) X dX1_payBack_80 rfl rfl ?_
        refine q_getN (k := 2) (v := .int (m_17.1 4 r_1 2)) X hK rfl rfl (Nat.le_of_ble_eq_true rfl) inTX7 (gc (t := 4) (by decide) k_7) (List.mem_of_getElem? (i := 39) rfl) rfl rfl dX1_payBack_81 ?_
        refine q_iload (j := 1) X dX1_payBack_84 rfl ?_
        refine q_isub X dX1_payBack_86 ?_
        refine q_putIN (k := 2) X ax hK rfl rfl (Nat.le_of_ble_eq_true rfl) inTX7 (gc (t := 4) (by decide) k_7) tyX7 tyX7_ok nmX7 (List.mem_of_getElem? (i := 39) rfl) rfl rfl (tyX7_ok 2 (Nat.le_of_ble_eq_true rfl)) rfl dX1_payBack_87 ?_
        refine q_nmP (fun m_18 em_18 => ?_)
        have h := h m_18 em_18
        refine q_aload_n (j := 3) X dX1_payBack_90 rfl rfl ?_
        refine q_get (k := 0) (v := .ref (ad 1 1)) X hK rfl rfl (Nat.le_of_ble_eq_true rfl) inTX1 (gc (t := 16) (by decide) (ok1 (t := 16) (Nat.le_of_ble_eq_true rfl))) kw_2_75 rfl (rv_nn (a := ad 1) (r := 1) (ok1 (t := 1) (Nat.le_of_ble_eq_true rfl)).1) dX1_payBack_91 ?_
        refine q_getN (k := 5) (v := .ref (ad 2 1)) X hK rfl rfl (Nat.le_of_ble_eq_true rfl) inTX8 (gc (t := 1) (by decide) (ok1 (t := 1) (Nat.le_of_ble_eq_true rfl))) (List.mem_of_getElem? (i := 73) rfl) rfl (rv_nn (a := ad 2) (r := 1) (ok1 (t := 2) (Nat.le_of_ble_eq_true rfl)).1) dX1_payBack_94 ?_
        refine q_iload (j := 0) X dX1_payBack_97 rfl ?_
        refine q_callv (q_runVN X hK hZ zo (gc (t := 2) (by decide) (ok1 (t := 2) (Nat.le_of_ble_eq_true rfl))) rfl rfl [.int r_15] [] rfl rfl (Nat.le_of_ble_eq_true rfl) dX1_payBack_99 ⟨Nat.le_of_ble_eq_true rfl, Nat.le_of_ble_eq_true rfl⟩ (c_X6_giveDrawback ax 1 (ok1 (t := 2) (Nat.le_of_ble_eq_true rfl)) r_15 m_18 _ h) rfl rfl (List.mem_of_getElem? (i := 41) rfl) kw_1_3 kw_3_195 kw_3_194 ks_35 hy_X6_giveDrawback.2 ⟨Nat.le_of_ble_eq_true rfl, Nat.le_of_ble_eq_true rfl⟩) (fun m_20 h => ?_)
        refine q_aload_n (j := 3) X dX1_payBack_102 rfl rfl ?_
        refine q_get (k := 0) (v := .ref (ad 1 1)) X hK rfl rfl (Nat.le_of_ble_eq_true rfl) inTX1 (gc (t := 16) (by decide) (ok1 (t := 16) (Nat.le_of_ble_eq_true rfl))) kw_2_75 rfl (rv_nn (a := ad 1) (r := 1) (ok1 (t := 1) (Nat.le_of_ble_eq_true rfl)).1) dX1_payBack_103 ?_
        refine q_getN (k := 9) (v := .ref (ad 10 1)) X hK rfl rfl (Nat.le_of_ble_eq_true rfl) inTX8 (gc (t := 1) (by decide) (ok1 (t := 1) (Nat.le_of_ble_eq_true rfl))) (List.mem_of_getElem? (i := 79) rfl) rfl (rv_nn (a := ad 10) (r := 1) (ok1 (t := 10) (Nat.le_of_ble_eq_true rfl)).1) dX1_payBack_106 ?_
        refine q_aload_n (j := 2) X dX1_payBack_109 rfl rfl ?_
        refine q_getN (k := 0) (v := .int (m_20.1 4 r_1 0)) X hK rfl rfl (Nat.le_of_ble_eq_true rfl) inTX7 (gc (t := 4) (by decide) k_7) (List.mem_of_getElem? (i := 34) rfl) rfl rfl dX1_payBack_110 ?_
        obtain ⟨b_21, h⟩ := h
        refine q_aald (t := 10) (i := 1) (jn := (m_20.1 4 r_1 0).toNatClampNeg) (v := .ref (ad 6 (6 * (1 - 1) + (m_20.1 4 r_1 0).toNatClampNeg + 1))) X hK rfl rfl (gc (t := 10) (by decide) (ok1 (t := 10) (Nat.le_of_ble_eq_true rfl))) rfl b_21 rfl (rv_nn (a := ad 6) (r := (6 * (1 - 1) + (m_20.1 4 r_1 0).toNatClampNeg + 1)) (ok_ki (ok1 (t := 10) (Nat.le_of_ble_eq_true rfl)) b_21).1) dX1_payBack_113 ?_
        refine q_dup X dX1_payBack_114 rfl ?_
        refine q_getN (k := 7) (v := .int (m_20.1 6 (6 * (1 - 1) + (m_20.1 4 r_1 0).toNatClampNeg + 1) 7)) X hK rfl rfl (Nat.le_of_ble_eq_true rfl) inTX5 (gc (t := 6) (by decide) (ok_ki (ok1 (t := 10) (Nat.le_of_ble_eq_true rfl)) b_21)) (List.mem_of_getElem? (i := 64) rfl) rfl rfl dX1_payBack_115 ?_
        refine q_iload_n (j := 5) X dX1_payBack_118 rfl rfl ?_
        refine q_iadd X dX1_payBack_119 ?_
        refine q_putIN (k := 7) X ax hK rfl rfl (Nat.le_of_ble_eq_true rfl) inTX5 (gc (t := 6) (by decide) (ok_ki (ok1 (t := 10) (Nat.le_of_ble_eq_true rfl)) b_21)) tyX5 tyX5_ok nmX5 (List.mem_of_getElem? (i := 64) rfl) rfl rfl (tyX5_ok 7 (Nat.le_of_ble_eq_true rfl)) rfl dX1_payBack_120 ?_
        refine q_nmP (fun m_22 em_22 => ?_)
        have h := h m_22 em_22
        refine q_iload (j := 0) X dX1_payBack_123 rfl ?_
        exact hE _ _ _ _ dX1_payBack_125 h
      · have h := h.2 c_10
        refine q_bipush (v := (-3)) X dX1_payBack_41 (by decide) ?_
        exact hE _ _ _ _ dX1_payBack_43 h
    · have h := h.2 c_6
      refine q_bipush (v := (-2)) X dX1_payBack_26 (by decide) ?_
      exact hE _ _ _ _ dX1_payBack_28 h
  · have h := h.2 c_3
    refine q_iconst (v := (-1)) X dX1_payBack_13 (by decide) ?_
    exact hE _ _ _ _ dX1_payBack_14 h
theorem dX8_reasonAgainstMove_0 : decode cX8_reasonAgainstMove 0 = .ok (.aload_n 1, 1) := by decide +kernel
theorem dX8_reasonAgainstMove_1 : decode cX8_reasonAgainstMove 1 = .ok (.getfield 150, 3) := by decide +kernel
theorem dX8_reasonAgainstMove_4 : decode cX8_reasonAgainstMove 4 = .ok (.iload_n 2, 1) := by decide +kernel
theorem dX8_reasonAgainstMove_5 : decode cX8_reasonAgainstMove 5 = .ok (.if_icmp .ne 5, 3) := by decide +kernel
theorem dX8_reasonAgainstMove_8 : decode cX8_reasonAgainstMove 8 = .ok (.iconst 1, 1) := by decide +kernel
theorem dX8_reasonAgainstMove_9 : decode cX8_reasonAgainstMove 9 = .ok (.ireturn, 1) := by decide +kernel
theorem dX8_reasonAgainstMove_10 : decode cX8_reasonAgainstMove 10 = .ok (.aload_n 0, 1) := by decide +kernel
theorem dX8_reasonAgainstMove_11 : decode cX8_reasonAgainstMove 11 = .ok (.getfield 32, 3) := by decide +kernel
theorem dX8_reasonAgainstMove_14 : decode cX8_reasonAgainstMove 14 = .ok (.aload_n 1, 1) := by decide +kernel
theorem dX8_reasonAgainstMove_15 : decode cX8_reasonAgainstMove 15 = .ok (.getfield 150, 3) := by decide +kernel
theorem dX8_reasonAgainstMove_18 : decode cX8_reasonAgainstMove 18 = .ok (.aaload, 1) := by decide +kernel
theorem dX8_reasonAgainstMove_19 : decode cX8_reasonAgainstMove 19 = .ok (.invokevirtual 156, 3) := by decide +kernel
theorem dX8_reasonAgainstMove_22 : decode cX8_reasonAgainstMove 22 = .ok (.ifCond .eq 5, 3) := by decide +kernel
theorem dX8_reasonAgainstMove_25 : decode cX8_reasonAgainstMove 25 = .ok (.iconst 2, 1) := by decide +kernel
theorem dX8_reasonAgainstMove_26 : decode cX8_reasonAgainstMove 26 = .ok (.ireturn, 1) := by decide +kernel
theorem dX8_reasonAgainstMove_27 : decode cX8_reasonAgainstMove 27 = .ok (.aload_n 1, 1) := by decide +kernel
theorem dX8_reasonAgainstMove_28 : decode cX8_reasonAgainstMove 28 = .ok (.getfield 146, 3) := by decide +kernel
theorem dX8_reasonAgainstMove_31 : decode cX8_reasonAgainstMove 31 = .ok (.ifCond .ne 5, 3) := by decide +kernel
theorem dX8_reasonAgainstMove_34 : decode cX8_reasonAgainstMove 34 = .ok (.iconst 3, 1) := by decide +kernel
theorem dX8_reasonAgainstMove_35 : decode cX8_reasonAgainstMove 35 = .ok (.ireturn, 1) := by decide +kernel
theorem dX8_reasonAgainstMove_36 : decode cX8_reasonAgainstMove 36 = .ok (.aload_n 0, 1) := by decide +kernel
theorem dX8_reasonAgainstMove_37 : decode cX8_reasonAgainstMove 37 = .ok (.getfield 32, 3) := by decide +kernel
theorem dX8_reasonAgainstMove_40 : decode cX8_reasonAgainstMove 40 = .ok (.iload_n 2, 1) := by decide +kernel
theorem dX8_reasonAgainstMove_41 : decode cX8_reasonAgainstMove 41 = .ok (.aaload, 1) := by decide +kernel
theorem dX8_reasonAgainstMove_42 : decode cX8_reasonAgainstMove 42 = .ok (.invokevirtual 156, 3) := by decide +kernel
theorem dX8_reasonAgainstMove_45 : decode cX8_reasonAgainstMove 45 = .ok (.ifCond .eq 5, 3) := by decide +kernel
theorem dX8_reasonAgainstMove_48 : decode cX8_reasonAgainstMove 48 = .ok (.iconst 4, 1) := by decide +kernel
theorem dX8_reasonAgainstMove_49 : decode cX8_reasonAgainstMove 49 = .ok (.ireturn, 1) := by decide +kernel
theorem dX8_reasonAgainstMove_50 : decode cX8_reasonAgainstMove 50 = .ok (.aload_n 0, 1) := by decide +kernel
theorem dX8_reasonAgainstMove_51 : decode cX8_reasonAgainstMove 51 = .ok (.iload_n 2, 1) := by decide +kernel
theorem dX8_reasonAgainstMove_52 : decode cX8_reasonAgainstMove 52 = .ok (.invokevirtual 160, 3) := by decide +kernel
theorem dX8_reasonAgainstMove_55 : decode cX8_reasonAgainstMove 55 = .ok (.aload_n 1, 1) := by decide +kernel
theorem dX8_reasonAgainstMove_56 : decode cX8_reasonAgainstMove 56 = .ok (.getfield 97, 3) := by decide +kernel
theorem dX8_reasonAgainstMove_59 : decode cX8_reasonAgainstMove 59 = .ok (.if_icmp .ge 7, 3) := by decide +kernel
theorem dX8_reasonAgainstMove_62 : decode cX8_reasonAgainstMove 62 = .ok (.iconst 5, 1) := by decide +kernel
theorem dX8_reasonAgainstMove_63 : decode cX8_reasonAgainstMove 63 = .ok (.goto 4, 3) := by decide +kernel
theorem dX8_reasonAgainstMove_66 : decode cX8_reasonAgainstMove 66 = .ok (.iconst 0, 1) := by decide +kernel
theorem dX8_reasonAgainstMove_67 : decode cX8_reasonAgainstMove 67 = .ok (.ireturn, 1) := by decide +kernel
def w_X8_reasonAgainstMove (i : Nat) (p0 : Nat) (p1 : Int32) (mm : Mm) (Q9 : Int32 → Prop) : Prop :=
  ((¬ (mm.1 3 p0 4) = p1 → vp_in (mm.1 3 p0 4) 5 ∧ (w_X0_isSealed (5 * (i - 1) + (mm.1 3 p0 4).toNatClampNeg + 1) mm (fun (r_3 : Int32) => ((r_3 = 0 → ((¬ (mm.1 3 p0 7) = 0 → vp_in p1 5 ∧ (w_X0_isSealed (5 * (i - 1) + p1.toNatClampNeg + 1) mm (fun (r_8 : Int32) => ((r_8 = 0 → w_X8_roomLeft i p1 mm (fun (r_11 : Int32) => (((mm.1 3 p0 2) ≤ r_11 → Q9 0) ∧
  (¬ (mm.1 3 p0 2) ≤ r_11 → Q9 5)))) ∧
  (¬ r_8 = 0 → Q9 4))))) ∧
  ((mm.1 3 p0 7) = 0 → Q9 3))) ∧
  (¬ r_3 = 0 → Q9 2))))) ∧
  ((mm.1 3 p0 4) = p1 → Q9 1))
def rm_X8_reasonAgainstMove : Room := { frames := 1, cells := 0, slots := 0, locals := 23 }
theorem hy_X8_reasonAgainstMove : yX8_reasonAgainstMove.cls = RX8 ∧ yX8_reasonAgainstMove.cls ≠ "java/lang/invoke/MethodHandle" ∧ yX8_reasonAgainstMove.cls ≠ "java/lang/invoke/VarHandle" ∧ (parseMethodDescriptor yX8_reasonAgainstMove.desc).map (fun d => d.parameters.length) = some 2 := by decide +kernel
set_option maxRecDepth 100000 in
set_option maxHeartbeats 4000000 in
theorem c_X8_reasonAgainstMove {l : Launch} {D : va_G} {cA : Nat → ClassId} {ad : Nat → Nat → Nat} {A : Nat → Prop} (ax : Ax ad GC A) (i : Nat) (hi : ok 1 i) (p0 : Nat) (hp0 : ok 3 p0) (p1 : Int32) (mm : Mm) (Q9 : Int32 → Prop) (h : w_X8_reasonAgainstMove i p0 p1 mm Q9) : Met l yX8_reasonAgainstMove (.code yX8_reasonAgainstMove cX8_reasonAgainstMove 3 (some .int) :: TG) rm_X8_reasonAgainstMove (PcM TT D cA ad false GC (ZC ad A) [.ref (ad 1 i), .ref (ad 3 p0), .int p1] mm) (AnsI TT D cA ad false GC A (fun r mm' => Q9 r ∧ mm = mm')) 0 0 A := by
  have zo := ZC_ok ad A
  unfold w_X8_reasonAgainstMove at h
  refine enterI pl_X8 ⟨rfl, rfl⟩ rfl (Nat.le_of_ble_eq_true rfl) ?_
  intro p e s m args below meth c QQ X hK hZ hnm hE
  refine q_aload_n (j := 1) X dX8_reasonAgainstMove_0 rfl rfl ?_
  refine q_getN (k := 4) (v := .int (mm.1 3 p0 4)) X hK rfl rfl (Nat.le_of_ble_eq_true rfl) inTX2 (gc (t := 3) (by decide) hp0) (List.mem_of_getElem? (i := 25) rfl) rfl rfl dX8_reasonAgainstMove_1 ?_
  refine q_iload_n (j := 2) X dX8_reasonAgainstMove_4 rfl rfl ?_
  refine q_icmp_ne (tgt := 10) X dX8_reasonAgainstMove_5 (by decide) (fun c_1 => ?_) (fun c_1 => ?_)
  · have h := h.1 c_1
    refine q_aload_n (j := 0) X dX8_reasonAgainstMove_10 rfl rfl ?_
    refine q_get (k := 8) (v := .ref (ad 9 i)) X hK rfl rfl (Nat.le_of_ble_eq_true rfl) inTX8 (gc (t := 1) (by decide) hi) kw_2_6 rfl (rv_nn (a := ad 9) (r := i) hi.1) dX8_reasonAgainstMove_11 ?_
    refine q_aload_n (j := 1) X dX8_reasonAgainstMove_14 rfl rfl ?_
    refine q_getN (k := 4) (v := .int (mm.1 3 p0 4)) X hK rfl rfl (Nat.le_of_ble_eq_true rfl) inTX2 (gc (t := 3) (by decide) hp0) (List.mem_of_getElem? (i := 25) rfl) rfl rfl dX8_reasonAgainstMove_15 ?_
    obtain ⟨b_2, h⟩ := h
    refine q_aald (t := 9) (i := i) (jn := (mm.1 3 p0 4).toNatClampNeg) (v := .ref (ad 5 (5 * (i - 1) + (mm.1 3 p0 4).toNatClampNeg + 1))) X hK rfl rfl (gc (t := 9) (by decide) hi) rfl b_2 rfl (rv_nn (a := ad 5) (r := (5 * (i - 1) + (mm.1 3 p0 4).toNatClampNeg + 1)) (ok_ch hi b_2).1) dX8_reasonAgainstMove_18 ?_
    refine q_calli (q_runVN X hK hZ zo (gc (t := 5) (by decide) (ok_ch hi b_2)) rfl rfl [] [] rfl rfl (Nat.le_of_ble_eq_true rfl) dX8_reasonAgainstMove_19 ⟨Nat.le_of_ble_eq_true rfl, Nat.le_of_ble_eq_true rfl⟩ (c_X0_isSealed ax (5 * (i - 1) + (mm.1 3 p0 4).toNatClampNeg + 1) (ok_ch hi b_2) mm _ h) rfl rfl (List.mem_of_getElem? (i := 13) rfl) kw_1_6 kw_2_166 kw_2_165 ks_2 hy_X0_isSealed.2 ⟨Nat.le_of_ble_eq_true rfl, Nat.le_of_ble_eq_true rfl⟩) (fun r_3 m_4 h => ?_)
    obtain ⟨h, hm⟩ := h
    subst hm
    refine q_if_eq (tgt := 27) X dX8_reasonAgainstMove_22 (by decide) (fun c_5 => ?_) (fun c_5 => ?_)
    · have h := h.1 c_5
      refine q_aload_n (j := 1) X dX8_reasonAgainstMove_27 rfl rfl ?_
      refine q_getN (k := 7) (v := .int (mm.1 3 p0 7)) X hK rfl rfl (Nat.le_of_ble_eq_true rfl) inTX2 (gc (t := 3) (by decide) hp0) (List.mem_of_getElem? (i := 32) rfl) rfl rfl dX8_reasonAgainstMove_28 ?_
      refine q_if_ne (tgt := 36) X dX8_reasonAgainstMove_31 (by decide) (fun c_6 => ?_) (fun c_6 => ?_)
      · have h := h.1 c_6
        refine q_aload_n (j := 0) X dX8_reasonAgainstMove_36 rfl rfl ?_
        refine q_get (k := 8) (v := .ref (ad 9 i)) X hK rfl rfl (Nat.le_of_ble_eq_true rfl) inTX8 (gc (t := 1) (by decide) hi) kw_2_6 rfl (rv_nn (a := ad 9) (r := i) hi.1) dX8_reasonAgainstMove_37 ?_
        refine q_iload_n (j := 2) X dX8_reasonAgainstMove_40 rfl rfl ?_
        obtain ⟨b_7, h⟩ := h
        refine q_aald (t := 9) (i := i) (jn := p1.toNatClampNeg) (v := .ref (ad 5 (5 * (i - 1) + p1.toNatClampNeg + 1))) X hK rfl rfl (gc (t := 9) (by decide) hi) rfl b_7 rfl (rv_nn (a := ad 5) (r := (5 * (i - 1) + p1.toNatClampNeg + 1)) (ok_ch hi b_7).1) dX8_reasonAgainstMove_41 ?_
        refine q_calli (q_runVN X hK hZ zo (gc (t := 5) (by decide) (ok_ch hi b_7)) rfl rfl [] [] rfl rfl (Nat.le_of_ble_eq_true rfl) dX8_reasonAgainstMove_42 ⟨Nat.le_of_ble_eq_true rfl, Nat.le_of_ble_eq_true rfl⟩ (c_X0_isSealed ax (5 * (i - 1) + p1.toNatClampNeg + 1) (ok_ch hi b_7) mm _ h) rfl rfl (List.mem_of_getElem? (i := 13) rfl) kw_1_6 kw_2_166 kw_2_165 ks_2 hy_X0_isSealed.2 ⟨Nat.le_of_ble_eq_true rfl, Nat.le_of_ble_eq_true rfl⟩) (fun r_8 m_9 h => ?_)
        obtain ⟨h, hm⟩ := h
        subst hm
        refine q_if_eq (tgt := 50) X dX8_reasonAgainstMove_45 (by decide) (fun c_10 => ?_) (fun c_10 => ?_)
        · have h := h.1 c_10
          refine q_aload_n (j := 0) X dX8_reasonAgainstMove_50 rfl rfl ?_
          refine q_iload_n (j := 2) X dX8_reasonAgainstMove_51 rfl rfl ?_
          refine q_calli (q_runV X hK hZ zo (gc (t := 1) (by decide) hi) rfl rfl [.int p1] [] rfl rfl (Nat.le_of_ble_eq_true rfl) dX8_reasonAgainstMove_52 ⟨Nat.le_of_ble_eq_true rfl, Nat.le_of_ble_eq_true rfl⟩ (c_X8_roomLeft ax i hi p1 mm _ h) rfl rfl (gV kw_2_167 kw_2_169 ks_3 kw_1_2 kw_2_170) hy_X8_roomLeft ⟨Nat.le_of_ble_eq_true rfl, Nat.le_of_ble_eq_true rfl⟩) (fun r_11 m_12 h => ?_)
          obtain ⟨h, hm⟩ := h
          subst hm
          refine q_aload_n (j := 1) X dX8_reasonAgainstMove_55 rfl rfl ?_
          refine q_getN (k := 2) (v := .int (mm.1 3 p0 2)) X hK rfl rfl (Nat.le_of_ble_eq_true rfl) inTX2 (gc (t := 3) (by decide) hp0) (List.mem_of_getElem? (i := 19) rfl) rfl rfl dX8_reasonAgainstMove_56 ?_
          refine q_icmp_ge (tgt := 66) X dX8_reasonAgainstMove_59 (by decide) (fun c_13 => ?_) (fun c_13 => ?_)
          · have h := h.1 c_13
            refine q_iconst (v := 0) X dX8_reasonAgainstMove_66 (by decide) ?_
            exact hE _ _ _ _ dX8_reasonAgainstMove_67 ⟨h, rfl⟩
          · have h := h.2 c_13
            refine q_iconst (v := 5) X dX8_reasonAgainstMove_62 (by decide) ?_
            refine q_goto (tgt := 67) X dX8_reasonAgainstMove_63 (by decide) ?_
            exact hE _ _ _ _ dX8_reasonAgainstMove_67 ⟨h, rfl⟩
        · have h := h.2 c_10
          refine q_iconst (v := 4) X dX8_reasonAgainstMove_48 (by decide) ?_
          exact hE _ _ _ _ dX8_reasonAgainstMove_49 ⟨h, rfl⟩
      · have h := h.2 c_6
        refine q_iconst (v := 3) X dX8_reasonAgainstMove_34 (by decide) ?_
        exact hE _ _ _ _ dX8_reasonAgainstMove_35 ⟨h, rfl⟩
    · have h := h.2 c_5
      refine q_iconst (v := 2) X dX8_reasonAgainstMove_25 (by decide) ?_
      exact hE _ _ _ _ dX8_reasonAgainstMove_26 ⟨h, rfl⟩
  · have h := h.2 c_1
    refine q_iconst (v := 1) X dX8_reasonAgainstMove_8 (by decide) ?_
    exact hE _ _ _ _ dX8_reasonAgainstMove_9 ⟨h, rfl⟩
