theorem dL_tryChamber_0 : decode cL_tryChamber 0 = .ok (.aload_n 0, 1) := by decide +kernel
theorem dL_tryChamber_1 : decode cL_tryChamber 1 = .ok (.iload_n 1, 1) := by decide +kernel
theorem dL_tryChamber_2 : decode cL_tryChamber 2 = .ok (.invokevirtual 97, 3) := by decide +kernel
theorem dL_tryChamber_5 : decode cL_tryChamber 5 = .ok (.ireturn, 1) := by decide +kernel
theorem dL_tryChamber_6 : decode cL_tryChamber 6 = .ok (.astore_n 2, 1) := by decide +kernel
theorem dL_tryChamber_7 : decode cL_tryChamber 7 = .ok (.ldc 28, 2) := by decide +kernel
theorem dL_tryChamber_9 : decode cL_tryChamber 9 = .ok (.ireturn, 1) := by decide +kernel
def rm_L_tryChamber : Room := { frames := 8, cells := 2, slots := 12, locals := 133 }
theorem hy_L_tryChamber : yL_tryChamber.cls = RL ∧ yL_tryChamber.cls ≠ "java/lang/invoke/MethodHandle" ∧ yL_tryChamber.cls ≠ "java/lang/invoke/VarHandle" ∧ (parseMethodDescriptor yL_tryChamber.desc).map (fun d => d.parameters.length) = some 2 := by decide +kernel
set_option maxRecDepth 100000 in
set_option maxHeartbeats 4000000 in
theorem k_L_tryChamber {l : Launch} {D : va_G} {cA : Nat → ClassId} {ad : Bool → Nat → Nat → Nat} {A : Bool → Nat → Prop} (ha : AG ad A) (hst : l.stackTraces = false) (o : Bool) (p0 : Int32) (g : Gh) (hk : g.2 ≤ 2400) : Met l yL_tryChamber (.codeWith yL_tryChamber cL_tryChamber 3 (some .int) [(0, 5, 6, 26)] :: TG) rm_L_tryChamber (PcG D cA ad A [.ref (ad o 0 1), .int p0] g) (QcG D cA ad A (fun r g' => r = y_tryChamber p0 (g.1 o) ∧ g' = g)) 2 12 (AU A) := by
  refine enterG pl_L rfl (Nat.le_of_ble_eq_true rfl) ?_
  intro p e s m args below meth c QQ X htab hW hZ hE
  refine q_aload_n (j := 0) X dL_tryChamber_0 rfl rfl ?_
  refine q_iload_n (j := 1) X dL_tryChamber_1 rfl rfl ?_
  refine qG_call X hW hZ ha o (t := tEnt (g.1 o).1 p0) (val := en (g.1 o).1 (fiE (g.1 o).1 p0) 4) (nm := (g.1 o)) (dk := 0) (Qp := (fun mo r m1 => (tEnt (g.1 o).1 p0 = 0 ∧ r = en (g.1 o).1 (fiE (g.1 o).1 p0) 4) ∧ mo = m1)) (Xp := fun _ => (fun k0 m1 => k0 = tEnt (g.1 o).1 p0 ∧ ¬ tEnt (g.1 o).1 p0 = 0 ∧ RelN g.2 m1 (g.1 o))) [.int p0] [] rfl rfl (Nat.le_of_ble_eq_true rfl) dL_tryChamber_2 ⟨(Nat.le_of_ble_eq_true rfl), (Nat.le_of_ble_eq_true rfl)⟩ hk (fun mo hmo => c_X9_chamberOf (ha.1 o) hst p0 mo _ _ (n_chamberOf hmo.rs hmo.inv p0 _ _ (fun ht => ⟨ht, rfl⟩) (fun ht => ⟨rfl, ht, hmo⟩))) (fun mo r m1 hr h => ⟨h.1.1, h.1.2, by rw [← h.2]; exact hr⟩) (fun _ _ _ _ h => h) rfl rfl (gV kw_4_184 kw_4_185 kw_4_186 kw_1_1 kw_4_187) hy_X9_chamberOf ⟨(Nat.le_of_ble_eq_true rfl), (Nat.le_of_ble_eq_true rfl)⟩ (fun hx => ?_) (fun hz => ?_)
  · have h9 : tEnt (g.1 o).1 p0 = 0 ∨ tEnt (g.1 o).1 p0 = 1 := by unfold tEnt; (repeat' split) <;> decide
    rcases h9 with h9 | h9
    · exact absurd h9 hx
    · skip
      rw [h9]
      refine ⟨6, by decide, Ct1 (k1 := 1) htab rfl (by decide) (by decide) (X.2.2.2.2 _ kw_3_94), fun q => ?_⟩
      refine q_astore_n X dL_tryChamber_6 rfl (Nat.le_of_ble_eq_true rfl) rfl ?_
      refine q_ldc (v := -9999001) X kw_3_145 dL_tryChamber_7 ?_
      exact hE _ _ _ _ _ _ dL_tryChamber_9 (Nat.le_of_ble_eq_true rfl) (Nat.le_of_ble_eq_true rfl) ⟨by unfold y_tryChamber; rw [if_neg hx, h9]; rfl, rfl⟩
  · rw [gz_id]
    exact hE _ _ _ _ _ _ dL_tryChamber_5 (Nat.le_of_ble_eq_true rfl) (Nat.le_of_ble_eq_true rfl) ⟨by unfold y_tryChamber; rw [if_pos hz], rfl⟩
theorem dL_tryAge_0 : decode cL_tryAge 0 = .ok (.aload_n 0, 1) := by decide +kernel
theorem dL_tryAge_1 : decode cL_tryAge 1 = .ok (.iload_n 1, 1) := by decide +kernel
theorem dL_tryAge_2 : decode cL_tryAge 2 = .ok (.invokevirtual 100, 3) := by decide +kernel
theorem dL_tryAge_5 : decode cL_tryAge 5 = .ok (.ireturn, 1) := by decide +kernel
theorem dL_tryAge_6 : decode cL_tryAge 6 = .ok (.astore_n 2, 1) := by decide +kernel
theorem dL_tryAge_7 : decode cL_tryAge 7 = .ok (.ldc 28, 2) := by decide +kernel
theorem dL_tryAge_9 : decode cL_tryAge 9 = .ok (.ireturn, 1) := by decide +kernel
def rm_L_tryAge : Room := { frames := 8, cells := 2, slots := 12, locals := 133 }
theorem hy_L_tryAge : yL_tryAge.cls = RL ∧ yL_tryAge.cls ≠ "java/lang/invoke/MethodHandle" ∧ yL_tryAge.cls ≠ "java/lang/invoke/VarHandle" ∧ (parseMethodDescriptor yL_tryAge.desc).map (fun d => d.parameters.length) = some 2 := by decide +kernel
set_option maxRecDepth 100000 in
set_option maxHeartbeats 4000000 in
theorem k_L_tryAge {l : Launch} {D : va_G} {cA : Nat → ClassId} {ad : Bool → Nat → Nat → Nat} {A : Bool → Nat → Prop} (ha : AG ad A) (hst : l.stackTraces = false) (o : Bool) (p0 : Int32) (g : Gh) (hk : g.2 ≤ 2400) : Met l yL_tryAge (.codeWith yL_tryAge cL_tryAge 3 (some .int) [(0, 5, 6, 26)] :: TG) rm_L_tryAge (PcG D cA ad A [.ref (ad o 0 1), .int p0] g) (QcG D cA ad A (fun r g' => r = y_tryAge p0 (g.1 o) ∧ g' = g)) 2 12 (AU A) := by
  refine enterG pl_L rfl (Nat.le_of_ble_eq_true rfl) ?_
  intro p e s m args below meth c QQ X htab hW hZ hE
  refine q_aload_n (j := 0) X dL_tryAge_0 rfl rfl ?_
  refine q_iload_n (j := 1) X dL_tryAge_1 rfl rfl ?_
  refine qG_call X hW hZ ha o (t := tEnt (g.1 o).1 p0) (val := en (g.1 o).1 (fiE (g.1 o).1 p0) 5) (nm := (g.1 o)) (dk := 0) (Qp := (fun mo r m1 => (tEnt (g.1 o).1 p0 = 0 ∧ r = en (g.1 o).1 (fiE (g.1 o).1 p0) 5) ∧ mo = m1)) (Xp := fun _ => (fun k0 m1 => k0 = tEnt (g.1 o).1 p0 ∧ ¬ tEnt (g.1 o).1 p0 = 0 ∧ RelN g.2 m1 (g.1 o))) [.int p0] [] rfl rfl (Nat.le_of_ble_eq_true rfl) dL_tryAge_2 ⟨(Nat.le_of_ble_eq_true rfl), (Nat.le_of_ble_eq_true rfl)⟩ hk (fun mo hmo => c_X9_ageOf (ha.1 o) hst p0 mo _ _ (n_ageOf hmo.rs hmo.inv p0 _ _ (fun ht => ⟨ht, rfl⟩) (fun ht => ⟨rfl, ht, hmo⟩))) (fun mo r m1 hr h => ⟨h.1.1, h.1.2, by rw [← h.2]; exact hr⟩) (fun _ _ _ _ h => h) rfl rfl (gV kw_4_191 kw_4_192 kw_4_193 kw_1_1 kw_4_194) hy_X9_ageOf ⟨(Nat.le_of_ble_eq_true rfl), (Nat.le_of_ble_eq_true rfl)⟩ (fun hx => ?_) (fun hz => ?_)
  · have h9 : tEnt (g.1 o).1 p0 = 0 ∨ tEnt (g.1 o).1 p0 = 1 := by unfold tEnt; (repeat' split) <;> decide
    rcases h9 with h9 | h9
    · exact absurd h9 hx
    · skip
      rw [h9]
      refine ⟨6, by decide, Ct1 (k1 := 1) htab rfl (by decide) (by decide) (X.2.2.2.2 _ kw_3_94), fun q => ?_⟩
      refine q_astore_n X dL_tryAge_6 rfl (Nat.le_of_ble_eq_true rfl) rfl ?_
      refine q_ldc (v := -9999001) X kw_3_145 dL_tryAge_7 ?_
      exact hE _ _ _ _ _ _ dL_tryAge_9 (Nat.le_of_ble_eq_true rfl) (Nat.le_of_ble_eq_true rfl) ⟨by unfold y_tryAge; rw [if_neg hx, h9]; rfl, rfl⟩
  · rw [gz_id]
    exact hE _ _ _ _ _ _ dL_tryAge_5 (Nat.le_of_ble_eq_true rfl) (Nat.le_of_ble_eq_true rfl) ⟨by unfold y_tryAge; rw [if_pos hz], rfl⟩
theorem dL_tryPart_0 : decode cL_tryPart 0 = .ok (.aload_n 0, 1) := by decide +kernel
theorem dL_tryPart_1 : decode cL_tryPart 1 = .ok (.iload_n 1, 1) := by decide +kernel
theorem dL_tryPart_2 : decode cL_tryPart 2 = .ok (.iload_n 2, 1) := by decide +kernel
theorem dL_tryPart_3 : decode cL_tryPart 3 = .ok (.invokevirtual 103, 3) := by decide +kernel
theorem dL_tryPart_6 : decode cL_tryPart 6 = .ok (.ireturn, 1) := by decide +kernel
theorem dL_tryPart_7 : decode cL_tryPart 7 = .ok (.astore_n 3, 1) := by decide +kernel
theorem dL_tryPart_8 : decode cL_tryPart 8 = .ok (.ldc 28, 2) := by decide +kernel
theorem dL_tryPart_10 : decode cL_tryPart 10 = .ok (.ireturn, 1) := by decide +kernel
theorem dL_tryPart_11 : decode cL_tryPart 11 = .ok (.astore_n 3, 1) := by decide +kernel
theorem dL_tryPart_12 : decode cL_tryPart 12 = .ok (.ldc 15, 2) := by decide +kernel
theorem dL_tryPart_14 : decode cL_tryPart 14 = .ok (.ireturn, 1) := by decide +kernel
def rm_L_tryPart : Room := { frames := 8, cells := 2, slots := 12, locals := 135 }
theorem hy_L_tryPart : yL_tryPart.cls = RL ∧ yL_tryPart.cls ≠ "java/lang/invoke/MethodHandle" ∧ yL_tryPart.cls ≠ "java/lang/invoke/VarHandle" ∧ (parseMethodDescriptor yL_tryPart.desc).map (fun d => d.parameters.length) = some 3 := by decide +kernel
set_option maxRecDepth 100000 in
set_option maxHeartbeats 4000000 in
theorem k_L_tryPart {l : Launch} {D : va_G} {cA : Nat → ClassId} {ad : Bool → Nat → Nat → Nat} {A : Bool → Nat → Prop} (ha : AG ad A) (hst : l.stackTraces = false) (o : Bool) (p0 : Int32) (p1 : Int32) (g : Gh) (hk : g.2 ≤ 2400) : Met l yL_tryPart (.codeWith yL_tryPart cL_tryPart 4 (some .int) [(0, 6, 7, 26), (0, 6, 11, 13)] :: TG) rm_L_tryPart (PcG D cA ad A [.ref (ad o 0 1), .int p0, .int p1] g) (QcG D cA ad A (fun r g' => r = y_tryPart p0 p1 (g.1 o) ∧ g' = g)) 2 12 (AU A) := by
  refine enterG pl_L rfl (Nat.le_of_ble_eq_true rfl) ?_
  intro p e s m args below meth c QQ X htab hW hZ hE
  refine q_aload_n (j := 0) X dL_tryPart_0 rfl rfl ?_
  refine q_iload_n (j := 1) X dL_tryPart_1 rfl rfl ?_
  refine q_iload_n (j := 2) X dL_tryPart_2 rfl rfl ?_
  refine qG_call X hW hZ ha o (t := tPart (g.1 o).1 p0 p1) (val := dutyPF (g.1 o).1 (fiE (g.1 o).1 p0) p1) (nm := (g.1 o)) (dk := 0) (Qp := (fun mo r m1 => (tPart (g.1 o).1 p0 p1 = 0 ∧ r = dutyPF (g.1 o).1 (fiE (g.1 o).1 p0) p1) ∧ mo = m1)) (Xp := fun _ => (fun k0 m1 => k0 = tPart (g.1 o).1 p0 p1 ∧ ¬ tPart (g.1 o).1 p0 p1 = 0 ∧ RelN g.2 m1 (g.1 o))) [.int p0, .int p1] [] rfl rfl (Nat.le_of_ble_eq_true rfl) dL_tryPart_3 ⟨(Nat.le_of_ble_eq_true rfl), (Nat.le_of_ble_eq_true rfl)⟩ hk (fun mo hmo => c_X9_dutyOfPart (ha.1 o) hst p0 p1 mo _ _ (n_dutyOfPart hmo.rs hmo.inv p0 p1 _ _ (fun ht => ⟨ht, rfl⟩) (fun ht => ⟨rfl, ht, hmo⟩))) (fun mo r m1 hr h => ⟨h.1.1, h.1.2, by rw [← h.2]; exact hr⟩) (fun _ _ _ _ h => h) rfl rfl (gV kw_4_199 kw_4_200 kw_4_201 kw_1_1 kw_4_202) hy_X9_dutyOfPart ⟨(Nat.le_of_ble_eq_true rfl), (Nat.le_of_ble_eq_true rfl)⟩ (fun hx => ?_) (fun hz => ?_)
  · have h9 : tPart (g.1 o).1 p0 p1 = 0 ∨ tPart (g.1 o).1 p0 p1 = 1 ∨ tPart (g.1 o).1 p0 p1 = 2 := by unfold tPart; (repeat' split) <;> decide
    rcases h9 with h9 | h9 | h9
    · exact absurd h9 hx
    · skip
      rw [h9]
      refine ⟨7, by decide, Ct1 (k1 := 1) htab rfl (by decide) (by decide) (X.2.2.2.2 _ kw_3_94), fun q => ?_⟩
      refine q_astore_n X dL_tryPart_7 rfl (Nat.le_of_ble_eq_true rfl) rfl ?_
      refine q_ldc (v := -9999001) X kw_3_145 dL_tryPart_8 ?_
      exact hE _ _ _ _ _ _ dL_tryPart_10 (Nat.le_of_ble_eq_true rfl) (Nat.le_of_ble_eq_true rfl) ⟨by unfold y_tryPart; rw [if_neg hx, h9]; rfl, rfl⟩
    · skip
      rw [h9]
      refine ⟨11, by decide, Ct2 (k1 := 1) (k2 := 2) htab rfl (by decide) (by decide) (by decide) (X.2.2.2.2 _ kw_3_94) (X.2.2.2.2 _ kw_2_143) hW.2.1, fun q => ?_⟩
      refine q_astore_n X dL_tryPart_11 rfl (Nat.le_of_ble_eq_true rfl) rfl ?_
      refine q_ldc (v := -9999002) X kw_3_86 dL_tryPart_12 ?_
      exact hE _ _ _ _ _ _ dL_tryPart_14 (Nat.le_of_ble_eq_true rfl) (Nat.le_of_ble_eq_true rfl) ⟨by unfold y_tryPart; rw [if_neg hx, h9]; rfl, rfl⟩
  · rw [gz_id]
    exact hE _ _ _ _ _ _ dL_tryPart_6 (Nat.le_of_ble_eq_true rfl) (Nat.le_of_ble_eq_true rfl) ⟨by unfold y_tryPart; rw [if_pos hz], rfl⟩
theorem dL_tryDuty_0 : decode cL_tryDuty 0 = .ok (.aload_n 0, 1) := by decide +kernel
theorem dL_tryDuty_1 : decode cL_tryDuty 1 = .ok (.iload_n 1, 1) := by decide +kernel
theorem dL_tryDuty_2 : decode cL_tryDuty 2 = .ok (.invokevirtual 106, 3) := by decide +kernel
theorem dL_tryDuty_5 : decode cL_tryDuty 5 = .ok (.ireturn, 1) := by decide +kernel
theorem dL_tryDuty_6 : decode cL_tryDuty 6 = .ok (.astore_n 2, 1) := by decide +kernel
theorem dL_tryDuty_7 : decode cL_tryDuty 7 = .ok (.ldc 28, 2) := by decide +kernel
theorem dL_tryDuty_9 : decode cL_tryDuty 9 = .ok (.ireturn, 1) := by decide +kernel
def rm_L_tryDuty : Room := { frames := 8, cells := 2, slots := 12, locals := 134 }
theorem hy_L_tryDuty : yL_tryDuty.cls = RL ∧ yL_tryDuty.cls ≠ "java/lang/invoke/MethodHandle" ∧ yL_tryDuty.cls ≠ "java/lang/invoke/VarHandle" ∧ (parseMethodDescriptor yL_tryDuty.desc).map (fun d => d.parameters.length) = some 2 := by decide +kernel
set_option maxRecDepth 100000 in
set_option maxHeartbeats 4000000 in
theorem k_L_tryDuty {l : Launch} {D : va_G} {cA : Nat → ClassId} {ad : Bool → Nat → Nat → Nat} {A : Bool → Nat → Prop} (ha : AG ad A) (hst : l.stackTraces = false) (o : Bool) (p0 : Int32) (g : Gh) (hk : g.2 ≤ 2400) : Met l yL_tryDuty (.codeWith yL_tryDuty cL_tryDuty 3 (some .int) [(0, 5, 6, 26)] :: TG) rm_L_tryDuty (PcG D cA ad A [.ref (ad o 0 1), .int p0] g) (QcG D cA ad A (fun r g' => r = y_tryDuty p0 (g.1 o) ∧ g' = g)) 2 12 (AU A) := by
  refine enterG pl_L rfl (Nat.le_of_ble_eq_true rfl) ?_
  intro p e s m args below meth c QQ X htab hW hZ hE
  refine q_aload_n (j := 0) X dL_tryDuty_0 rfl rfl ?_
  refine q_iload_n (j := 1) X dL_tryDuty_1 rfl rfl ?_
  refine qG_call X hW hZ ha o (t := tEnt (g.1 o).1 p0) (val := dutyAF (g.1 o).1 (fiE (g.1 o).1 p0)) (nm := (g.1 o)) (dk := 0) (Qp := (fun mo r m1 => (tEnt (g.1 o).1 p0 = 0 ∧ r = dutyAF (g.1 o).1 (fiE (g.1 o).1 p0)) ∧ mo = m1)) (Xp := fun _ => (fun k0 m1 => k0 = tEnt (g.1 o).1 p0 ∧ ¬ tEnt (g.1 o).1 p0 = 0 ∧ RelN g.2 m1 (g.1 o))) [.int p0] [] rfl rfl (Nat.le_of_ble_eq_true rfl) dL_tryDuty_2 ⟨(Nat.le_of_ble_eq_true rfl), (Nat.le_of_ble_eq_true rfl)⟩ hk (fun mo hmo => c_X9_dutyOf (ha.1 o) hst p0 mo _ _ (n_dutyOf hmo.rs hmo.inv p0 _ _ (fun ht => ⟨ht, rfl⟩) (fun ht => ⟨rfl, ht, hmo⟩))) (fun mo r m1 hr h => ⟨h.1.1, h.1.2, by rw [← h.2]; exact hr⟩) (fun _ _ _ _ h => h) rfl rfl (gV kw_4_210 kw_4_211 kw_4_212 kw_1_1 kw_4_213) hy_X9_dutyOf ⟨(Nat.le_of_ble_eq_true rfl), (Nat.le_of_ble_eq_true rfl)⟩ (fun hx => ?_) (fun hz => ?_)
  · have h9 : tEnt (g.1 o).1 p0 = 0 ∨ tEnt (g.1 o).1 p0 = 1 := by unfold tEnt; (repeat' split) <;> decide
    rcases h9 with h9 | h9
    · exact absurd h9 hx
    · skip
      rw [h9]
      refine ⟨6, by decide, Ct1 (k1 := 1) htab rfl (by decide) (by decide) (X.2.2.2.2 _ kw_3_94), fun q => ?_⟩
      refine q_astore_n X dL_tryDuty_6 rfl (Nat.le_of_ble_eq_true rfl) rfl ?_
      refine q_ldc (v := -9999001) X kw_3_145 dL_tryDuty_7 ?_
      exact hE _ _ _ _ _ _ dL_tryDuty_9 (Nat.le_of_ble_eq_true rfl) (Nat.le_of_ble_eq_true rfl) ⟨by unfold y_tryDuty; rw [if_neg hx, h9]; rfl, rfl⟩
  · rw [gz_id]
    exact hE _ _ _ _ _ _ dL_tryDuty_5 (Nat.le_of_ble_eq_true rfl) (Nat.le_of_ble_eq_true rfl) ⟨by unfold y_tryDuty; rw [if_pos hz], rfl⟩
theorem dL_tryAllowed_0 : decode cL_tryAllowed 0 = .ok (.aload_n 0, 1) := by decide +kernel
theorem dL_tryAllowed_1 : decode cL_tryAllowed 1 = .ok (.iload_n 1, 1) := by decide +kernel
theorem dL_tryAllowed_2 : decode cL_tryAllowed 2 = .ok (.invokevirtual 109, 3) := by decide +kernel
theorem dL_tryAllowed_5 : decode cL_tryAllowed 5 = .ok (.ireturn, 1) := by decide +kernel
theorem dL_tryAllowed_6 : decode cL_tryAllowed 6 = .ok (.astore_n 2, 1) := by decide +kernel
theorem dL_tryAllowed_7 : decode cL_tryAllowed 7 = .ok (.ldc 28, 2) := by decide +kernel
theorem dL_tryAllowed_9 : decode cL_tryAllowed 9 = .ok (.ireturn, 1) := by decide +kernel
def rm_L_tryAllowed : Room := { frames := 8, cells := 2, slots := 12, locals := 133 }
theorem hy_L_tryAllowed : yL_tryAllowed.cls = RL ∧ yL_tryAllowed.cls ≠ "java/lang/invoke/MethodHandle" ∧ yL_tryAllowed.cls ≠ "java/lang/invoke/VarHandle" ∧ (parseMethodDescriptor yL_tryAllowed.desc).map (fun d => d.parameters.length) = some 2 := by decide +kernel
set_option maxRecDepth 100000 in
set_option maxHeartbeats 4000000 in
theorem k_L_tryAllowed {l : Launch} {D : va_G} {cA : Nat → ClassId} {ad : Bool → Nat → Nat → Nat} {A : Bool → Nat → Prop} (ha : AG ad A) (hst : l.stackTraces = false) (o : Bool) (p0 : Int32) (g : Gh) (hk : g.2 ≤ 2400) : Met l yL_tryAllowed (.codeWith yL_tryAllowed cL_tryAllowed 3 (some .int) [(0, 5, 6, 26)] :: TG) rm_L_tryAllowed (PcG D cA ad A [.ref (ad o 0 1), .int p0] g) (QcG D cA ad A (fun r g' => r = y_tryAllowed p0 (g.1 o) ∧ g' = g)) 2 12 (AU A) := by
  refine enterG pl_L rfl (Nat.le_of_ble_eq_true rfl) ?_
  intro p e s m args below meth c QQ X htab hW hZ hE
  refine q_aload_n (j := 0) X dL_tryAllowed_0 rfl rfl ?_
  refine q_iload_n (j := 1) X dL_tryAllowed_1 rfl rfl ?_
  refine qG_call X hW hZ ha o (t := tEnt (g.1 o).1 p0) (val := allowF (g.1 o).1 (fiE (g.1 o).1 p0)) (nm := (g.1 o)) (dk := 0) (Qp := (fun mo r m1 => (tEnt (g.1 o).1 p0 = 0 ∧ r = allowF (g.1 o).1 (fiE (g.1 o).1 p0)) ∧ mo = m1)) (Xp := fun _ => (fun k0 m1 => k0 = tEnt (g.1 o).1 p0 ∧ ¬ tEnt (g.1 o).1 p0 = 0 ∧ RelN g.2 m1 (g.1 o))) [.int p0] [] rfl rfl (Nat.le_of_ble_eq_true rfl) dL_tryAllowed_2 ⟨(Nat.le_of_ble_eq_true rfl), (Nat.le_of_ble_eq_true rfl)⟩ hk (fun mo hmo => c_X9_allowedWaste (ha.1 o) hst p0 mo _ _ (n_allowedWaste hmo.rs hmo.inv p0 _ _ (fun ht => ⟨ht, rfl⟩) (fun ht => ⟨rfl, ht, hmo⟩))) (fun mo r m1 hr h => ⟨h.1.1, h.1.2, by rw [← h.2]; exact hr⟩) (fun _ _ _ _ h => h) rfl rfl (gV kw_4_218 kw_4_219 kw_4_220 kw_1_1 kw_4_221) hy_X9_allowedWaste ⟨(Nat.le_of_ble_eq_true rfl), (Nat.le_of_ble_eq_true rfl)⟩ (fun hx => ?_) (fun hz => ?_)
  · have h9 : tEnt (g.1 o).1 p0 = 0 ∨ tEnt (g.1 o).1 p0 = 1 := by unfold tEnt; (repeat' split) <;> decide
    rcases h9 with h9 | h9
    · exact absurd h9 hx
    · skip
      rw [h9]
      refine ⟨6, by decide, Ct1 (k1 := 1) htab rfl (by decide) (by decide) (X.2.2.2.2 _ kw_3_94), fun q => ?_⟩
      refine q_astore_n X dL_tryAllowed_6 rfl (Nat.le_of_ble_eq_true rfl) rfl ?_
      refine q_ldc (v := -9999001) X kw_3_145 dL_tryAllowed_7 ?_
      exact hE _ _ _ _ _ _ dL_tryAllowed_9 (Nat.le_of_ble_eq_true rfl) (Nat.le_of_ble_eq_true rfl) ⟨by unfold y_tryAllowed; rw [if_neg hx, h9]; rfl, rfl⟩
  · rw [gz_id]
    exact hE _ _ _ _ _ _ dL_tryAllowed_5 (Nat.le_of_ble_eq_true rfl) (Nat.le_of_ble_eq_true rfl) ⟨by unfold y_tryAllowed; rw [if_pos hz], rfl⟩
theorem dL_trySeal_0 : decode cL_trySeal 0 = .ok (.aload_n 0, 1) := by decide +kernel
theorem dL_trySeal_1 : decode cL_trySeal 1 = .ok (.iload_n 1, 1) := by decide +kernel
theorem dL_trySeal_2 : decode cL_trySeal 2 = .ok (.invokevirtual 112, 3) := by decide +kernel
theorem dL_trySeal_5 : decode cL_trySeal 5 = .ok (.ireturn, 1) := by decide +kernel
theorem dL_trySeal_6 : decode cL_trySeal 6 = .ok (.astore_n 2, 1) := by decide +kernel
theorem dL_trySeal_7 : decode cL_trySeal 7 = .ok (.ldc 28, 2) := by decide +kernel
theorem dL_trySeal_9 : decode cL_trySeal 9 = .ok (.ireturn, 1) := by decide +kernel
def rm_L_trySeal : Room := { frames := 9, cells := 2, slots := 12, locals := 152 }
theorem hy_L_trySeal : yL_trySeal.cls = RL ∧ yL_trySeal.cls ≠ "java/lang/invoke/MethodHandle" ∧ yL_trySeal.cls ≠ "java/lang/invoke/VarHandle" ∧ (parseMethodDescriptor yL_trySeal.desc).map (fun d => d.parameters.length) = some 2 := by decide +kernel
set_option maxRecDepth 100000 in
set_option maxHeartbeats 4000000 in
theorem k_L_trySeal {l : Launch} {D : va_G} {cA : Nat → ClassId} {ad : Bool → Nat → Nat → Nat} {A : Bool → Nat → Prop} (ha : AG ad A) (hst : l.stackTraces = false) (o : Bool) (p0 : Int32) (g : Gh) (hk : g.2 ≤ 2400) : Met l yL_trySeal (.codeWith yL_trySeal cL_trySeal 3 (some .int) [(0, 5, 6, 26)] :: TG) rm_L_trySeal (PcG D cA ad A [.ref (ad o 0 1), .int p0] g) (QcG D cA ad A (fun r g' => r = y_trySeal p0 (g.1 o) ∧ g' = g)) 2 12 (AU A) := by
  refine enterG pl_L rfl (Nat.le_of_ble_eq_true rfl) ?_
  intro p e s m args below meth c QQ X htab hW hZ hE
  refine q_aload_n (j := 0) X dL_trySeal_0 rfl rfl ?_
  refine q_iload_n (j := 1) X dL_trySeal_1 rfl rfl ?_
  refine qG_call X hW hZ ha o (t := tCh p0) (val := slc ((g.1 o).1 (10 + p0.toNatClampNeg))) (nm := (g.1 o)) (dk := 0) (Qp := (fun mo r m1 => (tCh p0 = 0 ∧ r = slc ((g.1 o).1 (10 + p0.toNatClampNeg))) ∧ mo = m1)) (Xp := fun _ => (fun k0 m1 => k0 = tCh p0 ∧ ¬ tCh p0 = 0 ∧ RelN g.2 m1 (g.1 o))) [.int p0] [] rfl rfl (Nat.le_of_ble_eq_true rfl) dL_trySeal_2 ⟨(Nat.le_of_ble_eq_true rfl), (Nat.le_of_ble_eq_true rfl)⟩ hk (fun mo hmo => c_X9_sealOf (ha.1 o) hst p0 mo _ _ (n_sealOf hmo.rs hmo.inv p0 _ _ (fun ht => ⟨ht, rfl⟩) (fun ht => ⟨rfl, ht, hmo⟩))) (fun mo r m1 hr h => ⟨h.1.1, h.1.2, by rw [← h.2]; exact hr⟩) (fun _ _ _ _ h => h) rfl rfl (gV kw_4_226 kw_4_227 kw_4_228 kw_1_1 kw_4_229) hy_X9_sealOf ⟨(Nat.le_of_ble_eq_true rfl), (Nat.le_of_ble_eq_true rfl)⟩ (fun hx => ?_) (fun hz => ?_)
  · have h9 : tCh p0 = 0 ∨ tCh p0 = 1 := by unfold tCh; (repeat' split) <;> decide
    rcases h9 with h9 | h9
    · exact absurd h9 hx
    · skip
      rw [h9]
      refine ⟨6, by decide, Ct1 (k1 := 1) htab rfl (by decide) (by decide) (X.2.2.2.2 _ kw_3_94), fun q => ?_⟩
      refine q_astore_n X dL_trySeal_6 rfl (Nat.le_of_ble_eq_true rfl) rfl ?_
      refine q_ldc (v := -9999001) X kw_3_145 dL_trySeal_7 ?_
      exact hE _ _ _ _ _ _ dL_trySeal_9 (Nat.le_of_ble_eq_true rfl) (Nat.le_of_ble_eq_true rfl) ⟨by unfold y_trySeal; rw [if_neg hx, h9]; rfl, rfl⟩
  · rw [gz_id]
    exact hE _ _ _ _ _ _ dL_trySeal_5 (Nat.le_of_ble_eq_true rfl) (Nat.le_of_ble_eq_true rfl) ⟨by unfold y_trySeal; rw [if_pos hz], rfl⟩
theorem dL_tryRoom_0 : decode cL_tryRoom 0 = .ok (.aload_n 0, 1) := by decide +kernel
theorem dL_tryRoom_1 : decode cL_tryRoom 1 = .ok (.iload_n 1, 1) := by decide +kernel
theorem dL_tryRoom_2 : decode cL_tryRoom 2 = .ok (.invokevirtual 118, 3) := by decide +kernel
theorem dL_tryRoom_5 : decode cL_tryRoom 5 = .ok (.ireturn, 1) := by decide +kernel
theorem dL_tryRoom_6 : decode cL_tryRoom 6 = .ok (.astore_n 2, 1) := by decide +kernel
theorem dL_tryRoom_7 : decode cL_tryRoom 7 = .ok (.ldc 28, 2) := by decide +kernel
theorem dL_tryRoom_9 : decode cL_tryRoom 9 = .ok (.ireturn, 1) := by decide +kernel
def rm_L_tryRoom : Room := { frames := 8, cells := 2, slots := 12, locals := 131 }
theorem hy_L_tryRoom : yL_tryRoom.cls = RL ∧ yL_tryRoom.cls ≠ "java/lang/invoke/MethodHandle" ∧ yL_tryRoom.cls ≠ "java/lang/invoke/VarHandle" ∧ (parseMethodDescriptor yL_tryRoom.desc).map (fun d => d.parameters.length) = some 2 := by decide +kernel
set_option maxRecDepth 100000 in
set_option maxHeartbeats 4000000 in
theorem k_L_tryRoom {l : Launch} {D : va_G} {cA : Nat → ClassId} {ad : Bool → Nat → Nat → Nat} {A : Bool → Nat → Prop} (ha : AG ad A) (hst : l.stackTraces = false) (o : Bool) (p0 : Int32) (g : Gh) (hk : g.2 ≤ 2400) : Met l yL_tryRoom (.codeWith yL_tryRoom cL_tryRoom 3 (some .int) [(0, 5, 6, 26)] :: TG) rm_L_tryRoom (PcG D cA ad A [.ref (ad o 0 1), .int p0] g) (QcG D cA ad A (fun r g' => r = y_tryRoom p0 (g.1 o) ∧ g' = g)) 2 12 (AU A) := by
  refine enterG pl_L rfl (Nat.le_of_ble_eq_true rfl) ?_
  intro p e s m args below meth c QQ X htab hW hZ hE
  refine q_aload_n (j := 0) X dL_tryRoom_0 rfl rfl ?_
  refine q_iload_n (j := 1) X dL_tryRoom_1 rfl rfl ?_
  refine qG_call X hW hZ ha o (t := tCh p0) (val := roomF (g.1 o).1 p0) (nm := (g.1 o)) (dk := 0) (Qp := (fun mo r m1 => (tCh p0 = 0 ∧ r = roomF (g.1 o).1 p0) ∧ mo = m1)) (Xp := fun _ => (fun k0 m1 => k0 = tCh p0 ∧ ¬ tCh p0 = 0 ∧ RelN g.2 m1 (g.1 o))) [.int p0] [] rfl rfl (Nat.le_of_ble_eq_true rfl) dL_tryRoom_2 ⟨(Nat.le_of_ble_eq_true rfl), (Nat.le_of_ble_eq_true rfl)⟩ hk (fun mo hmo => c_X9_roomIn (ha.1 o) hst p0 mo _ _ (n_roomIn hmo.rs hmo.inv p0 _ _ (fun ht => ⟨ht, rfl⟩) (fun ht => ⟨rfl, ht, hmo⟩))) (fun mo r m1 hr h => ⟨h.1.1, h.1.2, by rw [← h.2]; exact hr⟩) (fun _ _ _ _ h => h) rfl rfl (gV kw_5_12 kw_5_13 kw_5_14 kw_1_1 kw_5_15) hy_X9_roomIn ⟨(Nat.le_of_ble_eq_true rfl), (Nat.le_of_ble_eq_true rfl)⟩ (fun hx => ?_) (fun hz => ?_)
  · have h9 : tCh p0 = 0 ∨ tCh p0 = 1 := by unfold tCh; (repeat' split) <;> decide
    rcases h9 with h9 | h9
    · exact absurd h9 hx
    · skip
      rw [h9]
      refine ⟨6, by decide, Ct1 (k1 := 1) htab rfl (by decide) (by decide) (X.2.2.2.2 _ kw_3_94), fun q => ?_⟩
      refine q_astore_n X dL_tryRoom_6 rfl (Nat.le_of_ble_eq_true rfl) rfl ?_
      refine q_ldc (v := -9999001) X kw_3_145 dL_tryRoom_7 ?_
      exact hE _ _ _ _ _ _ dL_tryRoom_9 (Nat.le_of_ble_eq_true rfl) (Nat.le_of_ble_eq_true rfl) ⟨by unfold y_tryRoom; rw [if_neg hx, h9]; rfl, rfl⟩
  · rw [gz_id]
    exact hE _ _ _ _ _ _ dL_tryRoom_5 (Nat.le_of_ble_eq_true rfl) (Nat.le_of_ble_eq_true rfl) ⟨by unfold y_tryRoom; rw [if_pos hz], rfl⟩
theorem dL_tryPaper_0 : decode cL_tryPaper 0 = .ok (.aload_n 0, 1) := by decide +kernel
theorem dL_tryPaper_1 : decode cL_tryPaper 1 = .ok (.iload_n 1, 1) := by decide +kernel
theorem dL_tryPaper_2 : decode cL_tryPaper 2 = .ok (.invokevirtual 124, 3) := by decide +kernel
theorem dL_tryPaper_5 : decode cL_tryPaper 5 = .ok (.ireturn, 1) := by decide +kernel
theorem dL_tryPaper_6 : decode cL_tryPaper 6 = .ok (.astore_n 2, 1) := by decide +kernel
theorem dL_tryPaper_7 : decode cL_tryPaper 7 = .ok (.ldc 28, 2) := by decide +kernel
theorem dL_tryPaper_9 : decode cL_tryPaper 9 = .ok (.ireturn, 1) := by decide +kernel
def rm_L_tryPaper : Room := { frames := 8, cells := 2, slots := 12, locals := 133 }
theorem hy_L_tryPaper : yL_tryPaper.cls = RL ∧ yL_tryPaper.cls ≠ "java/lang/invoke/MethodHandle" ∧ yL_tryPaper.cls ≠ "java/lang/invoke/VarHandle" ∧ (parseMethodDescriptor yL_tryPaper.desc).map (fun d => d.parameters.length) = some 2 := by decide +kernel
set_option maxRecDepth 100000 in
set_option maxHeartbeats 4000000 in
theorem k_L_tryPaper {l : Launch} {D : va_G} {cA : Nat → ClassId} {ad : Bool → Nat → Nat → Nat} {A : Bool → Nat → Prop} (ha : AG ad A) (hst : l.stackTraces = false) (o : Bool) (p0 : Int32) (g : Gh) (hk : g.2 ≤ 2400) : Met l yL_tryPaper (.codeWith yL_tryPaper cL_tryPaper 3 (some .int) [(0, 5, 6, 26)] :: TG) rm_L_tryPaper (PcG D cA ad A [.ref (ad o 0 1), .int p0] g) (QcG D cA ad A (fun r g' => r = y_tryPaper p0 (g.1 o) ∧ g' = g)) 2 12 (AU A) := by
  refine enterG pl_L rfl (Nat.le_of_ble_eq_true rfl) ?_
  intro p e s m args below meth c QQ X htab hW hZ hE
  refine q_aload_n (j := 0) X dL_tryPaper_0 rfl rfl ?_
  refine q_iload_n (j := 1) X dL_tryPaper_1 rfl rfl ?_
  refine qG_call X hW hZ ha o (t := tRec (g.1 o).1 p0) (val := rc (g.1 o).1 p0.toNatClampNeg 1) (nm := (g.1 o)) (dk := 0) (Qp := (fun mo r m1 => (tRec (g.1 o).1 p0 = 0 ∧ r = rc (g.1 o).1 p0.toNatClampNeg 1) ∧ mo = m1)) (Xp := fun _ => (fun k0 m1 => k0 = tRec (g.1 o).1 p0 ∧ ¬ tRec (g.1 o).1 p0 = 0 ∧ RelN g.2 m1 (g.1 o))) [.int p0] [] rfl rfl (Nat.le_of_ble_eq_true rfl) dL_tryPaper_2 ⟨(Nat.le_of_ble_eq_true rfl), (Nat.le_of_ble_eq_true rfl)⟩ hk (fun mo hmo => c_X9_receiptWeight (ha.1 o) hst p0 mo _ _ (n_receiptWeight hmo.rs hmo.inv p0 _ _ (fun ht => ⟨ht, rfl⟩) (fun ht => ⟨rfl, ht, hmo⟩))) (fun mo r m1 hr h => ⟨h.1.1, h.1.2, by rw [← h.2]; exact hr⟩) (fun _ _ _ _ h => h) rfl rfl (gV kw_5_33 kw_5_34 kw_5_35 kw_1_1 kw_5_36) hy_X9_receiptWeight ⟨(Nat.le_of_ble_eq_true rfl), (Nat.le_of_ble_eq_true rfl)⟩ (fun hx => ?_) (fun hz => ?_)
  · have h9 : tRec (g.1 o).1 p0 = 0 ∨ tRec (g.1 o).1 p0 = 1 := by unfold tRec; (repeat' split) <;> decide
    rcases h9 with h9 | h9
    · exact absurd h9 hx
    · skip
      rw [h9]
      refine ⟨6, by decide, Ct1 (k1 := 1) htab rfl (by decide) (by decide) (X.2.2.2.2 _ kw_3_94), fun q => ?_⟩
      refine q_astore_n X dL_tryPaper_6 rfl (Nat.le_of_ble_eq_true rfl) rfl ?_
      refine q_ldc (v := -9999001) X kw_3_145 dL_tryPaper_7 ?_
      exact hE _ _ _ _ _ _ dL_tryPaper_9 (Nat.le_of_ble_eq_true rfl) (Nat.le_of_ble_eq_true rfl) ⟨by unfold y_tryPaper; rw [if_neg hx, h9]; rfl, rfl⟩
  · rw [gz_id]
    exact hE _ _ _ _ _ _ dL_tryPaper_5 (Nat.le_of_ble_eq_true rfl) (Nat.le_of_ble_eq_true rfl) ⟨by unfold y_tryPaper; rw [if_pos hz], rfl⟩
theorem dL_tryPaperDuty_0 : decode cL_tryPaperDuty 0 = .ok (.aload_n 0, 1) := by decide +kernel
theorem dL_tryPaperDuty_1 : decode cL_tryPaperDuty 1 = .ok (.iload_n 1, 1) := by decide +kernel
theorem dL_tryPaperDuty_2 : decode cL_tryPaperDuty 2 = .ok (.invokevirtual 127, 3) := by decide +kernel
theorem dL_tryPaperDuty_5 : decode cL_tryPaperDuty 5 = .ok (.ireturn, 1) := by decide +kernel
theorem dL_tryPaperDuty_6 : decode cL_tryPaperDuty 6 = .ok (.astore_n 2, 1) := by decide +kernel
theorem dL_tryPaperDuty_7 : decode cL_tryPaperDuty 7 = .ok (.ldc 28, 2) := by decide +kernel
theorem dL_tryPaperDuty_9 : decode cL_tryPaperDuty 9 = .ok (.ireturn, 1) := by decide +kernel
def rm_L_tryPaperDuty : Room := { frames := 8, cells := 2, slots := 12, locals := 133 }
theorem hy_L_tryPaperDuty : yL_tryPaperDuty.cls = RL ∧ yL_tryPaperDuty.cls ≠ "java/lang/invoke/MethodHandle" ∧ yL_tryPaperDuty.cls ≠ "java/lang/invoke/VarHandle" ∧ (parseMethodDescriptor yL_tryPaperDuty.desc).map (fun d => d.parameters.length) = some 2 := by decide +kernel
set_option maxRecDepth 100000 in
set_option maxHeartbeats 4000000 in
theorem k_L_tryPaperDuty {l : Launch} {D : va_G} {cA : Nat → ClassId} {ad : Bool → Nat → Nat → Nat} {A : Bool → Nat → Prop} (ha : AG ad A) (hst : l.stackTraces = false) (o : Bool) (p0 : Int32) (g : Gh) (hk : g.2 ≤ 2400) : Met l yL_tryPaperDuty (.codeWith yL_tryPaperDuty cL_tryPaperDuty 3 (some .int) [(0, 5, 6, 26)] :: TG) rm_L_tryPaperDuty (PcG D cA ad A [.ref (ad o 0 1), .int p0] g) (QcG D cA ad A (fun r g' => r = y_tryPaperDuty p0 (g.1 o) ∧ g' = g)) 2 12 (AU A) := by
  refine enterG pl_L rfl (Nat.le_of_ble_eq_true rfl) ?_
  intro p e s m args below meth c QQ X htab hW hZ hE
  refine q_aload_n (j := 0) X dL_tryPaperDuty_0 rfl rfl ?_
  refine q_iload_n (j := 1) X dL_tryPaperDuty_1 rfl rfl ?_
  refine qG_call X hW hZ ha o (t := tRec (g.1 o).1 p0) (val := rc (g.1 o).1 p0.toNatClampNeg 2) (nm := (g.1 o)) (dk := 0) (Qp := (fun mo r m1 => (tRec (g.1 o).1 p0 = 0 ∧ r = rc (g.1 o).1 p0.toNatClampNeg 2) ∧ mo = m1)) (Xp := fun _ => (fun k0 m1 => k0 = tRec (g.1 o).1 p0 ∧ ¬ tRec (g.1 o).1 p0 = 0 ∧ RelN g.2 m1 (g.1 o))) [.int p0] [] rfl rfl (Nat.le_of_ble_eq_true rfl) dL_tryPaperDuty_2 ⟨(Nat.le_of_ble_eq_true rfl), (Nat.le_of_ble_eq_true rfl)⟩ hk (fun mo hmo => c_X9_receiptDuty (ha.1 o) hst p0 mo _ _ (n_receiptDuty hmo.rs hmo.inv p0 _ _ (fun ht => ⟨ht, rfl⟩) (fun ht => ⟨rfl, ht, hmo⟩))) (fun mo r m1 hr h => ⟨h.1.1, h.1.2, by rw [← h.2]; exact hr⟩) (fun _ _ _ _ h => h) rfl rfl (gV kw_5_40 kw_5_41 kw_5_42 kw_1_1 kw_5_43) hy_X9_receiptDuty ⟨(Nat.le_of_ble_eq_true rfl), (Nat.le_of_ble_eq_true rfl)⟩ (fun hx => ?_) (fun hz => ?_)
  · have h9 : tRec (g.1 o).1 p0 = 0 ∨ tRec (g.1 o).1 p0 = 1 := by unfold tRec; (repeat' split) <;> decide
    rcases h9 with h9 | h9
    · exact absurd h9 hx
    · skip
      rw [h9]
      refine ⟨6, by decide, Ct1 (k1 := 1) htab rfl (by decide) (by decide) (X.2.2.2.2 _ kw_3_94), fun q => ?_⟩
      refine q_astore_n X dL_tryPaperDuty_6 rfl (Nat.le_of_ble_eq_true rfl) rfl ?_
      refine q_ldc (v := -9999001) X kw_3_145 dL_tryPaperDuty_7 ?_
      exact hE _ _ _ _ _ _ dL_tryPaperDuty_9 (Nat.le_of_ble_eq_true rfl) (Nat.le_of_ble_eq_true rfl) ⟨by unfold y_tryPaperDuty; rw [if_neg hx, h9]; rfl, rfl⟩
  · rw [gz_id]
    exact hE _ _ _ _ _ _ dL_tryPaperDuty_5 (Nat.le_of_ble_eq_true rfl) (Nat.le_of_ble_eq_true rfl) ⟨by unfold y_tryPaperDuty; rw [if_pos hz], rfl⟩
theorem dL_tryPaperAge_0 : decode cL_tryPaperAge 0 = .ok (.aload_n 0, 1) := by decide +kernel
theorem dL_tryPaperAge_1 : decode cL_tryPaperAge 1 = .ok (.iload_n 1, 1) := by decide +kernel
theorem dL_tryPaperAge_2 : decode cL_tryPaperAge 2 = .ok (.invokevirtual 130, 3) := by decide +kernel
theorem dL_tryPaperAge_5 : decode cL_tryPaperAge 5 = .ok (.ireturn, 1) := by decide +kernel
theorem dL_tryPaperAge_6 : decode cL_tryPaperAge 6 = .ok (.astore_n 2, 1) := by decide +kernel
theorem dL_tryPaperAge_7 : decode cL_tryPaperAge 7 = .ok (.ldc 28, 2) := by decide +kernel
theorem dL_tryPaperAge_9 : decode cL_tryPaperAge 9 = .ok (.ireturn, 1) := by decide +kernel
def rm_L_tryPaperAge : Room := { frames := 8, cells := 2, slots := 12, locals := 133 }
theorem hy_L_tryPaperAge : yL_tryPaperAge.cls = RL ∧ yL_tryPaperAge.cls ≠ "java/lang/invoke/MethodHandle" ∧ yL_tryPaperAge.cls ≠ "java/lang/invoke/VarHandle" ∧ (parseMethodDescriptor yL_tryPaperAge.desc).map (fun d => d.parameters.length) = some 2 := by decide +kernel
set_option maxRecDepth 100000 in
set_option maxHeartbeats 4000000 in
theorem k_L_tryPaperAge {l : Launch} {D : va_G} {cA : Nat → ClassId} {ad : Bool → Nat → Nat → Nat} {A : Bool → Nat → Prop} (ha : AG ad A) (hst : l.stackTraces = false) (o : Bool) (p0 : Int32) (g : Gh) (hk : g.2 ≤ 2400) : Met l yL_tryPaperAge (.codeWith yL_tryPaperAge cL_tryPaperAge 3 (some .int) [(0, 5, 6, 26)] :: TG) rm_L_tryPaperAge (PcG D cA ad A [.ref (ad o 0 1), .int p0] g) (QcG D cA ad A (fun r g' => r = y_tryPaperAge p0 (g.1 o) ∧ g' = g)) 2 12 (AU A) := by
  refine enterG pl_L rfl (Nat.le_of_ble_eq_true rfl) ?_
  intro p e s m args below meth c QQ X htab hW hZ hE
  refine q_aload_n (j := 0) X dL_tryPaperAge_0 rfl rfl ?_
  refine q_iload_n (j := 1) X dL_tryPaperAge_1 rfl rfl ?_
  refine qG_call X hW hZ ha o (t := tRec (g.1 o).1 p0) (val := (g.1 o).1 0 - rc (g.1 o).1 p0.toNatClampNeg 3) (nm := (g.1 o)) (dk := 0) (Qp := (fun mo r m1 => (tRec (g.1 o).1 p0 = 0 ∧ r = (g.1 o).1 0 - rc (g.1 o).1 p0.toNatClampNeg 3) ∧ mo = m1)) (Xp := fun _ => (fun k0 m1 => k0 = tRec (g.1 o).1 p0 ∧ ¬ tRec (g.1 o).1 p0 = 0 ∧ RelN g.2 m1 (g.1 o))) [.int p0] [] rfl rfl (Nat.le_of_ble_eq_true rfl) dL_tryPaperAge_2 ⟨(Nat.le_of_ble_eq_true rfl), (Nat.le_of_ble_eq_true rfl)⟩ hk (fun mo hmo => c_X9_receiptAge (ha.1 o) hst p0 mo _ _ (n_receiptAge hmo.rs hmo.inv p0 _ _ (fun ht => ⟨ht, rfl⟩) (fun ht => ⟨rfl, ht, hmo⟩))) (fun mo r m1 hr h => ⟨h.1.1, h.1.2, by rw [← h.2]; exact hr⟩) (fun _ _ _ _ h => h) rfl rfl (gV kw_5_47 kw_5_48 kw_5_49 kw_1_1 kw_5_50) hy_X9_receiptAge ⟨(Nat.le_of_ble_eq_true rfl), (Nat.le_of_ble_eq_true rfl)⟩ (fun hx => ?_) (fun hz => ?_)
  · have h9 : tRec (g.1 o).1 p0 = 0 ∨ tRec (g.1 o).1 p0 = 1 := by unfold tRec; (repeat' split) <;> decide
    rcases h9 with h9 | h9
    · exact absurd h9 hx
    · skip
      rw [h9]
      refine ⟨6, by decide, Ct1 (k1 := 1) htab rfl (by decide) (by decide) (X.2.2.2.2 _ kw_3_94), fun q => ?_⟩
      refine q_astore_n X dL_tryPaperAge_6 rfl (Nat.le_of_ble_eq_true rfl) rfl ?_
      refine q_ldc (v := -9999001) X kw_3_145 dL_tryPaperAge_7 ?_
      exact hE _ _ _ _ _ _ dL_tryPaperAge_9 (Nat.le_of_ble_eq_true rfl) (Nat.le_of_ble_eq_true rfl) ⟨by unfold y_tryPaperAge; rw [if_neg hx, h9]; rfl, rfl⟩
  · rw [gz_id]
    exact hE _ _ _ _ _ _ dL_tryPaperAge_5 (Nat.le_of_ble_eq_true rfl) (Nat.le_of_ble_eq_true rfl) ⟨by unfold y_tryPaperAge; rw [if_pos hz], rfl⟩
theorem dL_tryByValue_0 : decode cL_tryByValue 0 = .ok (.aload_n 0, 1) := by decide +kernel
theorem dL_tryByValue_1 : decode cL_tryByValue 1 = .ok (.iload_n 1, 1) := by decide +kernel
theorem dL_tryByValue_2 : decode cL_tryByValue 2 = .ok (.invokevirtual 133, 3) := by decide +kernel
theorem dL_tryByValue_5 : decode cL_tryByValue 5 = .ok (.ireturn, 1) := by decide +kernel
theorem dL_tryByValue_6 : decode cL_tryByValue 6 = .ok (.astore_n 2, 1) := by decide +kernel
theorem dL_tryByValue_7 : decode cL_tryByValue 7 = .ok (.ldc 15, 2) := by decide +kernel
theorem dL_tryByValue_9 : decode cL_tryByValue 9 = .ok (.ireturn, 1) := by decide +kernel
def rm_L_tryByValue : Room := { frames := 9, cells := 2, slots := 12, locals := 154 }
theorem hy_L_tryByValue : yL_tryByValue.cls = RL ∧ yL_tryByValue.cls ≠ "java/lang/invoke/MethodHandle" ∧ yL_tryByValue.cls ≠ "java/lang/invoke/VarHandle" ∧ (parseMethodDescriptor yL_tryByValue.desc).map (fun d => d.parameters.length) = some 2 := by decide +kernel
set_option maxRecDepth 100000 in
set_option maxHeartbeats 4000000 in
theorem k_L_tryByValue {l : Launch} {D : va_G} {cA : Nat → ClassId} {ad : Bool → Nat → Nat → Nat} {A : Bool → Nat → Prop} (ha : AG ad A) (hst : l.stackTraces = false) (o : Bool) (p0 : Int32) (g : Gh) (hk : g.2 ≤ 2400) : Met l yL_tryByValue (.codeWith yL_tryByValue cL_tryByValue 3 (some .int) [(0, 5, 6, 13)] :: TG) rm_L_tryByValue (PcG D cA ad A [.ref (ad o 0 1), .int p0] g) (QcG D cA ad A (fun r g' => r = y_tryByValue p0 (g.1 o) ∧ g' = g)) 2 12 (AU A) := by
  refine enterG pl_L rfl (Nat.le_of_ble_eq_true rfl) ?_
  intro p e s m args below meth c QQ X htab hW hZ hE
  refine q_aload_n (j := 0) X dL_tryByValue_0 rfl rfl ?_
  refine q_iload_n (j := 1) X dL_tryByValue_1 rfl rfl ?_
  refine qG_call X hW hZ ha o (t := tKd p0) (val := (g.1 o).1 (20 + p0.toNatClampNeg)) (nm := (g.1 o)) (dk := 0) (Qp := (fun mo r m1 => (tKd p0 = 0 ∧ r = (g.1 o).1 (20 + p0.toNatClampNeg)) ∧ mo = m1)) (Xp := fun _ => (fun k0 m1 => k0 = tKd p0 ∧ ¬ tKd p0 = 0 ∧ RelN g.2 m1 (g.1 o))) [.int p0] [] rfl rfl (Nat.le_of_ble_eq_true rfl) dL_tryByValue_2 ⟨(Nat.le_of_ble_eq_true rfl), (Nat.le_of_ble_eq_true rfl)⟩ hk (fun mo hmo => c_X9_rateByValue (ha.1 o) hst p0 mo _ _ (n_rateByValue hmo.rs hmo.inv p0 _ _ (fun ht => ⟨ht, rfl⟩) (fun ht => ⟨rfl, ht, hmo⟩))) (fun mo r m1 hr h => ⟨h.1.1, h.1.2, by rw [← h.2]; exact hr⟩) (fun _ _ _ _ h => h) rfl rfl (gV kw_5_54 kw_5_55 kw_5_56 kw_1_1 kw_5_57) hy_X9_rateByValue ⟨(Nat.le_of_ble_eq_true rfl), (Nat.le_of_ble_eq_true rfl)⟩ (fun hx => ?_) (fun hz => ?_)
  · have h9 : tKd p0 = 0 ∨ tKd p0 = 2 := by unfold tKd; (repeat' split) <;> decide
    rcases h9 with h9 | h9
    · exact absurd h9 hx
    · skip
      rw [h9]
      refine ⟨6, by decide, Ct1 (k1 := 2) htab rfl (by decide) (by decide) (X.2.2.2.2 _ kw_2_143), fun q => ?_⟩
      refine q_astore_n X dL_tryByValue_6 rfl (Nat.le_of_ble_eq_true rfl) rfl ?_
      refine q_ldc (v := -9999002) X kw_3_86 dL_tryByValue_7 ?_
      exact hE _ _ _ _ _ _ dL_tryByValue_9 (Nat.le_of_ble_eq_true rfl) (Nat.le_of_ble_eq_true rfl) ⟨by unfold y_tryByValue; rw [if_neg hx, h9]; rfl, rfl⟩
  · rw [gz_id]
    exact hE _ _ _ _ _ _ dL_tryByValue_5 (Nat.le_of_ble_eq_true rfl) (Nat.le_of_ble_eq_true rfl) ⟨by unfold y_tryByValue; rw [if_pos hz], rfl⟩
theorem dL_tryWithdrawn_0 : decode cL_tryWithdrawn 0 = .ok (.aload_n 0, 1) := by decide +kernel
theorem dL_tryWithdrawn_1 : decode cL_tryWithdrawn 1 = .ok (.iload_n 1, 1) := by decide +kernel
theorem dL_tryWithdrawn_2 : decode cL_tryWithdrawn 2 = .ok (.invokevirtual 142, 3) := by decide +kernel
theorem dL_tryWithdrawn_5 : decode cL_tryWithdrawn 5 = .ok (.ireturn, 1) := by decide +kernel
theorem dL_tryWithdrawn_6 : decode cL_tryWithdrawn 6 = .ok (.astore_n 2, 1) := by decide +kernel
theorem dL_tryWithdrawn_7 : decode cL_tryWithdrawn 7 = .ok (.ldc 15, 2) := by decide +kernel
theorem dL_tryWithdrawn_9 : decode cL_tryWithdrawn 9 = .ok (.ireturn, 1) := by decide +kernel
def rm_L_tryWithdrawn : Room := { frames := 9, cells := 2, slots := 12, locals := 154 }
theorem hy_L_tryWithdrawn : yL_tryWithdrawn.cls = RL ∧ yL_tryWithdrawn.cls ≠ "java/lang/invoke/MethodHandle" ∧ yL_tryWithdrawn.cls ≠ "java/lang/invoke/VarHandle" ∧ (parseMethodDescriptor yL_tryWithdrawn.desc).map (fun d => d.parameters.length) = some 2 := by decide +kernel
set_option maxRecDepth 100000 in
set_option maxHeartbeats 4000000 in
theorem k_L_tryWithdrawn {l : Launch} {D : va_G} {cA : Nat → ClassId} {ad : Bool → Nat → Nat → Nat} {A : Bool → Nat → Prop} (ha : AG ad A) (hst : l.stackTraces = false) (o : Bool) (p0 : Int32) (g : Gh) (hk : g.2 ≤ 2400) : Met l yL_tryWithdrawn (.codeWith yL_tryWithdrawn cL_tryWithdrawn 3 (some .int) [(0, 5, 6, 13)] :: TG) rm_L_tryWithdrawn (PcG D cA ad A [.ref (ad o 0 1), .int p0] g) (QcG D cA ad A (fun r g' => r = y_tryWithdrawn p0 (g.1 o) ∧ g' = g)) 2 12 (AU A) := by
  refine enterG pl_L rfl (Nat.le_of_ble_eq_true rfl) ?_
  intro p e s m args below meth c QQ X htab hW hZ hE
  refine q_aload_n (j := 0) X dL_tryWithdrawn_0 rfl rfl ?_
  refine q_iload_n (j := 1) X dL_tryWithdrawn_1 rfl rfl ?_
  refine qG_call X hW hZ ha o (t := tKd p0) (val := (g.1 o).1 (30 + 6 * p0.toNatClampNeg + 3)) (nm := (g.1 o)) (dk := 0) (Qp := (fun mo r m1 => (tKd p0 = 0 ∧ r = (g.1 o).1 (30 + 6 * p0.toNatClampNeg + 3)) ∧ mo = m1)) (Xp := fun _ => (fun k0 m1 => k0 = tKd p0 ∧ ¬ tKd p0 = 0 ∧ RelN g.2 m1 (g.1 o))) [.int p0] [] rfl rfl (Nat.le_of_ble_eq_true rfl) dL_tryWithdrawn_2 ⟨(Nat.le_of_ble_eq_true rfl), (Nat.le_of_ble_eq_true rfl)⟩ hk (fun mo hmo => c_X9_withdrawn (ha.1 o) hst p0 mo _ _ (n_withdrawn hmo.rs hmo.inv p0 _ _ (fun ht => ⟨ht, rfl⟩) (fun ht => ⟨rfl, ht, hmo⟩))) (fun mo r m1 hr h => ⟨h.1.1, h.1.2, by rw [← h.2]; exact hr⟩) (fun _ _ _ _ h => h) rfl rfl (gV kw_5_79 kw_5_80 kw_5_81 kw_1_1 kw_5_82) hy_X9_withdrawn ⟨(Nat.le_of_ble_eq_true rfl), (Nat.le_of_ble_eq_true rfl)⟩ (fun hx => ?_) (fun hz => ?_)
  · have h9 : tKd p0 = 0 ∨ tKd p0 = 2 := by unfold tKd; (repeat' split) <;> decide
    rcases h9 with h9 | h9
    · exact absurd h9 hx
    · skip
      rw [h9]
      refine ⟨6, by decide, Ct1 (k1 := 2) htab rfl (by decide) (by decide) (X.2.2.2.2 _ kw_2_143), fun q => ?_⟩
      refine q_astore_n X dL_tryWithdrawn_6 rfl (Nat.le_of_ble_eq_true rfl) rfl ?_
      refine q_ldc (v := -9999002) X kw_3_86 dL_tryWithdrawn_7 ?_
      exact hE _ _ _ _ _ _ dL_tryWithdrawn_9 (Nat.le_of_ble_eq_true rfl) (Nat.le_of_ble_eq_true rfl) ⟨by unfold y_tryWithdrawn; rw [if_neg hx, h9]; rfl, rfl⟩
  · rw [gz_id]
    exact hE _ _ _ _ _ _ dL_tryWithdrawn_5 (Nat.le_of_ble_eq_true rfl) (Nat.le_of_ble_eq_true rfl) ⟨by unfold y_tryWithdrawn; rw [if_pos hz], rfl⟩
theorem dL_tryWasted_0 : decode cL_tryWasted 0 = .ok (.aload_n 0, 1) := by decide +kernel
theorem dL_tryWasted_1 : decode cL_tryWasted 1 = .ok (.iload_n 1, 1) := by decide +kernel
theorem dL_tryWasted_2 : decode cL_tryWasted 2 = .ok (.invokevirtual 148, 3) := by decide +kernel
theorem dL_tryWasted_5 : decode cL_tryWasted 5 = .ok (.ireturn, 1) := by decide +kernel
theorem dL_tryWasted_6 : decode cL_tryWasted 6 = .ok (.astore_n 2, 1) := by decide +kernel
theorem dL_tryWasted_7 : decode cL_tryWasted 7 = .ok (.ldc 15, 2) := by decide +kernel
theorem dL_tryWasted_9 : decode cL_tryWasted 9 = .ok (.ireturn, 1) := by decide +kernel
def rm_L_tryWasted : Room := { frames := 9, cells := 2, slots := 12, locals := 154 }
theorem hy_L_tryWasted : yL_tryWasted.cls = RL ∧ yL_tryWasted.cls ≠ "java/lang/invoke/MethodHandle" ∧ yL_tryWasted.cls ≠ "java/lang/invoke/VarHandle" ∧ (parseMethodDescriptor yL_tryWasted.desc).map (fun d => d.parameters.length) = some 2 := by decide +kernel
set_option maxRecDepth 100000 in
set_option maxHeartbeats 4000000 in
theorem k_L_tryWasted {l : Launch} {D : va_G} {cA : Nat → ClassId} {ad : Bool → Nat → Nat → Nat} {A : Bool → Nat → Prop} (ha : AG ad A) (hst : l.stackTraces = false) (o : Bool) (p0 : Int32) (g : Gh) (hk : g.2 ≤ 2400) : Met l yL_tryWasted (.codeWith yL_tryWasted cL_tryWasted 3 (some .int) [(0, 5, 6, 13)] :: TG) rm_L_tryWasted (PcG D cA ad A [.ref (ad o 0 1), .int p0] g) (QcG D cA ad A (fun r g' => r = y_tryWasted p0 (g.1 o) ∧ g' = g)) 2 12 (AU A) := by
  refine enterG pl_L rfl (Nat.le_of_ble_eq_true rfl) ?_
  intro p e s m args below meth c QQ X htab hW hZ hE
  refine q_aload_n (j := 0) X dL_tryWasted_0 rfl rfl ?_
  refine q_iload_n (j := 1) X dL_tryWasted_1 rfl rfl ?_
  refine qG_call X hW hZ ha o (t := tKd p0) (val := (g.1 o).1 (30 + 6 * p0.toNatClampNeg + 5)) (nm := (g.1 o)) (dk := 0) (Qp := (fun mo r m1 => (tKd p0 = 0 ∧ r = (g.1 o).1 (30 + 6 * p0.toNatClampNeg + 5)) ∧ mo = m1)) (Xp := fun _ => (fun k0 m1 => k0 = tKd p0 ∧ ¬ tKd p0 = 0 ∧ RelN g.2 m1 (g.1 o))) [.int p0] [] rfl rfl (Nat.le_of_ble_eq_true rfl) dL_tryWasted_2 ⟨(Nat.le_of_ble_eq_true rfl), (Nat.le_of_ble_eq_true rfl)⟩ hk (fun mo hmo => c_X9_wasted (ha.1 o) hst p0 mo _ _ (n_wasted hmo.rs hmo.inv p0 _ _ (fun ht => ⟨ht, rfl⟩) (fun ht => ⟨rfl, ht, hmo⟩))) (fun mo r m1 hr h => ⟨h.1.1, h.1.2, by rw [← h.2]; exact hr⟩) (fun _ _ _ _ h => h) rfl rfl (gV kw_5_93 kw_5_94 kw_5_95 kw_1_1 kw_5_96) hy_X9_wasted ⟨(Nat.le_of_ble_eq_true rfl), (Nat.le_of_ble_eq_true rfl)⟩ (fun hx => ?_) (fun hz => ?_)
  · have h9 : tKd p0 = 0 ∨ tKd p0 = 2 := by unfold tKd; (repeat' split) <;> decide
    rcases h9 with h9 | h9
    · exact absurd h9 hx
    · skip
      rw [h9]
      refine ⟨6, by decide, Ct1 (k1 := 2) htab rfl (by decide) (by decide) (X.2.2.2.2 _ kw_2_143), fun q => ?_⟩
      refine q_astore_n X dL_tryWasted_6 rfl (Nat.le_of_ble_eq_true rfl) rfl ?_
      refine q_ldc (v := -9999002) X kw_3_86 dL_tryWasted_7 ?_
      exact hE _ _ _ _ _ _ dL_tryWasted_9 (Nat.le_of_ble_eq_true rfl) (Nat.le_of_ble_eq_true rfl) ⟨by unfold y_tryWasted; rw [if_neg hx, h9]; rfl, rfl⟩
  · rw [gz_id]
    exact hE _ _ _ _ _ _ dL_tryWasted_5 (Nat.le_of_ble_eq_true rfl) (Nat.le_of_ble_eq_true rfl) ⟨by unfold y_tryWasted; rw [if_pos hz], rfl⟩
theorem dL_tryLost_0 : decode cL_tryLost 0 = .ok (.aload_n 0, 1) := by decide +kernel
theorem dL_tryLost_1 : decode cL_tryLost 1 = .ok (.iload_n 1, 1) := by decide +kernel
theorem dL_tryLost_2 : decode cL_tryLost 2 = .ok (.invokevirtual 151, 3) := by decide +kernel
theorem dL_tryLost_5 : decode cL_tryLost 5 = .ok (.ireturn, 1) := by decide +kernel
theorem dL_tryLost_6 : decode cL_tryLost 6 = .ok (.astore_n 2, 1) := by decide +kernel
theorem dL_tryLost_7 : decode cL_tryLost 7 = .ok (.ldc 15, 2) := by decide +kernel
theorem dL_tryLost_9 : decode cL_tryLost 9 = .ok (.ireturn, 1) := by decide +kernel
def rm_L_tryLost : Room := { frames := 9, cells := 2, slots := 12, locals := 154 }
theorem hy_L_tryLost : yL_tryLost.cls = RL ∧ yL_tryLost.cls ≠ "java/lang/invoke/MethodHandle" ∧ yL_tryLost.cls ≠ "java/lang/invoke/VarHandle" ∧ (parseMethodDescriptor yL_tryLost.desc).map (fun d => d.parameters.length) = some 2 := by decide +kernel
set_option maxRecDepth 100000 in
set_option maxHeartbeats 4000000 in
theorem k_L_tryLost {l : Launch} {D : va_G} {cA : Nat → ClassId} {ad : Bool → Nat → Nat → Nat} {A : Bool → Nat → Prop} (ha : AG ad A) (hst : l.stackTraces = false) (o : Bool) (p0 : Int32) (g : Gh) (hk : g.2 ≤ 2400) : Met l yL_tryLost (.codeWith yL_tryLost cL_tryLost 3 (some .int) [(0, 5, 6, 13)] :: TG) rm_L_tryLost (PcG D cA ad A [.ref (ad o 0 1), .int p0] g) (QcG D cA ad A (fun r g' => r = y_tryLost p0 (g.1 o) ∧ g' = g)) 2 12 (AU A) := by
  refine enterG pl_L rfl (Nat.le_of_ble_eq_true rfl) ?_
  intro p e s m args below meth c QQ X htab hW hZ hE
  refine q_aload_n (j := 0) X dL_tryLost_0 rfl rfl ?_
  refine q_iload_n (j := 1) X dL_tryLost_1 rfl rfl ?_
  refine qG_call X hW hZ ha o (t := tKd p0) (val := (g.1 o).1 (30 + 6 * p0.toNatClampNeg + 6)) (nm := (g.1 o)) (dk := 0) (Qp := (fun mo r m1 => (tKd p0 = 0 ∧ r = (g.1 o).1 (30 + 6 * p0.toNatClampNeg + 6)) ∧ mo = m1)) (Xp := fun _ => (fun k0 m1 => k0 = tKd p0 ∧ ¬ tKd p0 = 0 ∧ RelN g.2 m1 (g.1 o))) [.int p0] [] rfl rfl (Nat.le_of_ble_eq_true rfl) dL_tryLost_2 ⟨(Nat.le_of_ble_eq_true rfl), (Nat.le_of_ble_eq_true rfl)⟩ hk (fun mo hmo => c_X9_lost (ha.1 o) hst p0 mo _ _ (n_lost hmo.rs hmo.inv p0 _ _ (fun ht => ⟨ht, rfl⟩) (fun ht => ⟨rfl, ht, hmo⟩))) (fun mo r m1 hr h => ⟨h.1.1, h.1.2, by rw [← h.2]; exact hr⟩) (fun _ _ _ _ h => h) rfl rfl (gV kw_5_100 kw_5_101 kw_5_102 kw_1_1 kw_5_103) hy_X9_lost ⟨(Nat.le_of_ble_eq_true rfl), (Nat.le_of_ble_eq_true rfl)⟩ (fun hx => ?_) (fun hz => ?_)
  · have h9 : tKd p0 = 0 ∨ tKd p0 = 2 := by unfold tKd; (repeat' split) <;> decide
    rcases h9 with h9 | h9
    · exact absurd h9 hx
    · skip
      rw [h9]
      refine ⟨6, by decide, Ct1 (k1 := 2) htab rfl (by decide) (by decide) (X.2.2.2.2 _ kw_2_143), fun q => ?_⟩
      refine q_astore_n X dL_tryLost_6 rfl (Nat.le_of_ble_eq_true rfl) rfl ?_
      refine q_ldc (v := -9999002) X kw_3_86 dL_tryLost_7 ?_
      exact hE _ _ _ _ _ _ dL_tryLost_9 (Nat.le_of_ble_eq_true rfl) (Nat.le_of_ble_eq_true rfl) ⟨by unfold y_tryLost; rw [if_neg hx, h9]; rfl, rfl⟩
  · rw [gz_id]
    exact hE _ _ _ _ _ _ dL_tryLost_5 (Nat.le_of_ble_eq_true rfl) (Nat.le_of_ble_eq_true rfl) ⟨by unfold y_tryLost; rw [if_pos hz], rfl⟩
theorem dL_tryDrawn_0 : decode cL_tryDrawn 0 = .ok (.aload_n 0, 1) := by decide +kernel
theorem dL_tryDrawn_1 : decode cL_tryDrawn 1 = .ok (.iload_n 1, 1) := by decide +kernel
theorem dL_tryDrawn_2 : decode cL_tryDrawn 2 = .ok (.invokevirtual 154, 3) := by decide +kernel
theorem dL_tryDrawn_5 : decode cL_tryDrawn 5 = .ok (.ireturn, 1) := by decide +kernel
theorem dL_tryDrawn_6 : decode cL_tryDrawn 6 = .ok (.astore_n 2, 1) := by decide +kernel
theorem dL_tryDrawn_7 : decode cL_tryDrawn 7 = .ok (.ldc 15, 2) := by decide +kernel
theorem dL_tryDrawn_9 : decode cL_tryDrawn 9 = .ok (.ireturn, 1) := by decide +kernel
def rm_L_tryDrawn : Room := { frames := 9, cells := 2, slots := 12, locals := 154 }
theorem hy_L_tryDrawn : yL_tryDrawn.cls = RL ∧ yL_tryDrawn.cls ≠ "java/lang/invoke/MethodHandle" ∧ yL_tryDrawn.cls ≠ "java/lang/invoke/VarHandle" ∧ (parseMethodDescriptor yL_tryDrawn.desc).map (fun d => d.parameters.length) = some 2 := by decide +kernel
set_option maxRecDepth 100000 in
set_option maxHeartbeats 4000000 in
theorem k_L_tryDrawn {l : Launch} {D : va_G} {cA : Nat → ClassId} {ad : Bool → Nat → Nat → Nat} {A : Bool → Nat → Prop} (ha : AG ad A) (hst : l.stackTraces = false) (o : Bool) (p0 : Int32) (g : Gh) (hk : g.2 ≤ 2400) : Met l yL_tryDrawn (.codeWith yL_tryDrawn cL_tryDrawn 3 (some .int) [(0, 5, 6, 13)] :: TG) rm_L_tryDrawn (PcG D cA ad A [.ref (ad o 0 1), .int p0] g) (QcG D cA ad A (fun r g' => r = y_tryDrawn p0 (g.1 o) ∧ g' = g)) 2 12 (AU A) := by
  refine enterG pl_L rfl (Nat.le_of_ble_eq_true rfl) ?_
  intro p e s m args below meth c QQ X htab hW hZ hE
  refine q_aload_n (j := 0) X dL_tryDrawn_0 rfl rfl ?_
  refine q_iload_n (j := 1) X dL_tryDrawn_1 rfl rfl ?_
  refine qG_call X hW hZ ha o (t := tKd p0) (val := (g.1 o).1 (30 + 6 * p0.toNatClampNeg + 7)) (nm := (g.1 o)) (dk := 0) (Qp := (fun mo r m1 => (tKd p0 = 0 ∧ r = (g.1 o).1 (30 + 6 * p0.toNatClampNeg + 7)) ∧ mo = m1)) (Xp := fun _ => (fun k0 m1 => k0 = tKd p0 ∧ ¬ tKd p0 = 0 ∧ RelN g.2 m1 (g.1 o))) [.int p0] [] rfl rfl (Nat.le_of_ble_eq_true rfl) dL_tryDrawn_2 ⟨(Nat.le_of_ble_eq_true rfl), (Nat.le_of_ble_eq_true rfl)⟩ hk (fun mo hmo => c_X9_drawnBack (ha.1 o) hst p0 mo _ _ (n_drawnBack hmo.rs hmo.inv p0 _ _ (fun ht => ⟨ht, rfl⟩) (fun ht => ⟨rfl, ht, hmo⟩))) (fun mo r m1 hr h => ⟨h.1.1, h.1.2, by rw [← h.2]; exact hr⟩) (fun _ _ _ _ h => h) rfl rfl (gV kw_5_107 kw_5_108 kw_5_109 kw_1_1 kw_5_110) hy_X9_drawnBack ⟨(Nat.le_of_ble_eq_true rfl), (Nat.le_of_ble_eq_true rfl)⟩ (fun hx => ?_) (fun hz => ?_)
  · have h9 : tKd p0 = 0 ∨ tKd p0 = 2 := by unfold tKd; (repeat' split) <;> decide
    rcases h9 with h9 | h9
    · exact absurd h9 hx
    · skip
      rw [h9]
      refine ⟨6, by decide, Ct1 (k1 := 2) htab rfl (by decide) (by decide) (X.2.2.2.2 _ kw_2_143), fun q => ?_⟩
      refine q_astore_n X dL_tryDrawn_6 rfl (Nat.le_of_ble_eq_true rfl) rfl ?_
      refine q_ldc (v := -9999002) X kw_3_86 dL_tryDrawn_7 ?_
      exact hE _ _ _ _ _ _ dL_tryDrawn_9 (Nat.le_of_ble_eq_true rfl) (Nat.le_of_ble_eq_true rfl) ⟨by unfold y_tryDrawn; rw [if_neg hx, h9]; rfl, rfl⟩
  · rw [gz_id]
    exact hE _ _ _ _ _ _ dL_tryDrawn_5 (Nat.le_of_ble_eq_true rfl) (Nat.le_of_ble_eq_true rfl) ⟨by unfold y_tryDrawn; rw [if_pos hz], rfl⟩
theorem dL_tryStock_0 : decode cL_tryStock 0 = .ok (.aload_n 0, 1) := by decide +kernel
theorem dL_tryStock_1 : decode cL_tryStock 1 = .ok (.iload_n 1, 1) := by decide +kernel
theorem dL_tryStock_2 : decode cL_tryStock 2 = .ok (.invokevirtual 157, 3) := by decide +kernel
theorem dL_tryStock_5 : decode cL_tryStock 5 = .ok (.ireturn, 1) := by decide +kernel
theorem dL_tryStock_6 : decode cL_tryStock 6 = .ok (.astore_n 2, 1) := by decide +kernel
theorem dL_tryStock_7 : decode cL_tryStock 7 = .ok (.ldc 15, 2) := by decide +kernel
theorem dL_tryStock_9 : decode cL_tryStock 9 = .ok (.ireturn, 1) := by decide +kernel
def rm_L_tryStock : Room := { frames := 8, cells := 2, slots := 12, locals := 133 }
theorem hy_L_tryStock : yL_tryStock.cls = RL ∧ yL_tryStock.cls ≠ "java/lang/invoke/MethodHandle" ∧ yL_tryStock.cls ≠ "java/lang/invoke/VarHandle" ∧ (parseMethodDescriptor yL_tryStock.desc).map (fun d => d.parameters.length) = some 2 := by decide +kernel
set_option maxRecDepth 100000 in
set_option maxHeartbeats 4000000 in
theorem k_L_tryStock {l : Launch} {D : va_G} {cA : Nat → ClassId} {ad : Bool → Nat → Nat → Nat} {A : Bool → Nat → Prop} (ha : AG ad A) (hst : l.stackTraces = false) (o : Bool) (p0 : Int32) (g : Gh) (hk : g.2 ≤ 2400) : Met l yL_tryStock (.codeWith yL_tryStock cL_tryStock 3 (some .int) [(0, 5, 6, 13)] :: TG) rm_L_tryStock (PcG D cA ad A [.ref (ad o 0 1), .int p0] g) (QcG D cA ad A (fun r g' => r = y_tryStock p0 (g.1 o) ∧ g' = g)) 2 12 (AU A) := by
  refine enterG pl_L rfl (Nat.le_of_ble_eq_true rfl) ?_
  intro p e s m args below meth c QQ X htab hW hZ hE
  refine q_aload_n (j := 0) X dL_tryStock_0 rfl rfl ?_
  refine q_iload_n (j := 1) X dL_tryStock_1 rfl rfl ?_
  refine qG_call X hW hZ ha o (t := tKd p0) (val := stockF (g.1 o).1 p0) (nm := (g.1 o)) (dk := 0) (Qp := (fun mo r m1 => (tKd p0 = 0 ∧ r = stockF (g.1 o).1 p0) ∧ mo = m1)) (Xp := fun _ => (fun k0 m1 => k0 = tKd p0 ∧ ¬ tKd p0 = 0 ∧ RelN g.2 m1 (g.1 o))) [.int p0] [] rfl rfl (Nat.le_of_ble_eq_true rfl) dL_tryStock_2 ⟨(Nat.le_of_ble_eq_true rfl), (Nat.le_of_ble_eq_true rfl)⟩ hk (fun mo hmo => c_X9_stockByEntries (ha.1 o) hst p0 mo _ _ (n_stockByEntries hmo.rs hmo.inv p0 _ _ (fun ht => ⟨ht, rfl⟩) (fun ht => ⟨rfl, ht, hmo⟩))) (fun mo r m1 hr h => ⟨h.1.1, h.1.2, by rw [← h.2]; exact hr⟩) (fun _ _ _ _ h => h) rfl rfl (gV kw_5_114 kw_5_115 kw_5_116 kw_1_1 kw_5_117) hy_X9_stockByEntries ⟨(Nat.le_of_ble_eq_true rfl), (Nat.le_of_ble_eq_true rfl)⟩ (fun hx => ?_) (fun hz => ?_)
  · have h9 : tKd p0 = 0 ∨ tKd p0 = 2 := by unfold tKd; (repeat' split) <;> decide
    rcases h9 with h9 | h9
    · exact absurd h9 hx
    · skip
      rw [h9]
      refine ⟨6, by decide, Ct1 (k1 := 2) htab rfl (by decide) (by decide) (X.2.2.2.2 _ kw_2_143), fun q => ?_⟩
      refine q_astore_n X dL_tryStock_6 rfl (Nat.le_of_ble_eq_true rfl) rfl ?_
      refine q_ldc (v := -9999002) X kw_3_86 dL_tryStock_7 ?_
      exact hE _ _ _ _ _ _ dL_tryStock_9 (Nat.le_of_ble_eq_true rfl) (Nat.le_of_ble_eq_true rfl) ⟨by unfold y_tryStock; rw [if_neg hx, h9]; rfl, rfl⟩
  · rw [gz_id]
    exact hE _ _ _ _ _ _ dL_tryStock_5 (Nat.le_of_ble_eq_true rfl) (Nat.le_of_ble_eq_true rfl) ⟨by unfold y_tryStock; rw [if_pos hz], rfl⟩
theorem dL_tryTotals_0 : decode cL_tryTotals 0 = .ok (.aload_n 0, 1) := by decide +kernel
theorem dL_tryTotals_1 : decode cL_tryTotals 1 = .ok (.iload_n 1, 1) := by decide +kernel
theorem dL_tryTotals_2 : decode cL_tryTotals 2 = .ok (.invokevirtual 160, 3) := by decide +kernel
theorem dL_tryTotals_5 : decode cL_tryTotals 5 = .ok (.ireturn, 1) := by decide +kernel
theorem dL_tryTotals_6 : decode cL_tryTotals 6 = .ok (.astore_n 2, 1) := by decide +kernel
theorem dL_tryTotals_7 : decode cL_tryTotals 7 = .ok (.ldc 15, 2) := by decide +kernel
theorem dL_tryTotals_9 : decode cL_tryTotals 9 = .ok (.ireturn, 1) := by decide +kernel
def rm_L_tryTotals : Room := { frames := 9, cells := 2, slots := 12, locals := 155 }
theorem hy_L_tryTotals : yL_tryTotals.cls = RL ∧ yL_tryTotals.cls ≠ "java/lang/invoke/MethodHandle" ∧ yL_tryTotals.cls ≠ "java/lang/invoke/VarHandle" ∧ (parseMethodDescriptor yL_tryTotals.desc).map (fun d => d.parameters.length) = some 2 := by decide +kernel
set_option maxRecDepth 100000 in
set_option maxHeartbeats 4000000 in
theorem k_L_tryTotals {l : Launch} {D : va_G} {cA : Nat → ClassId} {ad : Bool → Nat → Nat → Nat} {A : Bool → Nat → Prop} (ha : AG ad A) (hst : l.stackTraces = false) (o : Bool) (p0 : Int32) (g : Gh) (hk : g.2 ≤ 2400) : Met l yL_tryTotals (.codeWith yL_tryTotals cL_tryTotals 3 (some .int) [(0, 5, 6, 13)] :: TG) rm_L_tryTotals (PcG D cA ad A [.ref (ad o 0 1), .int p0] g) (QcG D cA ad A (fun r g' => r = y_tryTotals p0 (g.1 o) ∧ g' = g)) 2 12 (AU A) := by
  refine enterG pl_L rfl (Nat.le_of_ble_eq_true rfl) ?_
  intro p e s m args below meth c QQ X htab hW hZ hE
  refine q_aload_n (j := 0) X dL_tryTotals_0 rfl rfl ?_
  refine q_iload_n (j := 1) X dL_tryTotals_1 rfl rfl ?_
  refine qG_call X hW hZ ha o (t := tKd p0) (val := (g.1 o).1 (30 + 6 * p0.toNatClampNeg + 2) - (g.1 o).1 (30 + 6 * p0.toNatClampNeg + 3) - (g.1 o).1 (30 + 6 * p0.toNatClampNeg + 4) - (g.1 o).1 (30 + 6 * p0.toNatClampNeg + 5) - (g.1 o).1 (30 + 6 * p0.toNatClampNeg + 6)) (nm := (g.1 o)) (dk := 0) (Qp := (fun mo r m1 => (tKd p0 = 0 ∧ r = (g.1 o).1 (30 + 6 * p0.toNatClampNeg + 2) - (g.1 o).1 (30 + 6 * p0.toNatClampNeg + 3) - (g.1 o).1 (30 + 6 * p0.toNatClampNeg + 4) - (g.1 o).1 (30 + 6 * p0.toNatClampNeg + 5) - (g.1 o).1 (30 + 6 * p0.toNatClampNeg + 6)) ∧ mo = m1)) (Xp := fun _ => (fun k0 m1 => k0 = tKd p0 ∧ ¬ tKd p0 = 0 ∧ RelN g.2 m1 (g.1 o))) [.int p0] [] rfl rfl (Nat.le_of_ble_eq_true rfl) dL_tryTotals_2 ⟨(Nat.le_of_ble_eq_true rfl), (Nat.le_of_ble_eq_true rfl)⟩ hk (fun mo hmo => c_X9_stockByTotals (ha.1 o) hst p0 mo _ _ (n_stockByTotals hmo.rs hmo.inv p0 _ _ (fun ht => ⟨ht, rfl⟩) (fun ht => ⟨rfl, ht, hmo⟩))) (fun mo r m1 hr h => ⟨h.1.1, h.1.2, by rw [← h.2]; exact hr⟩) (fun _ _ _ _ h => h) rfl rfl (gV kw_5_125 kw_5_126 kw_5_127 kw_1_1 kw_5_128) hy_X9_stockByTotals ⟨(Nat.le_of_ble_eq_true rfl), (Nat.le_of_ble_eq_true rfl)⟩ (fun hx => ?_) (fun hz => ?_)
  · have h9 : tKd p0 = 0 ∨ tKd p0 = 2 := by unfold tKd; (repeat' split) <;> decide
    rcases h9 with h9 | h9
    · exact absurd h9 hx
    · skip
      rw [h9]
      refine ⟨6, by decide, Ct1 (k1 := 2) htab rfl (by decide) (by decide) (X.2.2.2.2 _ kw_2_143), fun q => ?_⟩
      refine q_astore_n X dL_tryTotals_6 rfl (Nat.le_of_ble_eq_true rfl) rfl ?_
      refine q_ldc (v := -9999002) X kw_3_86 dL_tryTotals_7 ?_
      exact hE _ _ _ _ _ _ dL_tryTotals_9 (Nat.le_of_ble_eq_true rfl) (Nat.le_of_ble_eq_true rfl) ⟨by unfold y_tryTotals; rw [if_neg hx, h9]; rfl, rfl⟩
  · rw [gz_id]
    exact hE _ _ _ _ _ _ dL_tryTotals_5 (Nat.le_of_ble_eq_true rfl) (Nat.le_of_ble_eq_true rfl) ⟨by unfold y_tryTotals; rw [if_pos hz], rfl⟩
theorem dL_tryWhyOut_0 : decode cL_tryWhyOut 0 = .ok (.aload_n 0, 1) := by decide +kernel
theorem dL_tryWhyOut_1 : decode cL_tryWhyOut 1 = .ok (.iload_n 1, 1) := by decide +kernel
theorem dL_tryWhyOut_2 : decode cL_tryWhyOut 2 = .ok (.iload_n 2, 1) := by decide +kernel
theorem dL_tryWhyOut_3 : decode cL_tryWhyOut 3 = .ok (.invokevirtual 163, 3) := by decide +kernel
theorem dL_tryWhyOut_6 : decode cL_tryWhyOut 6 = .ok (.ireturn, 1) := by decide +kernel
theorem dL_tryWhyOut_7 : decode cL_tryWhyOut 7 = .ok (.astore_n 3, 1) := by decide +kernel
theorem dL_tryWhyOut_8 : decode cL_tryWhyOut 8 = .ok (.ldc 28, 2) := by decide +kernel
theorem dL_tryWhyOut_10 : decode cL_tryWhyOut 10 = .ok (.ireturn, 1) := by decide +kernel
theorem dL_tryWhyOut_11 : decode cL_tryWhyOut 11 = .ok (.astore_n 3, 1) := by decide +kernel
theorem dL_tryWhyOut_12 : decode cL_tryWhyOut 12 = .ok (.ldc 15, 2) := by decide +kernel
theorem dL_tryWhyOut_14 : decode cL_tryWhyOut 14 = .ok (.ireturn, 1) := by decide +kernel
def rm_L_tryWhyOut : Room := { frames := 8, cells := 2, slots := 12, locals := 135 }
theorem hy_L_tryWhyOut : yL_tryWhyOut.cls = RL ∧ yL_tryWhyOut.cls ≠ "java/lang/invoke/MethodHandle" ∧ yL_tryWhyOut.cls ≠ "java/lang/invoke/VarHandle" ∧ (parseMethodDescriptor yL_tryWhyOut.desc).map (fun d => d.parameters.length) = some 3 := by decide +kernel
set_option maxRecDepth 100000 in
set_option maxHeartbeats 4000000 in
theorem k_L_tryWhyOut {l : Launch} {D : va_G} {cA : Nat → ClassId} {ad : Bool → Nat → Nat → Nat} {A : Bool → Nat → Prop} (ha : AG ad A) (hst : l.stackTraces = false) (o : Bool) (p0 : Int32) (p1 : Int32) (g : Gh) (hk : g.2 ≤ 2400) : Met l yL_tryWhyOut (.codeWith yL_tryWhyOut cL_tryWhyOut 4 (some .int) [(0, 6, 7, 26), (0, 6, 11, 13)] :: TG) rm_L_tryWhyOut (PcG D cA ad A [.ref (ad o 0 1), .int p0, .int p1] g) (QcG D cA ad A (fun r g' => r = y_tryWhyOut p0 p1 (g.1 o) ∧ g' = g)) 2 12 (AU A) := by
  refine enterG pl_L rfl (Nat.le_of_ble_eq_true rfl) ?_
  intro p e s m args below meth c QQ X htab hW hZ hE
  refine q_aload_n (j := 0) X dL_tryWhyOut_0 rfl rfl ?_
  refine q_iload_n (j := 1) X dL_tryWhyOut_1 rfl rfl ?_
  refine q_iload_n (j := 2) X dL_tryWhyOut_2 rfl rfl ?_
  refine qG_call X hW hZ ha o (t := tEntW (g.1 o).1 p0 p1) (val := whyW (g.1 o).1 (fiE (g.1 o).1 p0) p1) (nm := (g.1 o)) (dk := 0) (Qp := (fun mo r m1 => (tEntW (g.1 o).1 p0 p1 = 0 ∧ r = whyW (g.1 o).1 (fiE (g.1 o).1 p0) p1) ∧ mo = m1)) (Xp := fun _ => (fun k0 m1 => k0 = tEntW (g.1 o).1 p0 p1 ∧ ¬ tEntW (g.1 o).1 p0 p1 = 0 ∧ RelN g.2 m1 (g.1 o))) [.int p0, .int p1] [] rfl rfl (Nat.le_of_ble_eq_true rfl) dL_tryWhyOut_3 ⟨(Nat.le_of_ble_eq_true rfl), (Nat.le_of_ble_eq_true rfl)⟩ hk (fun mo hmo => c_X9_whyNoWithdrawal (ha.1 o) hst p0 p1 mo _ _ (n_whyNoWithdrawal hmo.rs hmo.inv p0 p1 _ _ (fun ht => ⟨ht, rfl⟩) (fun ht => ⟨rfl, ht, hmo⟩))) (fun mo r m1 hr h => ⟨h.1.1, h.1.2, by rw [← h.2]; exact hr⟩) (fun _ _ _ _ h => h) rfl rfl (gV kw_5_132 kw_5_133 kw_5_134 kw_1_1 kw_5_135) hy_X9_whyNoWithdrawal ⟨(Nat.le_of_ble_eq_true rfl), (Nat.le_of_ble_eq_true rfl)⟩ (fun hx => ?_) (fun hz => ?_)
  · have h9 : tEntW (g.1 o).1 p0 p1 = 0 ∨ tEntW (g.1 o).1 p0 p1 = 1 ∨ tEntW (g.1 o).1 p0 p1 = 2 := by unfold tEntW; (repeat' split) <;> decide
    rcases h9 with h9 | h9 | h9
    · exact absurd h9 hx
    · skip
      rw [h9]
      refine ⟨7, by decide, Ct1 (k1 := 1) htab rfl (by decide) (by decide) (X.2.2.2.2 _ kw_3_94), fun q => ?_⟩
      refine q_astore_n X dL_tryWhyOut_7 rfl (Nat.le_of_ble_eq_true rfl) rfl ?_
      refine q_ldc (v := -9999001) X kw_3_145 dL_tryWhyOut_8 ?_
      exact hE _ _ _ _ _ _ dL_tryWhyOut_10 (Nat.le_of_ble_eq_true rfl) (Nat.le_of_ble_eq_true rfl) ⟨by unfold y_tryWhyOut; rw [if_neg hx, h9]; rfl, rfl⟩
    · skip
      rw [h9]
      refine ⟨11, by decide, Ct2 (k1 := 1) (k2 := 2) htab rfl (by decide) (by decide) (by decide) (X.2.2.2.2 _ kw_3_94) (X.2.2.2.2 _ kw_2_143) hW.2.1, fun q => ?_⟩
      refine q_astore_n X dL_tryWhyOut_11 rfl (Nat.le_of_ble_eq_true rfl) rfl ?_
      refine q_ldc (v := -9999002) X kw_3_86 dL_tryWhyOut_12 ?_
      exact hE _ _ _ _ _ _ dL_tryWhyOut_14 (Nat.le_of_ble_eq_true rfl) (Nat.le_of_ble_eq_true rfl) ⟨by unfold y_tryWhyOut; rw [if_neg hx, h9]; rfl, rfl⟩
  · rw [gz_id]
    exact hE _ _ _ _ _ _ dL_tryWhyOut_6 (Nat.le_of_ble_eq_true rfl) (Nat.le_of_ble_eq_true rfl) ⟨by unfold y_tryWhyOut; rw [if_pos hz], rfl⟩
theorem dL_tryWhySend_0 : decode cL_tryWhySend 0 = .ok (.aload_n 0, 1) := by decide +kernel
theorem dL_tryWhySend_1 : decode cL_tryWhySend 1 = .ok (.iload_n 1, 1) := by decide +kernel
theorem dL_tryWhySend_2 : decode cL_tryWhySend 2 = .ok (.iload_n 2, 1) := by decide +kernel
theorem dL_tryWhySend_3 : decode cL_tryWhySend 3 = .ok (.invokevirtual 166, 3) := by decide +kernel
theorem dL_tryWhySend_6 : decode cL_tryWhySend 6 = .ok (.ireturn, 1) := by decide +kernel
theorem dL_tryWhySend_7 : decode cL_tryWhySend 7 = .ok (.astore_n 3, 1) := by decide +kernel
theorem dL_tryWhySend_8 : decode cL_tryWhySend 8 = .ok (.ldc 28, 2) := by decide +kernel
theorem dL_tryWhySend_10 : decode cL_tryWhySend 10 = .ok (.ireturn, 1) := by decide +kernel
theorem dL_tryWhySend_11 : decode cL_tryWhySend 11 = .ok (.astore_n 3, 1) := by decide +kernel
theorem dL_tryWhySend_12 : decode cL_tryWhySend 12 = .ok (.ldc 15, 2) := by decide +kernel
theorem dL_tryWhySend_14 : decode cL_tryWhySend 14 = .ok (.ireturn, 1) := by decide +kernel
def rm_L_tryWhySend : Room := { frames := 8, cells := 2, slots := 12, locals := 135 }
theorem hy_L_tryWhySend : yL_tryWhySend.cls = RL ∧ yL_tryWhySend.cls ≠ "java/lang/invoke/MethodHandle" ∧ yL_tryWhySend.cls ≠ "java/lang/invoke/VarHandle" ∧ (parseMethodDescriptor yL_tryWhySend.desc).map (fun d => d.parameters.length) = some 3 := by decide +kernel
set_option maxRecDepth 100000 in
set_option maxHeartbeats 4000000 in
theorem k_L_tryWhySend {l : Launch} {D : va_G} {cA : Nat → ClassId} {ad : Bool → Nat → Nat → Nat} {A : Bool → Nat → Prop} (ha : AG ad A) (hst : l.stackTraces = false) (o : Bool) (p0 : Int32) (p1 : Int32) (g : Gh) (hk : g.2 ≤ 2400) : Met l yL_tryWhySend (.codeWith yL_tryWhySend cL_tryWhySend 4 (some .int) [(0, 6, 7, 26), (0, 6, 11, 13)] :: TG) rm_L_tryWhySend (PcG D cA ad A [.ref (ad o 0 1), .int p0, .int p1] g) (QcG D cA ad A (fun r g' => r = y_tryWhySend p0 p1 (g.1 o) ∧ g' = g)) 2 12 (AU A) := by
  refine enterG pl_L rfl (Nat.le_of_ble_eq_true rfl) ?_
  intro p e s m args below meth c QQ X htab hW hZ hE
  refine q_aload_n (j := 0) X dL_tryWhySend_0 rfl rfl ?_
  refine q_iload_n (j := 1) X dL_tryWhySend_1 rfl rfl ?_
  refine q_iload_n (j := 2) X dL_tryWhySend_2 rfl rfl ?_
  refine qG_call X hW hZ ha o (t := tEntW (g.1 o).1 p0 p1) (val := whyX (g.1 o).1 (fiE (g.1 o).1 p0) p1) (nm := (g.1 o)) (dk := 0) (Qp := (fun mo r m1 => (tEntW (g.1 o).1 p0 p1 = 0 ∧ r = whyX (g.1 o).1 (fiE (g.1 o).1 p0) p1) ∧ mo = m1)) (Xp := fun _ => (fun k0 m1 => k0 = tEntW (g.1 o).1 p0 p1 ∧ ¬ tEntW (g.1 o).1 p0 p1 = 0 ∧ RelN g.2 m1 (g.1 o))) [.int p0, .int p1] [] rfl rfl (Nat.le_of_ble_eq_true rfl) dL_tryWhySend_3 ⟨(Nat.le_of_ble_eq_true rfl), (Nat.le_of_ble_eq_true rfl)⟩ hk (fun mo hmo => c_X9_whyNoExport (ha.1 o) hst p0 p1 mo _ _ (n_whyNoExport hmo.rs hmo.inv p0 p1 _ _ (fun ht => ⟨ht, rfl⟩) (fun ht => ⟨rfl, ht, hmo⟩))) (fun mo r m1 hr h => ⟨h.1.1, h.1.2, by rw [← h.2]; exact hr⟩) (fun _ _ _ _ h => h) rfl rfl (gV kw_5_140 kw_5_141 kw_5_142 kw_1_1 kw_5_143) hy_X9_whyNoExport ⟨(Nat.le_of_ble_eq_true rfl), (Nat.le_of_ble_eq_true rfl)⟩ (fun hx => ?_) (fun hz => ?_)
  · have h9 : tEntW (g.1 o).1 p0 p1 = 0 ∨ tEntW (g.1 o).1 p0 p1 = 1 ∨ tEntW (g.1 o).1 p0 p1 = 2 := by unfold tEntW; (repeat' split) <;> decide
    rcases h9 with h9 | h9 | h9
    · exact absurd h9 hx
    · skip
      rw [h9]
      refine ⟨7, by decide, Ct1 (k1 := 1) htab rfl (by decide) (by decide) (X.2.2.2.2 _ kw_3_94), fun q => ?_⟩
      refine q_astore_n X dL_tryWhySend_7 rfl (Nat.le_of_ble_eq_true rfl) rfl ?_
      refine q_ldc (v := -9999001) X kw_3_145 dL_tryWhySend_8 ?_
      exact hE _ _ _ _ _ _ dL_tryWhySend_10 (Nat.le_of_ble_eq_true rfl) (Nat.le_of_ble_eq_true rfl) ⟨by unfold y_tryWhySend; rw [if_neg hx, h9]; rfl, rfl⟩
    · skip
      rw [h9]
      refine ⟨11, by decide, Ct2 (k1 := 1) (k2 := 2) htab rfl (by decide) (by decide) (by decide) (X.2.2.2.2 _ kw_3_94) (X.2.2.2.2 _ kw_2_143) hW.2.1, fun q => ?_⟩
      refine q_astore_n X dL_tryWhySend_11 rfl (Nat.le_of_ble_eq_true rfl) rfl ?_
      refine q_ldc (v := -9999002) X kw_3_86 dL_tryWhySend_12 ?_
      exact hE _ _ _ _ _ _ dL_tryWhySend_14 (Nat.le_of_ble_eq_true rfl) (Nat.le_of_ble_eq_true rfl) ⟨by unfold y_tryWhySend; rw [if_neg hx, h9]; rfl, rfl⟩
  · rw [gz_id]
    exact hE _ _ _ _ _ _ dL_tryWhySend_6 (Nat.le_of_ble_eq_true rfl) (Nat.le_of_ble_eq_true rfl) ⟨by unfold y_tryWhySend; rw [if_pos hz], rfl⟩
theorem dL_tryWhyMove_0 : decode cL_tryWhyMove 0 = .ok (.aload_n 0, 1) := by decide +kernel
theorem dL_tryWhyMove_1 : decode cL_tryWhyMove 1 = .ok (.iload_n 1, 1) := by decide +kernel
theorem dL_tryWhyMove_2 : decode cL_tryWhyMove 2 = .ok (.iload_n 2, 1) := by decide +kernel
theorem dL_tryWhyMove_3 : decode cL_tryWhyMove 3 = .ok (.invokevirtual 169, 3) := by decide +kernel
theorem dL_tryWhyMove_6 : decode cL_tryWhyMove 6 = .ok (.ireturn, 1) := by decide +kernel
theorem dL_tryWhyMove_7 : decode cL_tryWhyMove 7 = .ok (.astore_n 3, 1) := by decide +kernel
theorem dL_tryWhyMove_8 : decode cL_tryWhyMove 8 = .ok (.ldc 28, 2) := by decide +kernel
theorem dL_tryWhyMove_10 : decode cL_tryWhyMove 10 = .ok (.ireturn, 1) := by decide +kernel
def rm_L_tryWhyMove : Room := { frames := 8, cells := 2, slots := 12, locals := 135 }
theorem hy_L_tryWhyMove : yL_tryWhyMove.cls = RL ∧ yL_tryWhyMove.cls ≠ "java/lang/invoke/MethodHandle" ∧ yL_tryWhyMove.cls ≠ "java/lang/invoke/VarHandle" ∧ (parseMethodDescriptor yL_tryWhyMove.desc).map (fun d => d.parameters.length) = some 3 := by decide +kernel
set_option maxRecDepth 100000 in
set_option maxHeartbeats 4000000 in
theorem k_L_tryWhyMove {l : Launch} {D : va_G} {cA : Nat → ClassId} {ad : Bool → Nat → Nat → Nat} {A : Bool → Nat → Prop} (ha : AG ad A) (hst : l.stackTraces = false) (o : Bool) (p0 : Int32) (p1 : Int32) (g : Gh) (hk : g.2 ≤ 2400) : Met l yL_tryWhyMove (.codeWith yL_tryWhyMove cL_tryWhyMove 4 (some .int) [(0, 6, 7, 26)] :: TG) rm_L_tryWhyMove (PcG D cA ad A [.ref (ad o 0 1), .int p0, .int p1] g) (QcG D cA ad A (fun r g' => r = y_tryWhyMove p0 p1 (g.1 o) ∧ g' = g)) 2 12 (AU A) := by
  refine enterG pl_L rfl (Nat.le_of_ble_eq_true rfl) ?_
  intro p e s m args below meth c QQ X htab hW hZ hE
  refine q_aload_n (j := 0) X dL_tryWhyMove_0 rfl rfl ?_
  refine q_iload_n (j := 1) X dL_tryWhyMove_1 rfl rfl ?_
  refine q_iload_n (j := 2) X dL_tryWhyMove_2 rfl rfl ?_
  refine qG_call X hW hZ ha o (t := tMv (g.1 o).1 p0 p1) (val := whyM (g.1 o).1 (fiE (g.1 o).1 p0) p1) (nm := (g.1 o)) (dk := 0) (Qp := (fun mo r m1 => (tMv (g.1 o).1 p0 p1 = 0 ∧ r = whyM (g.1 o).1 (fiE (g.1 o).1 p0) p1) ∧ mo = m1)) (Xp := fun _ => (fun k0 m1 => k0 = tMv (g.1 o).1 p0 p1 ∧ ¬ tMv (g.1 o).1 p0 p1 = 0 ∧ RelN g.2 m1 (g.1 o))) [.int p0, .int p1] [] rfl rfl (Nat.le_of_ble_eq_true rfl) dL_tryWhyMove_3 ⟨(Nat.le_of_ble_eq_true rfl), (Nat.le_of_ble_eq_true rfl)⟩ hk (fun mo hmo => c_X9_whyNoMove (ha.1 o) hst p0 p1 mo _ _ (n_whyNoMove hmo.rs hmo.inv p0 p1 _ _ (fun ht => ⟨ht, rfl⟩) (fun ht => ⟨rfl, ht, hmo⟩))) (fun mo r m1 hr h => ⟨h.1.1, h.1.2, by rw [← h.2]; exact hr⟩) (fun _ _ _ _ h => h) rfl rfl (gV kw_5_148 kw_5_149 kw_5_150 kw_1_1 kw_5_151) hy_X9_whyNoMove ⟨(Nat.le_of_ble_eq_true rfl), (Nat.le_of_ble_eq_true rfl)⟩ (fun hx => ?_) (fun hz => ?_)
  · have h9 : tMv (g.1 o).1 p0 p1 = 0 ∨ tMv (g.1 o).1 p0 p1 = 1 := by unfold tMv; (repeat' split) <;> decide
    rcases h9 with h9 | h9
    · exact absurd h9 hx
    · skip
      rw [h9]
      refine ⟨7, by decide, Ct1 (k1 := 1) htab rfl (by decide) (by decide) (X.2.2.2.2 _ kw_3_94), fun q => ?_⟩
      refine q_astore_n X dL_tryWhyMove_7 rfl (Nat.le_of_ble_eq_true rfl) rfl ?_
      refine q_ldc (v := -9999001) X kw_3_145 dL_tryWhyMove_8 ?_
      exact hE _ _ _ _ _ _ dL_tryWhyMove_10 (Nat.le_of_ble_eq_true rfl) (Nat.le_of_ble_eq_true rfl) ⟨by unfold y_tryWhyMove; rw [if_neg hx, h9]; rfl, rfl⟩
  · rw [gz_id]
    exact hE _ _ _ _ _ _ dL_tryWhyMove_6 (Nat.le_of_ble_eq_true rfl) (Nat.le_of_ble_eq_true rfl) ⟨by unfold y_tryWhyMove; rw [if_pos hz], rfl⟩
theorem dL_tryWhyDraw_0 : decode cL_tryWhyDraw 0 = .ok (.aload_n 0, 1) := by decide +kernel
theorem dL_tryWhyDraw_1 : decode cL_tryWhyDraw 1 = .ok (.iload_n 1, 1) := by decide +kernel
theorem dL_tryWhyDraw_2 : decode cL_tryWhyDraw 2 = .ok (.iload_n 2, 1) := by decide +kernel
theorem dL_tryWhyDraw_3 : decode cL_tryWhyDraw 3 = .ok (.invokevirtual 172, 3) := by decide +kernel
theorem dL_tryWhyDraw_6 : decode cL_tryWhyDraw 6 = .ok (.ireturn, 1) := by decide +kernel
theorem dL_tryWhyDraw_7 : decode cL_tryWhyDraw 7 = .ok (.astore_n 3, 1) := by decide +kernel
theorem dL_tryWhyDraw_8 : decode cL_tryWhyDraw 8 = .ok (.ldc 28, 2) := by decide +kernel
theorem dL_tryWhyDraw_10 : decode cL_tryWhyDraw 10 = .ok (.ireturn, 1) := by decide +kernel
theorem dL_tryWhyDraw_11 : decode cL_tryWhyDraw 11 = .ok (.astore_n 3, 1) := by decide +kernel
theorem dL_tryWhyDraw_12 : decode cL_tryWhyDraw 12 = .ok (.ldc 15, 2) := by decide +kernel
theorem dL_tryWhyDraw_14 : decode cL_tryWhyDraw 14 = .ok (.ireturn, 1) := by decide +kernel
def rm_L_tryWhyDraw : Room := { frames := 8, cells := 2, slots := 12, locals := 135 }
theorem hy_L_tryWhyDraw : yL_tryWhyDraw.cls = RL ∧ yL_tryWhyDraw.cls ≠ "java/lang/invoke/MethodHandle" ∧ yL_tryWhyDraw.cls ≠ "java/lang/invoke/VarHandle" ∧ (parseMethodDescriptor yL_tryWhyDraw.desc).map (fun d => d.parameters.length) = some 3 := by decide +kernel
set_option maxRecDepth 100000 in
set_option maxHeartbeats 4000000 in
theorem k_L_tryWhyDraw {l : Launch} {D : va_G} {cA : Nat → ClassId} {ad : Bool → Nat → Nat → Nat} {A : Bool → Nat → Prop} (ha : AG ad A) (hst : l.stackTraces = false) (o : Bool) (p0 : Int32) (p1 : Int32) (g : Gh) (hk : g.2 ≤ 2400) : Met l yL_tryWhyDraw (.codeWith yL_tryWhyDraw cL_tryWhyDraw 4 (some .int) [(0, 6, 7, 26), (0, 6, 11, 13)] :: TG) rm_L_tryWhyDraw (PcG D cA ad A [.ref (ad o 0 1), .int p0, .int p1] g) (QcG D cA ad A (fun r g' => r = y_tryWhyDraw p0 p1 (g.1 o) ∧ g' = g)) 2 12 (AU A) := by
  refine enterG pl_L rfl (Nat.le_of_ble_eq_true rfl) ?_
  intro p e s m args below meth c QQ X htab hW hZ hE
  refine q_aload_n (j := 0) X dL_tryWhyDraw_0 rfl rfl ?_
  refine q_iload_n (j := 1) X dL_tryWhyDraw_1 rfl rfl ?_
  refine q_iload_n (j := 2) X dL_tryWhyDraw_2 rfl rfl ?_
  refine qG_call X hW hZ ha o (t := tRecW (g.1 o).1 p0 p1) (val := whyD (g.1 o).1 p0.toNatClampNeg p1) (nm := (g.1 o)) (dk := 0) (Qp := (fun mo r m1 => (tRecW (g.1 o).1 p0 p1 = 0 ∧ r = whyD (g.1 o).1 p0.toNatClampNeg p1) ∧ mo = m1)) (Xp := fun _ => (fun k0 m1 => k0 = tRecW (g.1 o).1 p0 p1 ∧ ¬ tRecW (g.1 o).1 p0 p1 = 0 ∧ RelN g.2 m1 (g.1 o))) [.int p0, .int p1] [] rfl rfl (Nat.le_of_ble_eq_true rfl) dL_tryWhyDraw_3 ⟨(Nat.le_of_ble_eq_true rfl), (Nat.le_of_ble_eq_true rfl)⟩ hk (fun mo hmo => c_X9_whyNoDrawback (ha.1 o) hst p0 p1 mo _ _ (n_whyNoDrawback hmo.rs hmo.inv p0 p1 _ _ (fun ht => ⟨ht, rfl⟩) (fun ht => ⟨rfl, ht, hmo⟩))) (fun mo r m1 hr h => ⟨h.1.1, h.1.2, by rw [← h.2]; exact hr⟩) (fun _ _ _ _ h => h) rfl rfl (gV kw_5_156 kw_5_157 kw_5_158 kw_1_1 kw_5_159) hy_X9_whyNoDrawback ⟨(Nat.le_of_ble_eq_true rfl), (Nat.le_of_ble_eq_true rfl)⟩ (fun hx => ?_) (fun hz => ?_)
  · have h9 : tRecW (g.1 o).1 p0 p1 = 0 ∨ tRecW (g.1 o).1 p0 p1 = 1 ∨ tRecW (g.1 o).1 p0 p1 = 2 := by unfold tRecW; (repeat' split) <;> decide
    rcases h9 with h9 | h9 | h9
    · exact absurd h9 hx
    · skip
      rw [h9]
      refine ⟨7, by decide, Ct1 (k1 := 1) htab rfl (by decide) (by decide) (X.2.2.2.2 _ kw_3_94), fun q => ?_⟩
      refine q_astore_n X dL_tryWhyDraw_7 rfl (Nat.le_of_ble_eq_true rfl) rfl ?_
      refine q_ldc (v := -9999001) X kw_3_145 dL_tryWhyDraw_8 ?_
      exact hE _ _ _ _ _ _ dL_tryWhyDraw_10 (Nat.le_of_ble_eq_true rfl) (Nat.le_of_ble_eq_true rfl) ⟨by unfold y_tryWhyDraw; rw [if_neg hx, h9]; rfl, rfl⟩
    · skip
      rw [h9]
      refine ⟨11, by decide, Ct2 (k1 := 1) (k2 := 2) htab rfl (by decide) (by decide) (by decide) (X.2.2.2.2 _ kw_3_94) (X.2.2.2.2 _ kw_2_143) hW.2.1, fun q => ?_⟩
      refine q_astore_n X dL_tryWhyDraw_11 rfl (Nat.le_of_ble_eq_true rfl) rfl ?_
      refine q_ldc (v := -9999002) X kw_3_86 dL_tryWhyDraw_12 ?_
      exact hE _ _ _ _ _ _ dL_tryWhyDraw_14 (Nat.le_of_ble_eq_true rfl) (Nat.le_of_ble_eq_true rfl) ⟨by unfold y_tryWhyDraw; rw [if_neg hx, h9]; rfl, rfl⟩
  · rw [gz_id]
    exact hE _ _ _ _ _ _ dL_tryWhyDraw_6 (Nat.le_of_ble_eq_true rfl) (Nat.le_of_ble_eq_true rfl) ⟨by unfold y_tryWhyDraw; rw [if_pos hz], rfl⟩
theorem dL_tryCharge_0 : decode cL_tryCharge 0 = .ok (.aload_n 0, 1) := by decide +kernel
theorem dL_tryCharge_1 : decode cL_tryCharge 1 = .ok (.iload_n 1, 1) := by decide +kernel
theorem dL_tryCharge_2 : decode cL_tryCharge 2 = .ok (.iload_n 2, 1) := by decide +kernel
theorem dL_tryCharge_3 : decode cL_tryCharge 3 = .ok (.invokevirtual 175, 3) := by decide +kernel
theorem dL_tryCharge_6 : decode cL_tryCharge 6 = .ok (.ireturn, 1) := by decide +kernel
theorem dL_tryCharge_7 : decode cL_tryCharge 7 = .ok (.astore_n 3, 1) := by decide +kernel
theorem dL_tryCharge_8 : decode cL_tryCharge 8 = .ok (.ldc 28, 2) := by decide +kernel
theorem dL_tryCharge_10 : decode cL_tryCharge 10 = .ok (.ireturn, 1) := by decide +kernel
theorem dL_tryCharge_11 : decode cL_tryCharge 11 = .ok (.astore_n 3, 1) := by decide +kernel
theorem dL_tryCharge_12 : decode cL_tryCharge 12 = .ok (.ldc 15, 2) := by decide +kernel
theorem dL_tryCharge_14 : decode cL_tryCharge 14 = .ok (.ireturn, 1) := by decide +kernel
def rm_L_tryCharge : Room := { frames := 8, cells := 2, slots := 12, locals := 135 }
theorem hy_L_tryCharge : yL_tryCharge.cls = RL ∧ yL_tryCharge.cls ≠ "java/lang/invoke/MethodHandle" ∧ yL_tryCharge.cls ≠ "java/lang/invoke/VarHandle" ∧ (parseMethodDescriptor yL_tryCharge.desc).map (fun d => d.parameters.length) = some 3 := by decide +kernel
set_option maxRecDepth 100000 in
set_option maxHeartbeats 4000000 in
theorem k_L_tryCharge {l : Launch} {D : va_G} {cA : Nat → ClassId} {ad : Bool → Nat → Nat → Nat} {A : Bool → Nat → Prop} (ha : AG ad A) (hst : l.stackTraces = false) (o : Bool) (p0 : Int32) (p1 : Int32) (g : Gh) (hk : g.2 ≤ 2400) : Met l yL_tryCharge (.codeWith yL_tryCharge cL_tryCharge 4 (some .int) [(0, 6, 7, 26), (0, 6, 11, 13)] :: TG) rm_L_tryCharge (PcG D cA ad A [.ref (ad o 0 1), .int p0, .int p1] g) (QcG D cA ad A (fun r g' => r = y_tryCharge p0 p1 (g.1 o) ∧ g' = g)) 2 12 (AU A) := by
  refine enterG pl_L rfl (Nat.le_of_ble_eq_true rfl) ?_
  intro p e s m args below meth c QQ X htab hW hZ hE
  refine q_aload_n (j := 0) X dL_tryCharge_0 rfl rfl ?_
  refine q_iload_n (j := 1) X dL_tryCharge_1 rfl rfl ?_
  refine q_iload_n (j := 2) X dL_tryCharge_2 rfl rfl ?_
  refine qG_call X hW hZ ha o (t := tChg (g.1 o).1 p0 p1) (val := chargeF (g.1 o).1 (fiE (g.1 o).1 p0) (lossF (g.1 o).1 (fiE (g.1 o).1 p0) p1)) (nm := (g.1 o)) (dk := 0) (Qp := (fun mo r m1 => (tChg (g.1 o).1 p0 p1 = 0 ∧ r = chargeF (g.1 o).1 (fiE (g.1 o).1 p0) (lossF (g.1 o).1 (fiE (g.1 o).1 p0) p1)) ∧ mo = m1)) (Xp := fun _ => (fun k0 m1 => k0 = tChg (g.1 o).1 p0 p1 ∧ ¬ tChg (g.1 o).1 p0 p1 = 0 ∧ RelN g.2 m1 (g.1 o))) [.int p0, .int p1] [] rfl rfl (Nat.le_of_ble_eq_true rfl) dL_tryCharge_3 ⟨(Nat.le_of_ble_eq_true rfl), (Nat.le_of_ble_eq_true rfl)⟩ hk (fun mo hmo => c_X9_chargeIfWeighed (ha.1 o) hst p0 p1 mo _ _ (n_chargeIfWeighed hmo.rs hmo.inv p0 p1 _ _ (fun ht => ⟨ht, rfl⟩) (fun ht => ⟨rfl, ht, hmo⟩))) (fun mo r m1 hr h => ⟨h.1.1, h.1.2, by rw [← h.2]; exact hr⟩) (fun _ _ _ _ h => h) rfl rfl (gV kw_5_164 kw_5_165 kw_5_166 kw_1_1 kw_5_167) hy_X9_chargeIfWeighed ⟨(Nat.le_of_ble_eq_true rfl), (Nat.le_of_ble_eq_true rfl)⟩ (fun hx => ?_) (fun hz => ?_)
  · have h9 : tChg (g.1 o).1 p0 p1 = 0 ∨ tChg (g.1 o).1 p0 p1 = 1 ∨ tChg (g.1 o).1 p0 p1 = 2 := by unfold tChg; (repeat' split) <;> decide
    rcases h9 with h9 | h9 | h9
    · exact absurd h9 hx
    · skip
      rw [h9]
      refine ⟨7, by decide, Ct1 (k1 := 1) htab rfl (by decide) (by decide) (X.2.2.2.2 _ kw_3_94), fun q => ?_⟩
      refine q_astore_n X dL_tryCharge_7 rfl (Nat.le_of_ble_eq_true rfl) rfl ?_
      refine q_ldc (v := -9999001) X kw_3_145 dL_tryCharge_8 ?_
      exact hE _ _ _ _ _ _ dL_tryCharge_10 (Nat.le_of_ble_eq_true rfl) (Nat.le_of_ble_eq_true rfl) ⟨by unfold y_tryCharge; rw [if_neg hx, h9]; rfl, rfl⟩
    · skip
      rw [h9]
      refine ⟨11, by decide, Ct2 (k1 := 1) (k2 := 2) htab rfl (by decide) (by decide) (by decide) (X.2.2.2.2 _ kw_3_94) (X.2.2.2.2 _ kw_2_143) hW.2.1, fun q => ?_⟩
      refine q_astore_n X dL_tryCharge_11 rfl (Nat.le_of_ble_eq_true rfl) rfl ?_
      refine q_ldc (v := -9999002) X kw_3_86 dL_tryCharge_12 ?_
      exact hE _ _ _ _ _ _ dL_tryCharge_14 (Nat.le_of_ble_eq_true rfl) (Nat.le_of_ble_eq_true rfl) ⟨by unfold y_tryCharge; rw [if_neg hx, h9]; rfl, rfl⟩
  · rw [gz_id]
    exact hE _ _ _ _ _ _ dL_tryCharge_6 (Nat.le_of_ble_eq_true rfl) (Nat.le_of_ble_eq_true rfl) ⟨by unfold y_tryCharge; rw [if_pos hz], rfl⟩
theorem dL_tryDrawFor_0 : decode cL_tryDrawFor 0 = .ok (.aload_n 0, 1) := by decide +kernel
theorem dL_tryDrawFor_1 : decode cL_tryDrawFor 1 = .ok (.iload_n 1, 1) := by decide +kernel
theorem dL_tryDrawFor_2 : decode cL_tryDrawFor 2 = .ok (.iload_n 2, 1) := by decide +kernel
theorem dL_tryDrawFor_3 : decode cL_tryDrawFor 3 = .ok (.invokevirtual 178, 3) := by decide +kernel
theorem dL_tryDrawFor_6 : decode cL_tryDrawFor 6 = .ok (.ireturn, 1) := by decide +kernel
theorem dL_tryDrawFor_7 : decode cL_tryDrawFor 7 = .ok (.astore_n 3, 1) := by decide +kernel
theorem dL_tryDrawFor_8 : decode cL_tryDrawFor 8 = .ok (.ldc 28, 2) := by decide +kernel
theorem dL_tryDrawFor_10 : decode cL_tryDrawFor 10 = .ok (.ireturn, 1) := by decide +kernel
theorem dL_tryDrawFor_11 : decode cL_tryDrawFor 11 = .ok (.astore_n 3, 1) := by decide +kernel
theorem dL_tryDrawFor_12 : decode cL_tryDrawFor 12 = .ok (.ldc 15, 2) := by decide +kernel
theorem dL_tryDrawFor_14 : decode cL_tryDrawFor 14 = .ok (.ireturn, 1) := by decide +kernel
def rm_L_tryDrawFor : Room := { frames := 8, cells := 2, slots := 12, locals := 135 }
theorem hy_L_tryDrawFor : yL_tryDrawFor.cls = RL ∧ yL_tryDrawFor.cls ≠ "java/lang/invoke/MethodHandle" ∧ yL_tryDrawFor.cls ≠ "java/lang/invoke/VarHandle" ∧ (parseMethodDescriptor yL_tryDrawFor.desc).map (fun d => d.parameters.length) = some 3 := by decide +kernel
set_option maxRecDepth 100000 in
set_option maxHeartbeats 4000000 in
theorem k_L_tryDrawFor {l : Launch} {D : va_G} {cA : Nat → ClassId} {ad : Bool → Nat → Nat → Nat} {A : Bool → Nat → Prop} (ha : AG ad A) (hst : l.stackTraces = false) (o : Bool) (p0 : Int32) (p1 : Int32) (g : Gh) (hk : g.2 ≤ 2400) : Met l yL_tryDrawFor (.codeWith yL_tryDrawFor cL_tryDrawFor 4 (some .int) [(0, 6, 7, 26), (0, 6, 11, 13)] :: TG) rm_L_tryDrawFor (PcG D cA ad A [.ref (ad o 0 1), .int p0, .int p1] g) (QcG D cA ad A (fun r g' => r = y_tryDrawFor p0 p1 (g.1 o) ∧ g' = g)) 2 12 (AU A) := by
  refine enterG pl_L rfl (Nat.le_of_ble_eq_true rfl) ?_
  intro p e s m args below meth c QQ X htab hW hZ hE
  refine q_aload_n (j := 0) X dL_tryDrawFor_0 rfl rfl ?_
  refine q_iload_n (j := 1) X dL_tryDrawFor_1 rfl rfl ?_
  refine q_iload_n (j := 2) X dL_tryDrawFor_2 rfl rfl ?_
  refine qG_call X hW hZ ha o (t := tFor (g.1 o).1 p0 p1) (val := backF (g.1 o).1 p0.toNatClampNeg p1) (nm := (g.1 o)) (dk := 0) (Qp := (fun mo r m1 => (tFor (g.1 o).1 p0 p1 = 0 ∧ r = backF (g.1 o).1 p0.toNatClampNeg p1) ∧ mo = m1)) (Xp := fun _ => (fun k0 m1 => k0 = tFor (g.1 o).1 p0 p1 ∧ ¬ tFor (g.1 o).1 p0 p1 = 0 ∧ RelN g.2 m1 (g.1 o))) [.int p0, .int p1] [] rfl rfl (Nat.le_of_ble_eq_true rfl) dL_tryDrawFor_3 ⟨(Nat.le_of_ble_eq_true rfl), (Nat.le_of_ble_eq_true rfl)⟩ hk (fun mo hmo => c_X9_drawbackFor (ha.1 o) hst p0 p1 mo _ _ (n_drawbackFor hmo.rs hmo.inv p0 p1 _ _ (fun ht => ⟨ht, rfl⟩) (fun ht => ⟨rfl, ht, hmo⟩))) (fun mo r m1 hr h => ⟨h.1.1, h.1.2, by rw [← h.2]; exact hr⟩) (fun _ _ _ _ h => h) rfl rfl (gV kw_5_173 kw_5_174 kw_5_175 kw_1_1 kw_5_176) hy_X9_drawbackFor ⟨(Nat.le_of_ble_eq_true rfl), (Nat.le_of_ble_eq_true rfl)⟩ (fun hx => ?_) (fun hz => ?_)
  · have h9 : tFor (g.1 o).1 p0 p1 = 0 ∨ tFor (g.1 o).1 p0 p1 = 1 ∨ tFor (g.1 o).1 p0 p1 = 2 := by unfold tFor; (repeat' split) <;> decide
    rcases h9 with h9 | h9 | h9
    · exact absurd h9 hx
    · skip
      rw [h9]
      refine ⟨7, by decide, Ct1 (k1 := 1) htab rfl (by decide) (by decide) (X.2.2.2.2 _ kw_3_94), fun q => ?_⟩
      refine q_astore_n X dL_tryDrawFor_7 rfl (Nat.le_of_ble_eq_true rfl) rfl ?_
      refine q_ldc (v := -9999001) X kw_3_145 dL_tryDrawFor_8 ?_
      exact hE _ _ _ _ _ _ dL_tryDrawFor_10 (Nat.le_of_ble_eq_true rfl) (Nat.le_of_ble_eq_true rfl) ⟨by unfold y_tryDrawFor; rw [if_neg hx, h9]; rfl, rfl⟩
    · skip
      rw [h9]
      refine ⟨11, by decide, Ct2 (k1 := 1) (k2 := 2) htab rfl (by decide) (by decide) (by decide) (X.2.2.2.2 _ kw_3_94) (X.2.2.2.2 _ kw_2_143) hW.2.1, fun q => ?_⟩
      refine q_astore_n X dL_tryDrawFor_11 rfl (Nat.le_of_ble_eq_true rfl) rfl ?_
      refine q_ldc (v := -9999002) X kw_3_86 dL_tryDrawFor_12 ?_
      exact hE _ _ _ _ _ _ dL_tryDrawFor_14 (Nat.le_of_ble_eq_true rfl) (Nat.le_of_ble_eq_true rfl) ⟨by unfold y_tryDrawFor; rw [if_neg hx, h9]; rfl, rfl⟩
  · rw [gz_id]
    exact hE _ _ _ _ _ _ dL_tryDrawFor_6 (Nat.le_of_ble_eq_true rfl) (Nat.le_of_ble_eq_true rfl) ⟨by unfold y_tryDrawFor; rw [if_pos hz], rfl⟩
theorem dL_tryLater_0 : decode cL_tryLater 0 = .ok (.aload_n 0, 1) := by decide +kernel
theorem dL_tryLater_1 : decode cL_tryLater 1 = .ok (.iload_n 1, 1) := by decide +kernel
theorem dL_tryLater_2 : decode cL_tryLater 2 = .ok (.iload_n 2, 1) := by decide +kernel
theorem dL_tryLater_3 : decode cL_tryLater 3 = .ok (.invokevirtual 181, 3) := by decide +kernel
theorem dL_tryLater_6 : decode cL_tryLater 6 = .ok (.ireturn, 1) := by decide +kernel
theorem dL_tryLater_7 : decode cL_tryLater 7 = .ok (.astore_n 3, 1) := by decide +kernel
theorem dL_tryLater_8 : decode cL_tryLater 8 = .ok (.ldc 28, 2) := by decide +kernel
theorem dL_tryLater_10 : decode cL_tryLater 10 = .ok (.ireturn, 1) := by decide +kernel
theorem dL_tryLater_11 : decode cL_tryLater 11 = .ok (.astore_n 3, 1) := by decide +kernel
theorem dL_tryLater_12 : decode cL_tryLater 12 = .ok (.ldc 15, 2) := by decide +kernel
theorem dL_tryLater_14 : decode cL_tryLater 14 = .ok (.ireturn, 1) := by decide +kernel
def rm_L_tryLater : Room := { frames := 8, cells := 2, slots := 12, locals := 135 }
theorem hy_L_tryLater : yL_tryLater.cls = RL ∧ yL_tryLater.cls ≠ "java/lang/invoke/MethodHandle" ∧ yL_tryLater.cls ≠ "java/lang/invoke/VarHandle" ∧ (parseMethodDescriptor yL_tryLater.desc).map (fun d => d.parameters.length) = some 3 := by decide +kernel
set_option maxRecDepth 100000 in
set_option maxHeartbeats 4000000 in
theorem k_L_tryLater {l : Launch} {D : va_G} {cA : Nat → ClassId} {ad : Bool → Nat → Nat → Nat} {A : Bool → Nat → Prop} (ha : AG ad A) (hst : l.stackTraces = false) (o : Bool) (p0 : Int32) (p1 : Int32) (g : Gh) (hk : g.2 ≤ 2400) : Met l yL_tryLater (.codeWith yL_tryLater cL_tryLater 4 (some .int) [(0, 6, 7, 26), (0, 6, 11, 13)] :: TG) rm_L_tryLater (PcG D cA ad A [.ref (ad o 0 1), .int p0, .int p1] g) (QcG D cA ad A (fun r g' => r = y_tryLater p0 p1 (g.1 o) ∧ g' = g)) 2 12 (AU A) := by
  refine enterG pl_L rfl (Nat.le_of_ble_eq_true rfl) ?_
  intro p e s m args below meth c QQ X htab hW hZ hE
  refine q_aload_n (j := 0) X dL_tryLater_0 rfl rfl ?_
  refine q_iload_n (j := 1) X dL_tryLater_1 rfl rfl ?_
  refine q_iload_n (j := 2) X dL_tryLater_2 rfl rfl ?_
  refine qG_call X hW hZ ha o (t := tLat (g.1 o).1 p0 p1) (val := dutyF (g.1 o).1 (knd (g.1 o).1 (fiE (g.1 o).1 p0)) (en (g.1 o).1 (fiE (g.1 o).1 p0) 3) (en (g.1 o).1 (fiE (g.1 o).1 p0) 2) (en (g.1 o).1 (fiE (g.1 o).1 p0) 5 + p1)) (nm := (g.1 o)) (dk := 0) (Qp := (fun mo r m1 => (tLat (g.1 o).1 p0 p1 = 0 ∧ r = dutyF (g.1 o).1 (knd (g.1 o).1 (fiE (g.1 o).1 p0)) (en (g.1 o).1 (fiE (g.1 o).1 p0) 3) (en (g.1 o).1 (fiE (g.1 o).1 p0) 2) (en (g.1 o).1 (fiE (g.1 o).1 p0) 5 + p1)) ∧ mo = m1)) (Xp := fun _ => (fun k0 m1 => k0 = tLat (g.1 o).1 p0 p1 ∧ ¬ tLat (g.1 o).1 p0 p1 = 0 ∧ RelN g.2 m1 (g.1 o))) [.int p0, .int p1] [] rfl rfl (Nat.le_of_ble_eq_true rfl) dL_tryLater_3 ⟨(Nat.le_of_ble_eq_true rfl), (Nat.le_of_ble_eq_true rfl)⟩ hk (fun mo hmo => c_X9_dutyLater (ha.1 o) hst p0 p1 mo _ _ (n_dutyLater hmo.rs hmo.inv p0 p1 _ _ (fun ht => ⟨ht, rfl⟩) (fun ht => ⟨rfl, ht, hmo⟩))) (fun mo r m1 hr h => ⟨h.1.1, h.1.2, by rw [← h.2]; exact hr⟩) (fun _ _ _ _ h => h) rfl rfl (gV kw_5_182 kw_5_183 kw_5_184 kw_1_1 kw_5_185) hy_X9_dutyLater ⟨(Nat.le_of_ble_eq_true rfl), (Nat.le_of_ble_eq_true rfl)⟩ (fun hx => ?_) (fun hz => ?_)
  · have h9 : tLat (g.1 o).1 p0 p1 = 0 ∨ tLat (g.1 o).1 p0 p1 = 1 ∨ tLat (g.1 o).1 p0 p1 = 2 := by unfold tLat; (repeat' split) <;> decide
    rcases h9 with h9 | h9 | h9
    · exact absurd h9 hx
    · skip
      rw [h9]
      refine ⟨7, by decide, Ct1 (k1 := 1) htab rfl (by decide) (by decide) (X.2.2.2.2 _ kw_3_94), fun q => ?_⟩
      refine q_astore_n X dL_tryLater_7 rfl (Nat.le_of_ble_eq_true rfl) rfl ?_
      refine q_ldc (v := -9999001) X kw_3_145 dL_tryLater_8 ?_
      exact hE _ _ _ _ _ _ dL_tryLater_10 (Nat.le_of_ble_eq_true rfl) (Nat.le_of_ble_eq_true rfl) ⟨by unfold y_tryLater; rw [if_neg hx, h9]; rfl, rfl⟩
    · skip
      rw [h9]
      refine ⟨11, by decide, Ct2 (k1 := 1) (k2 := 2) htab rfl (by decide) (by decide) (by decide) (X.2.2.2.2 _ kw_3_94) (X.2.2.2.2 _ kw_2_143) hW.2.1, fun q => ?_⟩
      refine q_astore_n X dL_tryLater_11 rfl (Nat.le_of_ble_eq_true rfl) rfl ?_
      refine q_ldc (v := -9999002) X kw_3_86 dL_tryLater_12 ?_
      exact hE _ _ _ _ _ _ dL_tryLater_14 (Nat.le_of_ble_eq_true rfl) (Nat.le_of_ble_eq_true rfl) ⟨by unfold y_tryLater; rw [if_neg hx, h9]; rfl, rfl⟩
  · rw [gz_id]
    exact hE _ _ _ _ _ _ dL_tryLater_6 (Nat.le_of_ble_eq_true rfl) (Nat.le_of_ble_eq_true rfl) ⟨by unfold y_tryLater; rw [if_pos hz], rfl⟩
theorem dL_tryDays_0 : decode cL_tryDays 0 = .ok (.aload_n 0, 1) := by decide +kernel
theorem dL_tryDays_1 : decode cL_tryDays 1 = .ok (.iload_n 1, 1) := by decide +kernel
theorem dL_tryDays_2 : decode cL_tryDays 2 = .ok (.invokevirtual 184, 3) := by decide +kernel
theorem dL_tryDays_5 : decode cL_tryDays 5 = .ok (.ireturn, 1) := by decide +kernel
theorem dL_tryDays_6 : decode cL_tryDays 6 = .ok (.astore_n 2, 1) := by decide +kernel
theorem dL_tryDays_7 : decode cL_tryDays 7 = .ok (.ldc 28, 2) := by decide +kernel
theorem dL_tryDays_9 : decode cL_tryDays 9 = .ok (.ireturn, 1) := by decide +kernel
def rm_L_tryDays : Room := { frames := 8, cells := 2, slots := 12, locals := 133 }
theorem hy_L_tryDays : yL_tryDays.cls = RL ∧ yL_tryDays.cls ≠ "java/lang/invoke/MethodHandle" ∧ yL_tryDays.cls ≠ "java/lang/invoke/VarHandle" ∧ (parseMethodDescriptor yL_tryDays.desc).map (fun d => d.parameters.length) = some 2 := by decide +kernel
set_option maxRecDepth 100000 in
set_option maxHeartbeats 4000000 in
theorem k_L_tryDays {l : Launch} {D : va_G} {cA : Nat → ClassId} {ad : Bool → Nat → Nat → Nat} {A : Bool → Nat → Prop} (ha : AG ad A) (hst : l.stackTraces = false) (o : Bool) (p0 : Int32) (g : Gh) (hk : g.2 ≤ 2400) : Met l yL_tryDays (.codeWith yL_tryDays cL_tryDays 3 (some .int) [(0, 5, 6, 26)] :: TG) rm_L_tryDays (PcG D cA ad A [.ref (ad o 0 1), .int p0] g) (QcG D cA ad A (fun r g' => r = y_tryDays p0 (g.1 o) ∧ g' = g)) 2 12 (AU A) := by
  refine enterG pl_L rfl (Nat.le_of_ble_eq_true rfl) ?_
  intro p e s m args below meth c QQ X htab hW hZ hE
  refine q_aload_n (j := 0) X dL_tryDays_0 rfl rfl ?_
  refine q_iload_n (j := 1) X dL_tryDays_1 rfl rfl ?_
  refine qG_call X hW hZ ha o (t := tEnt (g.1 o).1 p0) (val := (if en (g.1 o).1 (fiE (g.1 o).1 p0) 5 ≤ 200 then 201 - en (g.1 o).1 (fiE (g.1 o).1 p0) 5 else 0)) (nm := (g.1 o)) (dk := 0) (Qp := (fun mo r m1 => (tEnt (g.1 o).1 p0 = 0 ∧ r = (if en (g.1 o).1 (fiE (g.1 o).1 p0) 5 ≤ 200 then 201 - en (g.1 o).1 (fiE (g.1 o).1 p0) 5 else 0)) ∧ mo = m1)) (Xp := fun _ => (fun k0 m1 => k0 = tEnt (g.1 o).1 p0 ∧ ¬ tEnt (g.1 o).1 p0 = 0 ∧ RelN g.2 m1 (g.1 o))) [.int p0] [] rfl rfl (Nat.le_of_ble_eq_true rfl) dL_tryDays_2 ⟨(Nat.le_of_ble_eq_true rfl), (Nat.le_of_ble_eq_true rfl)⟩ hk (fun mo hmo => c_X9_daysToOverdue (ha.1 o) hst p0 mo _ _ (n_daysToOverdue hmo.rs hmo.inv p0 _ _ (fun ht => ⟨ht, rfl⟩) (fun ht => ⟨rfl, ht, hmo⟩))) (fun mo r m1 hr h => ⟨h.1.1, h.1.2, by rw [← h.2]; exact hr⟩) (fun _ _ _ _ h => h) rfl rfl (gV kw_5_189 kw_5_190 kw_5_191 kw_1_1 kw_5_192) hy_X9_daysToOverdue ⟨(Nat.le_of_ble_eq_true rfl), (Nat.le_of_ble_eq_true rfl)⟩ (fun hx => ?_) (fun hz => ?_)
  · have h9 : tEnt (g.1 o).1 p0 = 0 ∨ tEnt (g.1 o).1 p0 = 1 := by unfold tEnt; (repeat' split) <;> decide
    rcases h9 with h9 | h9
    · exact absurd h9 hx
    · skip
      rw [h9]
      refine ⟨6, by decide, Ct1 (k1 := 1) htab rfl (by decide) (by decide) (X.2.2.2.2 _ kw_3_94), fun q => ?_⟩
      refine q_astore_n X dL_tryDays_6 rfl (Nat.le_of_ble_eq_true rfl) rfl ?_
      refine q_ldc (v := -9999001) X kw_3_145 dL_tryDays_7 ?_
      exact hE _ _ _ _ _ _ dL_tryDays_9 (Nat.le_of_ble_eq_true rfl) (Nat.le_of_ble_eq_true rfl) ⟨by unfold y_tryDays; rw [if_neg hx, h9]; rfl, rfl⟩
  · rw [gz_id]
    exact hE _ _ _ _ _ _ dL_tryDays_5 (Nat.le_of_ble_eq_true rfl) (Nat.le_of_ble_eq_true rfl) ⟨by unfold y_tryDays; rw [if_pos hz], rfl⟩
theorem dL_tryCheapest_0 : decode cL_tryCheapest 0 = .ok (.aload_n 0, 1) := by decide +kernel
theorem dL_tryCheapest_1 : decode cL_tryCheapest 1 = .ok (.iload_n 1, 1) := by decide +kernel
theorem dL_tryCheapest_2 : decode cL_tryCheapest 2 = .ok (.invokevirtual 187, 3) := by decide +kernel
theorem dL_tryCheapest_5 : decode cL_tryCheapest 5 = .ok (.ireturn, 1) := by decide +kernel
theorem dL_tryCheapest_6 : decode cL_tryCheapest 6 = .ok (.astore_n 2, 1) := by decide +kernel
theorem dL_tryCheapest_7 : decode cL_tryCheapest 7 = .ok (.ldc 15, 2) := by decide +kernel
theorem dL_tryCheapest_9 : decode cL_tryCheapest 9 = .ok (.ireturn, 1) := by decide +kernel
def rm_L_tryCheapest : Room := { frames := 8, cells := 2, slots := 12, locals := 133 }
theorem hy_L_tryCheapest : yL_tryCheapest.cls = RL ∧ yL_tryCheapest.cls ≠ "java/lang/invoke/MethodHandle" ∧ yL_tryCheapest.cls ≠ "java/lang/invoke/VarHandle" ∧ (parseMethodDescriptor yL_tryCheapest.desc).map (fun d => d.parameters.length) = some 2 := by decide +kernel
set_option maxRecDepth 100000 in
set_option maxHeartbeats 4000000 in
theorem k_L_tryCheapest {l : Launch} {D : va_G} {cA : Nat → ClassId} {ad : Bool → Nat → Nat → Nat} {A : Bool → Nat → Prop} (ha : AG ad A) (hst : l.stackTraces = false) (o : Bool) (p0 : Int32) (g : Gh) (hk : g.2 ≤ 2400) : Met l yL_tryCheapest (.codeWith yL_tryCheapest cL_tryCheapest 3 (some .int) [(0, 5, 6, 13)] :: TG) rm_L_tryCheapest (PcG D cA ad A [.ref (ad o 0 1), .int p0] g) (QcG D cA ad A (fun r g' => r = y_tryCheapest p0 (g.1 o) ∧ g' = g)) 2 12 (AU A) := by
  refine enterG pl_L rfl (Nat.le_of_ble_eq_true rfl) ?_
  intro p e s m args below meth c QQ X htab hW hZ hE
  refine q_aload_n (j := 0) X dL_tryCheapest_0 rfl rfl ?_
  refine q_iload_n (j := 1) X dL_tryCheapest_1 rfl rfl ?_
  refine qG_call X hW hZ ha o (t := tKd p0) (val := numF (g.1 o).1 (chF (g.1 o).1 (pC (g.1 o).1 none p0))) (nm := (g.1 o)) (dk := 0) (Qp := (fun _ r m1 => tKd p0 = 0 ∧ r = numF (g.1 o).1 (chF (g.1 o).1 (pC (g.1 o).1 none p0)) ∧ RelN (g.2 + 0) m1 (g.1 o))) (Xp := fun _ => (fun k0 m1 => k0 = tKd p0 ∧ ¬ tKd p0 = 0 ∧ RelN g.2 m1 (g.1 o))) [.int p0] [] rfl rfl (Nat.le_of_ble_eq_true rfl) dL_tryCheapest_2 ⟨(Nat.le_of_ble_eq_true rfl), (Nat.le_of_ble_eq_true rfl)⟩ hk (fun mo hmo => c_X9_cheapestEntry (ha.1 o) hst p0 mo _ _ (n_cheapestEntry hmo.rs hmo.inv p0 _ _ (fun ht z hz => ⟨ht, rfl, hmo.scr hz⟩) (fun ht => ⟨rfl, ht, hmo⟩))) (fun _ _ _ _ h => h) (fun _ _ _ _ h => h) rfl rfl (gV kw_5_197 kw_5_198 kw_5_199 kw_1_1 kw_5_200) hy_X9_cheapestEntry ⟨(Nat.le_of_ble_eq_true rfl), (Nat.le_of_ble_eq_true rfl)⟩ (fun hx => ?_) (fun hz => ?_)
  · have h9 : tKd p0 = 0 ∨ tKd p0 = 2 := by unfold tKd; (repeat' split) <;> decide
    rcases h9 with h9 | h9
    · exact absurd h9 hx
    · skip
      rw [h9]
      refine ⟨6, by decide, Ct1 (k1 := 2) htab rfl (by decide) (by decide) (X.2.2.2.2 _ kw_2_143), fun q => ?_⟩
      refine q_astore_n X dL_tryCheapest_6 rfl (Nat.le_of_ble_eq_true rfl) rfl ?_
      refine q_ldc (v := -9999002) X kw_3_86 dL_tryCheapest_7 ?_
      exact hE _ _ _ _ _ _ dL_tryCheapest_9 (Nat.le_of_ble_eq_true rfl) (Nat.le_of_ble_eq_true rfl) ⟨by unfold y_tryCheapest; rw [if_neg hx, h9]; rfl, rfl⟩
  · rw [gz_id]
    exact hE _ _ _ _ _ _ dL_tryCheapest_5 (Nat.le_of_ble_eq_true rfl) (Nat.le_of_ble_eq_true rfl) ⟨by unfold y_tryCheapest; rw [if_pos hz], rfl⟩
theorem dL_tryFrom_0 : decode cL_tryFrom 0 = .ok (.aload_n 0, 1) := by decide +kernel
theorem dL_tryFrom_1 : decode cL_tryFrom 1 = .ok (.iload_n 1, 1) := by decide +kernel
theorem dL_tryFrom_2 : decode cL_tryFrom 2 = .ok (.iload_n 2, 1) := by decide +kernel
theorem dL_tryFrom_3 : decode cL_tryFrom 3 = .ok (.invokevirtual 190, 3) := by decide +kernel
theorem dL_tryFrom_6 : decode cL_tryFrom 6 = .ok (.ireturn, 1) := by decide +kernel
theorem dL_tryFrom_7 : decode cL_tryFrom 7 = .ok (.astore_n 3, 1) := by decide +kernel
theorem dL_tryFrom_8 : decode cL_tryFrom 8 = .ok (.ldc 15, 2) := by decide +kernel
theorem dL_tryFrom_10 : decode cL_tryFrom 10 = .ok (.ireturn, 1) := by decide +kernel
def rm_L_tryFrom : Room := { frames := 8, cells := 2, slots := 12, locals := 134 }
theorem hy_L_tryFrom : yL_tryFrom.cls = RL ∧ yL_tryFrom.cls ≠ "java/lang/invoke/MethodHandle" ∧ yL_tryFrom.cls ≠ "java/lang/invoke/VarHandle" ∧ (parseMethodDescriptor yL_tryFrom.desc).map (fun d => d.parameters.length) = some 3 := by decide +kernel
set_option maxRecDepth 100000 in
set_option maxHeartbeats 4000000 in
theorem k_L_tryFrom {l : Launch} {D : va_G} {cA : Nat → ClassId} {ad : Bool → Nat → Nat → Nat} {A : Bool → Nat → Prop} (ha : AG ad A) (hst : l.stackTraces = false) (o : Bool) (p0 : Int32) (p1 : Int32) (g : Gh) (hk : g.2 ≤ 2400) : Met l yL_tryFrom (.codeWith yL_tryFrom cL_tryFrom 4 (some .int) [(0, 6, 7, 13)] :: TG) rm_L_tryFrom (PcG D cA ad A [.ref (ad o 0 1), .int p0, .int p1] g) (QcG D cA ad A (fun r g' => r = y_tryFrom p0 p1 (g.1 o) ∧ g' = g)) 2 12 (AU A) := by
  refine enterG pl_L rfl (Nat.le_of_ble_eq_true rfl) ?_
  intro p e s m args below meth c QQ X htab hW hZ hE
  refine q_aload_n (j := 0) X dL_tryFrom_0 rfl rfl ?_
  refine q_iload_n (j := 1) X dL_tryFrom_1 rfl rfl ?_
  refine q_iload_n (j := 2) X dL_tryFrom_2 rfl rfl ?_
  refine qG_call X hW hZ ha o (t := tFrom p0 p1) (val := fromF (g.1 o).1 p0 p1) (nm := (g.1 o)) (dk := 0) (Qp := (fun _ r m1 => tFrom p0 p1 = 0 ∧ r = fromF (g.1 o).1 p0 p1 ∧ RelN (g.2 + 0) m1 (g.1 o))) (Xp := fun _ => (fun k0 m1 => k0 = tFrom p0 p1 ∧ ¬ tFrom p0 p1 = 0 ∧ RelN g.2 m1 (g.1 o))) [.int p0, .int p1] [] rfl rfl (Nat.le_of_ble_eq_true rfl) dL_tryFrom_3 ⟨(Nat.le_of_ble_eq_true rfl), (Nat.le_of_ble_eq_true rfl)⟩ hk (fun mo hmo => c_X9_dutyFromCheapest (ha.1 o) hst p0 p1 mo _ _ (n_dutyFromCheapest hmo.rs hmo.inv p0 p1 _ _ (fun ht z hz => ⟨ht, rfl, hmo.scr hz⟩) (fun ht => ⟨rfl, ht, hmo⟩))) (fun _ _ _ _ h => h) (fun _ _ _ _ h => h) rfl rfl (gV kw_5_220 kw_5_221 kw_5_222 kw_1_1 kw_5_223) hy_X9_dutyFromCheapest ⟨(Nat.le_of_ble_eq_true rfl), (Nat.le_of_ble_eq_true rfl)⟩ (fun hx => ?_) (fun hz => ?_)
  · have h9 : tFrom p0 p1 = 0 ∨ tFrom p0 p1 = 2 := by unfold tFrom; (repeat' split) <;> decide
    rcases h9 with h9 | h9
    · exact absurd h9 hx
    · skip
      rw [h9]
      refine ⟨7, by decide, Ct1 (k1 := 2) htab rfl (by decide) (by decide) (X.2.2.2.2 _ kw_2_143), fun q => ?_⟩
      refine q_astore_n X dL_tryFrom_7 rfl (Nat.le_of_ble_eq_true rfl) rfl ?_
      refine q_ldc (v := -9999002) X kw_3_86 dL_tryFrom_8 ?_
      exact hE _ _ _ _ _ _ dL_tryFrom_10 (Nat.le_of_ble_eq_true rfl) (Nat.le_of_ble_eq_true rfl) ⟨by unfold y_tryFrom; rw [if_neg hx, h9]; rfl, rfl⟩
  · rw [gz_id]
    exact hE _ _ _ _ _ _ dL_tryFrom_6 (Nat.le_of_ble_eq_true rfl) (Nat.le_of_ble_eq_true rfl) ⟨by unfold y_tryFrom; rw [if_pos hz], rfl⟩
theorem dL_tryAppend_0 : decode cL_tryAppend 0 = .ok (.aload_n 0, 1) := by decide +kernel
theorem dL_tryAppend_1 : decode cL_tryAppend 1 = .ok (.iload_n 1, 1) := by decide +kernel
theorem dL_tryAppend_2 : decode cL_tryAppend 2 = .ok (.invokevirtual 193, 3) := by decide +kernel
theorem dL_tryAppend_5 : decode cL_tryAppend 5 = .ok (.ireturn, 1) := by decide +kernel
theorem dL_tryAppend_6 : decode cL_tryAppend 6 = .ok (.astore_n 2, 1) := by decide +kernel
theorem dL_tryAppend_7 : decode cL_tryAppend 7 = .ok (.ldc 15, 2) := by decide +kernel
theorem dL_tryAppend_9 : decode cL_tryAppend 9 = .ok (.ireturn, 1) := by decide +kernel
theorem dL_tryAppend_10 : decode cL_tryAppend 10 = .ok (.astore_n 2, 1) := by decide +kernel
theorem dL_tryAppend_11 : decode cL_tryAppend 11 = .ok (.ldc 18, 2) := by decide +kernel
theorem dL_tryAppend_13 : decode cL_tryAppend 13 = .ok (.ireturn, 1) := by decide +kernel
def rm_L_tryAppend : Room := { frames := 8, cells := 2, slots := 12, locals := 133 }
theorem hy_L_tryAppend : yL_tryAppend.cls = RL ∧ yL_tryAppend.cls ≠ "java/lang/invoke/MethodHandle" ∧ yL_tryAppend.cls ≠ "java/lang/invoke/VarHandle" ∧ (parseMethodDescriptor yL_tryAppend.desc).map (fun d => d.parameters.length) = some 2 := by decide +kernel
set_option maxRecDepth 100000 in
set_option maxHeartbeats 4000000 in
theorem k_L_tryAppend {l : Launch} {D : va_G} {cA : Nat → ClassId} {ad : Bool → Nat → Nat → Nat} {A : Bool → Nat → Prop} (ha : AG ad A) (hst : l.stackTraces = false) (o : Bool) (p0 : Int32) (g : Gh) (hk : g.2 ≤ 2400) (hp : ¬ (33 ≤ p0 ∧ p0 ≤ 126)) : Met l yL_tryAppend (.codeWith yL_tryAppend cL_tryAppend 3 (some .int) [(0, 5, 6, 13), (0, 5, 10, 16)] :: TG) rm_L_tryAppend (PcG D cA ad A [.ref (ad o 0 1), .int p0] g) (QcG D cA ad A (fun r g' => r = -9999002 ∧ g' = g)) 2 12 (AU A) := by
  refine enterG pl_L rfl (Nat.le_of_ble_eq_true rfl) ?_
  intro p e s m args below meth c QQ X htab hW hZ hE
  refine q_aload_n (j := 0) X dL_tryAppend_0 rfl rfl ?_
  refine q_iload_n (j := 1) X dL_tryAppend_1 rfl rfl ?_
  refine qG_call X hW hZ ha o (t := 2) (val := 0) (nm := (g.1 o)) (dk := 0) (Qp := (fun _ r m1 => 2 = 0 ∧ r = 0 ∧ RelN (g.2 + 0) m1 (g.1 o))) (Xp := fun _ => (fun k0 m1 => k0 = 2 ∧ ¬ 2 = 0 ∧ RelN g.2 m1 (g.1 o))) [.int p0] [] rfl rfl (Nat.le_of_ble_eq_true rfl) dL_tryAppend_2 ⟨(Nat.le_of_ble_eq_true rfl), (Nat.le_of_ble_eq_true rfl)⟩ hk (fun mo hmo => c_X9_append (ha.1 o) hst p0 mo _ _ (n_append p0 hp _ _ ⟨rfl, by decide, hmo⟩)) (fun _ _ _ _ h => h) (fun _ _ _ _ h => h) rfl rfl (gV kw_5_234 kw_5_235 kw_5_236 kw_1_1 kw_5_237) hy_X9_append ⟨(Nat.le_of_ble_eq_true rfl), (Nat.le_of_ble_eq_true rfl)⟩ (fun hx => ?_) (fun hz => ?_)
  · skip
    refine ⟨6, by decide, Ct1 (k1 := 2) htab rfl (by decide) (by decide) (X.2.2.2.2 _ kw_2_143), fun q => ?_⟩
    refine q_astore_n X dL_tryAppend_6 rfl (Nat.le_of_ble_eq_true rfl) rfl ?_
    refine q_ldc (v := -9999002) X kw_3_86 dL_tryAppend_7 ?_
    exact hE _ _ _ _ _ _ dL_tryAppend_9 (Nat.le_of_ble_eq_true rfl) (Nat.le_of_ble_eq_true rfl) ⟨rfl, rfl⟩
  · exact absurd hz (by decide)
theorem dL_tryRun_0 : decode cL_tryRun 0 = .ok (.aload_n 0, 1) := by decide +kernel
theorem dL_tryRun_1 : decode cL_tryRun 1 = .ok (.invokevirtual 196, 3) := by decide +kernel
theorem dL_tryRun_4 : decode cL_tryRun 4 = .ok (.ireturn, 1) := by decide +kernel
theorem dL_tryRun_5 : decode cL_tryRun 5 = .ok (.astore_n 1, 1) := by decide +kernel
theorem dL_tryRun_6 : decode cL_tryRun 6 = .ok (.ldc 15, 2) := by decide +kernel
theorem dL_tryRun_8 : decode cL_tryRun 8 = .ok (.ireturn, 1) := by decide +kernel
def rm_L_tryRun : Room := { frames := 7, cells := 2, slots := 12, locals := 162 }
theorem hy_L_tryRun : yL_tryRun.cls = RL ∧ yL_tryRun.cls ≠ "java/lang/invoke/MethodHandle" ∧ yL_tryRun.cls ≠ "java/lang/invoke/VarHandle" ∧ (parseMethodDescriptor yL_tryRun.desc).map (fun d => d.parameters.length) = some 1 := by decide +kernel
set_option maxRecDepth 100000 in
set_option maxHeartbeats 4000000 in
theorem k_L_tryRun {l : Launch} {D : va_G} {cA : Nat → ClassId} {ad : Bool → Nat → Nat → Nat} {A : Bool → Nat → Prop} (ha : AG ad A) (hst : l.stackTraces = false) (o : Bool) (g : Gh) (hk : g.2 ≤ 2400) : Met l yL_tryRun (.codeWith yL_tryRun cL_tryRun 2 (some .int) [(0, 4, 5, 13)] :: TG) rm_L_tryRun (PcG D cA ad A [.ref (ad o 0 1)] g) (QcG D cA ad A (fun r g' => r = -9999002 ∧ g' = g)) 2 12 (AU A) := by
  refine enterG pl_L rfl (Nat.le_of_ble_eq_true rfl) ?_
  intro p e s m args below meth c QQ X htab hW hZ hE
  refine q_aload_n (j := 0) X dL_tryRun_0 rfl rfl ?_
  refine qG_call X hW hZ ha o (t := 2) (val := 0) (nm := (g.1 o)) (dk := 0) (Qp := (fun _ r m1 => 2 = 0 ∧ r = 0 ∧ RelN (g.2 + 0) m1 (g.1 o))) (Xp := fun _ => (fun k0 m1 => k0 = 2 ∧ ¬ 2 = 0 ∧ RelN g.2 m1 (g.1 o))) [] [] rfl rfl (Nat.le_of_ble_eq_true rfl) dL_tryRun_1 ⟨(Nat.le_of_ble_eq_true rfl), (Nat.le_of_ble_eq_true rfl)⟩ hk (fun mo hmo => c_X9_run (ha.1 o) hst mo _ _ (n_run hmo _ _ (fun m1 hR => ⟨rfl, by decide, hR⟩))) (fun _ _ _ _ h => h) (fun _ _ _ _ h => h) rfl rfl (gV kw_6_6 kw_6_7 kw_6_8 kw_1_1 kw_6_9) hy_X9_run ⟨(Nat.le_of_ble_eq_true rfl), (Nat.le_of_ble_eq_true rfl)⟩ (fun hx => ?_) (fun hz => ?_)
  · skip
    refine ⟨5, by decide, Ct1 (k1 := 2) htab rfl (by decide) (by decide) (X.2.2.2.2 _ kw_2_143), fun q => ?_⟩
    refine q_astore_n X dL_tryRun_5 rfl (Nat.le_of_ble_eq_true rfl) rfl ?_
    refine q_ldc (v := -9999002) X kw_3_86 dL_tryRun_6 ?_
    exact hE _ _ _ _ _ _ dL_tryRun_8 (Nat.le_of_ble_eq_true rfl) (Nat.le_of_ble_eq_true rfl) ⟨rfl, rfl⟩
  · exact absurd hz (by decide)
