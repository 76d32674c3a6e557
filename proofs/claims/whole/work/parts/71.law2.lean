theorem dL_roomIn_0 : decode cL_roomIn 0 = .ok (.aload_n 2, 1) := by decide +kernel
theorem dL_roomIn_1 : decode cL_roomIn 1 = .ok (.iconst 0, 1) := by decide +kernel
theorem dL_roomIn_2 : decode cL_roomIn 2 = .ok (.aload_n 0, 1) := by decide +kernel
theorem dL_roomIn_3 : decode cL_roomIn 3 = .ok (.iload_n 1, 1) := by decide +kernel
theorem dL_roomIn_4 : decode cL_roomIn 4 = .ok (.invokevirtual 112, 3) := by decide +kernel
theorem dL_roomIn_7 : decode cL_roomIn 7 = .ok (.i2l, 1) := by decide +kernel
theorem dL_roomIn_8 : decode cL_roomIn 8 = .ok (.lastore, 1) := by decide +kernel
theorem dL_roomIn_9 : decode cL_roomIn 9 = .ok (.goto 6, 3) := by decide +kernel
theorem dL_roomIn_12 : decode cL_roomIn 12 = .ok (.astore_n 3, 1) := by decide +kernel
theorem dL_roomIn_13 : decode cL_roomIn 13 = .ok (.iconst 1, 1) := by decide +kernel
theorem dL_roomIn_14 : decode cL_roomIn 14 = .ok (.ireturn, 1) := by decide +kernel
theorem dL_roomIn_15 : decode cL_roomIn 15 = .ok (.iconst 0, 1) := by decide +kernel
theorem dL_roomIn_16 : decode cL_roomIn 16 = .ok (.ireturn, 1) := by decide +kernel
def rm_L_roomIn : Room := { frames := 8, cells := 2, slots := 12, locals := 131 }
set_option maxRecDepth 100000 in
set_option maxHeartbeats 4000000 in
theorem k_L_roomIn {l : Launch} {D : va_G} {cA : Nat → ClassId} {ad : Nat → Nat → Nat} {A : Nat → Prop} {ob : Nat} {cO : ClassId} (ax : Ax ad GC A) (hob : ¬ A ob) (hst : l.stackTraces = false) (p0 : Int32) (mm : Mm) (v : Int64) (Q9 : Int32 → Prop) (X9 : Nat → Mm → Prop) (h : w_X9_roomIn p0 mm Q9 X9) (hX : ∀ k0 m1, X9 k0 m1 → oK [1] k0) : Met l yL_roomIn (.codeWith yL_roomIn cL_roomIn 4 (some .int) [(0, 9, 12, 21)] :: TG) rm_L_roomIn (PcL D cA ad A ob cO [.ref (ad 0 1), .int p0, .ref ob] mm v) (QcL D cA ad A ob cO (QW tlI xA (fun r m' => Q9 r ∧ mm = m') X9)) 2 12 (AW A ob) := by
  refine enterL pl_L rfl (Nat.le_of_ble_eq_true rfl) ?_
  intro p e s m args below meth c QQ X htab hW hZ hE
  refine q_aload_n (j := 2) X dL_roomIn_0 rfl rfl ?_
  refine q_iconst X dL_roomIn_1 rfl ?_
  refine q_aload_n (j := 0) X dL_roomIn_2 rfl rfl ?_
  refine q_iload_n (j := 1) X dL_roomIn_3 rfl rfl ?_
  refine qW_call X hW hZ hob [.int p0] [.int 0, .ref ob] rfl rfl (Nat.le_of_ble_eq_true rfl) dL_roomIn_4 ⟨(Nat.le_of_ble_eq_true rfl), (Nat.le_of_ble_eq_true rfl)⟩ (c_X9_roomIn ax hst p0 mm Q9 X9 h) rfl rfl (gV kw_5_175 kw_5_176 kw_5_177 kw_1_1 kw_5_178) hy_X9_roomIn ⟨(Nat.le_of_ble_eq_true rfl), (Nat.le_of_ble_eq_true rfl)⟩ (fun k0 m1 hx => ?_) (fun r m1 hq => ?_)
  · have hk := hX _ _ hx
    unfold oK at hk
    simp only [List.mem_cons, List.not_mem_nil, or_false] at hk
    subst hk
    refine ⟨12, by decide, Ct1 (k1 := 1) htab rfl (by decide) (by decide) (X.2.2.2.2 _ kw_3_237), fun q => ?_⟩
    refine q_astore_n X dL_roomIn_12 rfl (Nat.le_of_ble_eq_true rfl) rfl ?_
    refine q_iconst X dL_roomIn_13 rfl ?_
    exact hE _ _ _ _ _ _ _ dL_roomIn_14 (Nat.le_of_ble_eq_true rfl) (Nat.le_of_ble_eq_true rfl) (Or.inr ⟨by decide, 1, rfl, hx⟩)
  · refine q_i2l X dL_roomIn_7 ?_
    refine qW_last X hW hob ax dL_roomIn_8 ?_
    refine q_goto X dL_roomIn_9 rfl ?_
    refine q_iconst X dL_roomIn_15 rfl ?_
    exact hE _ _ _ _ _ _ _ dL_roomIn_16 (Nat.le_of_ble_eq_true rfl) (Nat.le_of_ble_eq_true rfl) (Or.inl ⟨rfl, r, rfl, hq⟩)
theorem dL_receiptKind_0 : decode cL_receiptKind 0 = .ok (.aload_n 2, 1) := by decide +kernel
theorem dL_receiptKind_1 : decode cL_receiptKind 1 = .ok (.iconst 0, 1) := by decide +kernel
theorem dL_receiptKind_2 : decode cL_receiptKind 2 = .ok (.aload_n 0, 1) := by decide +kernel
theorem dL_receiptKind_3 : decode cL_receiptKind 3 = .ok (.iload_n 1, 1) := by decide +kernel
theorem dL_receiptKind_4 : decode cL_receiptKind 4 = .ok (.invokevirtual 115, 3) := by decide +kernel
theorem dL_receiptKind_7 : decode cL_receiptKind 7 = .ok (.i2l, 1) := by decide +kernel
theorem dL_receiptKind_8 : decode cL_receiptKind 8 = .ok (.lastore, 1) := by decide +kernel
theorem dL_receiptKind_9 : decode cL_receiptKind 9 = .ok (.goto 6, 3) := by decide +kernel
theorem dL_receiptKind_12 : decode cL_receiptKind 12 = .ok (.astore_n 3, 1) := by decide +kernel
theorem dL_receiptKind_13 : decode cL_receiptKind 13 = .ok (.iconst 1, 1) := by decide +kernel
theorem dL_receiptKind_14 : decode cL_receiptKind 14 = .ok (.ireturn, 1) := by decide +kernel
theorem dL_receiptKind_15 : decode cL_receiptKind 15 = .ok (.iconst 0, 1) := by decide +kernel
theorem dL_receiptKind_16 : decode cL_receiptKind 16 = .ok (.ireturn, 1) := by decide +kernel
def rm_L_receiptKind : Room := { frames := 8, cells := 2, slots := 12, locals := 133 }
set_option maxRecDepth 100000 in
set_option maxHeartbeats 4000000 in
theorem k_L_receiptKind {l : Launch} {D : va_G} {cA : Nat → ClassId} {ad : Nat → Nat → Nat} {A : Nat → Prop} {ob : Nat} {cO : ClassId} (ax : Ax ad GC A) (hob : ¬ A ob) (hst : l.stackTraces = false) (p0 : Int32) (mm : Mm) (v : Int64) (Q9 : Int32 → Prop) (X9 : Nat → Mm → Prop) (h : w_X9_receiptKind p0 mm Q9 X9) (hX : ∀ k0 m1, X9 k0 m1 → oK [1] k0) : Met l yL_receiptKind (.codeWith yL_receiptKind cL_receiptKind 4 (some .int) [(0, 9, 12, 21)] :: TG) rm_L_receiptKind (PcL D cA ad A ob cO [.ref (ad 0 1), .int p0, .ref ob] mm v) (QcL D cA ad A ob cO (QW tlI xA (fun r m' => Q9 r ∧ mm = m') X9)) 2 12 (AW A ob) := by
  refine enterL pl_L rfl (Nat.le_of_ble_eq_true rfl) ?_
  intro p e s m args below meth c QQ X htab hW hZ hE
  refine q_aload_n (j := 2) X dL_receiptKind_0 rfl rfl ?_
  refine q_iconst X dL_receiptKind_1 rfl ?_
  refine q_aload_n (j := 0) X dL_receiptKind_2 rfl rfl ?_
  refine q_iload_n (j := 1) X dL_receiptKind_3 rfl rfl ?_
  refine qW_call X hW hZ hob [.int p0] [.int 0, .ref ob] rfl rfl (Nat.le_of_ble_eq_true rfl) dL_receiptKind_4 ⟨(Nat.le_of_ble_eq_true rfl), (Nat.le_of_ble_eq_true rfl)⟩ (c_X9_receiptKind ax hst p0 mm Q9 X9 h) rfl rfl (gV kw_5_183 kw_5_184 kw_5_185 kw_1_1 kw_5_186) hy_X9_receiptKind ⟨(Nat.le_of_ble_eq_true rfl), (Nat.le_of_ble_eq_true rfl)⟩ (fun k0 m1 hx => ?_) (fun r m1 hq => ?_)
  · have hk := hX _ _ hx
    unfold oK at hk
    simp only [List.mem_cons, List.not_mem_nil, or_false] at hk
    subst hk
    refine ⟨12, by decide, Ct1 (k1 := 1) htab rfl (by decide) (by decide) (X.2.2.2.2 _ kw_3_237), fun q => ?_⟩
    refine q_astore_n X dL_receiptKind_12 rfl (Nat.le_of_ble_eq_true rfl) rfl ?_
    refine q_iconst X dL_receiptKind_13 rfl ?_
    exact hE _ _ _ _ _ _ _ dL_receiptKind_14 (Nat.le_of_ble_eq_true rfl) (Nat.le_of_ble_eq_true rfl) (Or.inr ⟨by decide, 1, rfl, hx⟩)
  · refine q_i2l X dL_receiptKind_7 ?_
    refine qW_last X hW hob ax dL_receiptKind_8 ?_
    refine q_goto X dL_receiptKind_9 rfl ?_
    refine q_iconst X dL_receiptKind_15 rfl ?_
    exact hE _ _ _ _ _ _ _ dL_receiptKind_16 (Nat.le_of_ble_eq_true rfl) (Nat.le_of_ble_eq_true rfl) (Or.inl ⟨rfl, r, rfl, hq⟩)
theorem dL_receiptWeight_0 : decode cL_receiptWeight 0 = .ok (.aload_n 2, 1) := by decide +kernel
theorem dL_receiptWeight_1 : decode cL_receiptWeight 1 = .ok (.iconst 0, 1) := by decide +kernel
theorem dL_receiptWeight_2 : decode cL_receiptWeight 2 = .ok (.aload_n 0, 1) := by decide +kernel
theorem dL_receiptWeight_3 : decode cL_receiptWeight 3 = .ok (.iload_n 1, 1) := by decide +kernel
theorem dL_receiptWeight_4 : decode cL_receiptWeight 4 = .ok (.invokevirtual 118, 3) := by decide +kernel
theorem dL_receiptWeight_7 : decode cL_receiptWeight 7 = .ok (.i2l, 1) := by decide +kernel
theorem dL_receiptWeight_8 : decode cL_receiptWeight 8 = .ok (.lastore, 1) := by decide +kernel
theorem dL_receiptWeight_9 : decode cL_receiptWeight 9 = .ok (.goto 6, 3) := by decide +kernel
theorem dL_receiptWeight_12 : decode cL_receiptWeight 12 = .ok (.astore_n 3, 1) := by decide +kernel
theorem dL_receiptWeight_13 : decode cL_receiptWeight 13 = .ok (.iconst 1, 1) := by decide +kernel
theorem dL_receiptWeight_14 : decode cL_receiptWeight 14 = .ok (.ireturn, 1) := by decide +kernel
theorem dL_receiptWeight_15 : decode cL_receiptWeight 15 = .ok (.iconst 0, 1) := by decide +kernel
theorem dL_receiptWeight_16 : decode cL_receiptWeight 16 = .ok (.ireturn, 1) := by decide +kernel
def rm_L_receiptWeight : Room := { frames := 8, cells := 2, slots := 12, locals := 133 }
set_option maxRecDepth 100000 in
set_option maxHeartbeats 4000000 in
theorem k_L_receiptWeight {l : Launch} {D : va_G} {cA : Nat → ClassId} {ad : Nat → Nat → Nat} {A : Nat → Prop} {ob : Nat} {cO : ClassId} (ax : Ax ad GC A) (hob : ¬ A ob) (hst : l.stackTraces = false) (p0 : Int32) (mm : Mm) (v : Int64) (Q9 : Int32 → Prop) (X9 : Nat → Mm → Prop) (h : w_X9_receiptWeight p0 mm Q9 X9) (hX : ∀ k0 m1, X9 k0 m1 → oK [1] k0) : Met l yL_receiptWeight (.codeWith yL_receiptWeight cL_receiptWeight 4 (some .int) [(0, 9, 12, 21)] :: TG) rm_L_receiptWeight (PcL D cA ad A ob cO [.ref (ad 0 1), .int p0, .ref ob] mm v) (QcL D cA ad A ob cO (QW tlI xA (fun r m' => Q9 r ∧ mm = m') X9)) 2 12 (AW A ob) := by
  refine enterL pl_L rfl (Nat.le_of_ble_eq_true rfl) ?_
  intro p e s m args below meth c QQ X htab hW hZ hE
  refine q_aload_n (j := 2) X dL_receiptWeight_0 rfl rfl ?_
  refine q_iconst X dL_receiptWeight_1 rfl ?_
  refine q_aload_n (j := 0) X dL_receiptWeight_2 rfl rfl ?_
  refine q_iload_n (j := 1) X dL_receiptWeight_3 rfl rfl ?_
  refine qW_call X hW hZ hob [.int p0] [.int 0, .ref ob] rfl rfl (Nat.le_of_ble_eq_true rfl) dL_receiptWeight_4 ⟨(Nat.le_of_ble_eq_true rfl), (Nat.le_of_ble_eq_true rfl)⟩ (c_X9_receiptWeight ax hst p0 mm Q9 X9 h) rfl rfl (gV kw_5_196 kw_5_197 kw_5_198 kw_1_1 kw_5_199) hy_X9_receiptWeight ⟨(Nat.le_of_ble_eq_true rfl), (Nat.le_of_ble_eq_true rfl)⟩ (fun k0 m1 hx => ?_) (fun r m1 hq => ?_)
  · have hk := hX _ _ hx
    unfold oK at hk
    simp only [List.mem_cons, List.not_mem_nil, or_false] at hk
    subst hk
    refine ⟨12, by decide, Ct1 (k1 := 1) htab rfl (by decide) (by decide) (X.2.2.2.2 _ kw_3_237), fun q => ?_⟩
    refine q_astore_n X dL_receiptWeight_12 rfl (Nat.le_of_ble_eq_true rfl) rfl ?_
    refine q_iconst X dL_receiptWeight_13 rfl ?_
    exact hE _ _ _ _ _ _ _ dL_receiptWeight_14 (Nat.le_of_ble_eq_true rfl) (Nat.le_of_ble_eq_true rfl) (Or.inr ⟨by decide, 1, rfl, hx⟩)
  · refine q_i2l X dL_receiptWeight_7 ?_
    refine qW_last X hW hob ax dL_receiptWeight_8 ?_
    refine q_goto X dL_receiptWeight_9 rfl ?_
    refine q_iconst X dL_receiptWeight_15 rfl ?_
    exact hE _ _ _ _ _ _ _ dL_receiptWeight_16 (Nat.le_of_ble_eq_true rfl) (Nat.le_of_ble_eq_true rfl) (Or.inl ⟨rfl, r, rfl, hq⟩)
theorem dL_receiptDuty_0 : decode cL_receiptDuty 0 = .ok (.aload_n 2, 1) := by decide +kernel
theorem dL_receiptDuty_1 : decode cL_receiptDuty 1 = .ok (.iconst 0, 1) := by decide +kernel
theorem dL_receiptDuty_2 : decode cL_receiptDuty 2 = .ok (.aload_n 0, 1) := by decide +kernel
theorem dL_receiptDuty_3 : decode cL_receiptDuty 3 = .ok (.iload_n 1, 1) := by decide +kernel
theorem dL_receiptDuty_4 : decode cL_receiptDuty 4 = .ok (.invokevirtual 121, 3) := by decide +kernel
theorem dL_receiptDuty_7 : decode cL_receiptDuty 7 = .ok (.i2l, 1) := by decide +kernel
theorem dL_receiptDuty_8 : decode cL_receiptDuty 8 = .ok (.lastore, 1) := by decide +kernel
theorem dL_receiptDuty_9 : decode cL_receiptDuty 9 = .ok (.goto 6, 3) := by decide +kernel
theorem dL_receiptDuty_12 : decode cL_receiptDuty 12 = .ok (.astore_n 3, 1) := by decide +kernel
theorem dL_receiptDuty_13 : decode cL_receiptDuty 13 = .ok (.iconst 1, 1) := by decide +kernel
theorem dL_receiptDuty_14 : decode cL_receiptDuty 14 = .ok (.ireturn, 1) := by decide +kernel
theorem dL_receiptDuty_15 : decode cL_receiptDuty 15 = .ok (.iconst 0, 1) := by decide +kernel
theorem dL_receiptDuty_16 : decode cL_receiptDuty 16 = .ok (.ireturn, 1) := by decide +kernel
def rm_L_receiptDuty : Room := { frames := 8, cells := 2, slots := 12, locals := 133 }
set_option maxRecDepth 100000 in
set_option maxHeartbeats 4000000 in
theorem k_L_receiptDuty {l : Launch} {D : va_G} {cA : Nat → ClassId} {ad : Nat → Nat → Nat} {A : Nat → Prop} {ob : Nat} {cO : ClassId} (ax : Ax ad GC A) (hob : ¬ A ob) (hst : l.stackTraces = false) (p0 : Int32) (mm : Mm) (v : Int64) (Q9 : Int32 → Prop) (X9 : Nat → Mm → Prop) (h : w_X9_receiptDuty p0 mm Q9 X9) (hX : ∀ k0 m1, X9 k0 m1 → oK [1] k0) : Met l yL_receiptDuty (.codeWith yL_receiptDuty cL_receiptDuty 4 (some .int) [(0, 9, 12, 21)] :: TG) rm_L_receiptDuty (PcL D cA ad A ob cO [.ref (ad 0 1), .int p0, .ref ob] mm v) (QcL D cA ad A ob cO (QW tlI xA (fun r m' => Q9 r ∧ mm = m') X9)) 2 12 (AW A ob) := by
  refine enterL pl_L rfl (Nat.le_of_ble_eq_true rfl) ?_
  intro p e s m args below meth c QQ X htab hW hZ hE
  refine q_aload_n (j := 2) X dL_receiptDuty_0 rfl rfl ?_
  refine q_iconst X dL_receiptDuty_1 rfl ?_
  refine q_aload_n (j := 0) X dL_receiptDuty_2 rfl rfl ?_
  refine q_iload_n (j := 1) X dL_receiptDuty_3 rfl rfl ?_
  refine qW_call X hW hZ hob [.int p0] [.int 0, .ref ob] rfl rfl (Nat.le_of_ble_eq_true rfl) dL_receiptDuty_4 ⟨(Nat.le_of_ble_eq_true rfl), (Nat.le_of_ble_eq_true rfl)⟩ (c_X9_receiptDuty ax hst p0 mm Q9 X9 h) rfl rfl (gV kw_5_203 kw_5_204 kw_5_205 kw_1_1 kw_5_206) hy_X9_receiptDuty ⟨(Nat.le_of_ble_eq_true rfl), (Nat.le_of_ble_eq_true rfl)⟩ (fun k0 m1 hx => ?_) (fun r m1 hq => ?_)
  · have hk := hX _ _ hx
    unfold oK at hk
    simp only [List.mem_cons, List.not_mem_nil, or_false] at hk
    subst hk
    refine ⟨12, by decide, Ct1 (k1 := 1) htab rfl (by decide) (by decide) (X.2.2.2.2 _ kw_3_237), fun q => ?_⟩
    refine q_astore_n X dL_receiptDuty_12 rfl (Nat.le_of_ble_eq_true rfl) rfl ?_
    refine q_iconst X dL_receiptDuty_13 rfl ?_
    exact hE _ _ _ _ _ _ _ dL_receiptDuty_14 (Nat.le_of_ble_eq_true rfl) (Nat.le_of_ble_eq_true rfl) (Or.inr ⟨by decide, 1, rfl, hx⟩)
  · refine q_i2l X dL_receiptDuty_7 ?_
    refine qW_last X hW hob ax dL_receiptDuty_8 ?_
    refine q_goto X dL_receiptDuty_9 rfl ?_
    refine q_iconst X dL_receiptDuty_15 rfl ?_
    exact hE _ _ _ _ _ _ _ dL_receiptDuty_16 (Nat.le_of_ble_eq_true rfl) (Nat.le_of_ble_eq_true rfl) (Or.inl ⟨rfl, r, rfl, hq⟩)
theorem dL_receiptAge_0 : decode cL_receiptAge 0 = .ok (.aload_n 2, 1) := by decide +kernel
theorem dL_receiptAge_1 : decode cL_receiptAge 1 = .ok (.iconst 0, 1) := by decide +kernel
theorem dL_receiptAge_2 : decode cL_receiptAge 2 = .ok (.aload_n 0, 1) := by decide +kernel
theorem dL_receiptAge_3 : decode cL_receiptAge 3 = .ok (.iload_n 1, 1) := by decide +kernel
theorem dL_receiptAge_4 : decode cL_receiptAge 4 = .ok (.invokevirtual 124, 3) := by decide +kernel
theorem dL_receiptAge_7 : decode cL_receiptAge 7 = .ok (.i2l, 1) := by decide +kernel
theorem dL_receiptAge_8 : decode cL_receiptAge 8 = .ok (.lastore, 1) := by decide +kernel
theorem dL_receiptAge_9 : decode cL_receiptAge 9 = .ok (.goto 6, 3) := by decide +kernel
theorem dL_receiptAge_12 : decode cL_receiptAge 12 = .ok (.astore_n 3, 1) := by decide +kernel
theorem dL_receiptAge_13 : decode cL_receiptAge 13 = .ok (.iconst 1, 1) := by decide +kernel
theorem dL_receiptAge_14 : decode cL_receiptAge 14 = .ok (.ireturn, 1) := by decide +kernel
theorem dL_receiptAge_15 : decode cL_receiptAge 15 = .ok (.iconst 0, 1) := by decide +kernel
theorem dL_receiptAge_16 : decode cL_receiptAge 16 = .ok (.ireturn, 1) := by decide +kernel
def rm_L_receiptAge : Room := { frames := 8, cells := 2, slots := 12, locals := 133 }
set_option maxRecDepth 100000 in
set_option maxHeartbeats 4000000 in
theorem k_L_receiptAge {l : Launch} {D : va_G} {cA : Nat → ClassId} {ad : Nat → Nat → Nat} {A : Nat → Prop} {ob : Nat} {cO : ClassId} (ax : Ax ad GC A) (hob : ¬ A ob) (hst : l.stackTraces = false) (p0 : Int32) (mm : Mm) (v : Int64) (Q9 : Int32 → Prop) (X9 : Nat → Mm → Prop) (h : w_X9_receiptAge p0 mm Q9 X9) (hX : ∀ k0 m1, X9 k0 m1 → oK [1] k0) : Met l yL_receiptAge (.codeWith yL_receiptAge cL_receiptAge 4 (some .int) [(0, 9, 12, 21)] :: TG) rm_L_receiptAge (PcL D cA ad A ob cO [.ref (ad 0 1), .int p0, .ref ob] mm v) (QcL D cA ad A ob cO (QW tlI xA (fun r m' => Q9 r ∧ mm = m') X9)) 2 12 (AW A ob) := by
  refine enterL pl_L rfl (Nat.le_of_ble_eq_true rfl) ?_
  intro p e s m args below meth c QQ X htab hW hZ hE
  refine q_aload_n (j := 2) X dL_receiptAge_0 rfl rfl ?_
  refine q_iconst X dL_receiptAge_1 rfl ?_
  refine q_aload_n (j := 0) X dL_receiptAge_2 rfl rfl ?_
  refine q_iload_n (j := 1) X dL_receiptAge_3 rfl rfl ?_
  refine qW_call X hW hZ hob [.int p0] [.int 0, .ref ob] rfl rfl (Nat.le_of_ble_eq_true rfl) dL_receiptAge_4 ⟨(Nat.le_of_ble_eq_true rfl), (Nat.le_of_ble_eq_true rfl)⟩ (c_X9_receiptAge ax hst p0 mm Q9 X9 h) rfl rfl (gV kw_5_210 kw_5_211 kw_5_212 kw_1_1 kw_5_213) hy_X9_receiptAge ⟨(Nat.le_of_ble_eq_true rfl), (Nat.le_of_ble_eq_true rfl)⟩ (fun k0 m1 hx => ?_) (fun r m1 hq => ?_)
  · have hk := hX _ _ hx
    unfold oK at hk
    simp only [List.mem_cons, List.not_mem_nil, or_false] at hk
    subst hk
    refine ⟨12, by decide, Ct1 (k1 := 1) htab rfl (by decide) (by decide) (X.2.2.2.2 _ kw_3_237), fun q => ?_⟩
    refine q_astore_n X dL_receiptAge_12 rfl (Nat.le_of_ble_eq_true rfl) rfl ?_
    refine q_iconst X dL_receiptAge_13 rfl ?_
    exact hE _ _ _ _ _ _ _ dL_receiptAge_14 (Nat.le_of_ble_eq_true rfl) (Nat.le_of_ble_eq_true rfl) (Or.inr ⟨by decide, 1, rfl, hx⟩)
  · refine q_i2l X dL_receiptAge_7 ?_
    refine qW_last X hW hob ax dL_receiptAge_8 ?_
    refine q_goto X dL_receiptAge_9 rfl ?_
    refine q_iconst X dL_receiptAge_15 rfl ?_
    exact hE _ _ _ _ _ _ _ dL_receiptAge_16 (Nat.le_of_ble_eq_true rfl) (Nat.le_of_ble_eq_true rfl) (Or.inl ⟨rfl, r, rfl, hq⟩)
theorem dL_rateByValue_0 : decode cL_rateByValue 0 = .ok (.aload_n 2, 1) := by decide +kernel
theorem dL_rateByValue_1 : decode cL_rateByValue 1 = .ok (.iconst 0, 1) := by decide +kernel
theorem dL_rateByValue_2 : decode cL_rateByValue 2 = .ok (.aload_n 0, 1) := by decide +kernel
theorem dL_rateByValue_3 : decode cL_rateByValue 3 = .ok (.iload_n 1, 1) := by decide +kernel
theorem dL_rateByValue_4 : decode cL_rateByValue 4 = .ok (.invokevirtual 127, 3) := by decide +kernel
theorem dL_rateByValue_7 : decode cL_rateByValue 7 = .ok (.i2l, 1) := by decide +kernel
theorem dL_rateByValue_8 : decode cL_rateByValue 8 = .ok (.lastore, 1) := by decide +kernel
theorem dL_rateByValue_9 : decode cL_rateByValue 9 = .ok (.goto 6, 3) := by decide +kernel
theorem dL_rateByValue_12 : decode cL_rateByValue 12 = .ok (.astore_n 3, 1) := by decide +kernel
theorem dL_rateByValue_13 : decode cL_rateByValue 13 = .ok (.iconst 1, 1) := by decide +kernel
theorem dL_rateByValue_14 : decode cL_rateByValue 14 = .ok (.ireturn, 1) := by decide +kernel
theorem dL_rateByValue_15 : decode cL_rateByValue 15 = .ok (.iconst 0, 1) := by decide +kernel
theorem dL_rateByValue_16 : decode cL_rateByValue 16 = .ok (.ireturn, 1) := by decide +kernel
def rm_L_rateByValue : Room := { frames := 9, cells := 2, slots := 12, locals := 154 }
set_option maxRecDepth 100000 in
set_option maxHeartbeats 4000000 in
theorem k_L_rateByValue {l : Launch} {D : va_G} {cA : Nat → ClassId} {ad : Nat → Nat → Nat} {A : Nat → Prop} {ob : Nat} {cO : ClassId} (ax : Ax ad GC A) (hob : ¬ A ob) (hst : l.stackTraces = false) (p0 : Int32) (mm : Mm) (v : Int64) (Q9 : Int32 → Prop) (X9 : Nat → Mm → Prop) (h : w_X9_rateByValue p0 mm Q9 X9) (hX : ∀ k0 m1, X9 k0 m1 → oK [2] k0) : Met l yL_rateByValue (.codeWith yL_rateByValue cL_rateByValue 4 (some .int) [(0, 9, 12, 13)] :: TG) rm_L_rateByValue (PcL D cA ad A ob cO [.ref (ad 0 1), .int p0, .ref ob] mm v) (QcL D cA ad A ob cO (QW tlI xB (fun r m' => Q9 r ∧ mm = m') X9)) 2 12 (AW A ob) := by
  refine enterL pl_L rfl (Nat.le_of_ble_eq_true rfl) ?_
  intro p e s m args below meth c QQ X htab hW hZ hE
  refine q_aload_n (j := 2) X dL_rateByValue_0 rfl rfl ?_
  refine q_iconst X dL_rateByValue_1 rfl ?_
  refine q_aload_n (j := 0) X dL_rateByValue_2 rfl rfl ?_
  refine q_iload_n (j := 1) X dL_rateByValue_3 rfl rfl ?_
  refine qW_call X hW hZ hob [.int p0] [.int 0, .ref ob] rfl rfl (Nat.le_of_ble_eq_true rfl) dL_rateByValue_4 ⟨(Nat.le_of_ble_eq_true rfl), (Nat.le_of_ble_eq_true rfl)⟩ (c_X9_rateByValue ax hst p0 mm Q9 X9 h) rfl rfl (gV kw_5_217 kw_5_218 kw_5_219 kw_1_1 kw_5_220) hy_X9_rateByValue ⟨(Nat.le_of_ble_eq_true rfl), (Nat.le_of_ble_eq_true rfl)⟩ (fun k0 m1 hx => ?_) (fun r m1 hq => ?_)
  · have hk := hX _ _ hx
    unfold oK at hk
    simp only [List.mem_cons, List.not_mem_nil, or_false] at hk
    subst hk
    refine ⟨12, by decide, Ct1 (k1 := 2) htab rfl (by decide) (by decide) (X.2.2.2.2 _ kw_3_68), fun q => ?_⟩
    refine q_astore_n X dL_rateByValue_12 rfl (Nat.le_of_ble_eq_true rfl) rfl ?_
    refine q_iconst X dL_rateByValue_13 rfl ?_
    exact hE _ _ _ _ _ _ _ dL_rateByValue_14 (Nat.le_of_ble_eq_true rfl) (Nat.le_of_ble_eq_true rfl) (Or.inr ⟨by decide, 2, rfl, hx⟩)
  · refine q_i2l X dL_rateByValue_7 ?_
    refine qW_last X hW hob ax dL_rateByValue_8 ?_
    refine q_goto X dL_rateByValue_9 rfl ?_
    refine q_iconst X dL_rateByValue_15 rfl ?_
    exact hE _ _ _ _ _ _ _ dL_rateByValue_16 (Nat.le_of_ble_eq_true rfl) (Nat.le_of_ble_eq_true rfl) (Or.inl ⟨rfl, r, rfl, hq⟩)
theorem dL_rateByWeight_0 : decode cL_rateByWeight 0 = .ok (.aload_n 2, 1) := by decide +kernel
theorem dL_rateByWeight_1 : decode cL_rateByWeight 1 = .ok (.iconst 0, 1) := by decide +kernel
theorem dL_rateByWeight_2 : decode cL_rateByWeight 2 = .ok (.aload_n 0, 1) := by decide +kernel
theorem dL_rateByWeight_3 : decode cL_rateByWeight 3 = .ok (.iload_n 1, 1) := by decide +kernel
theorem dL_rateByWeight_4 : decode cL_rateByWeight 4 = .ok (.invokevirtual 130, 3) := by decide +kernel
theorem dL_rateByWeight_7 : decode cL_rateByWeight 7 = .ok (.i2l, 1) := by decide +kernel
theorem dL_rateByWeight_8 : decode cL_rateByWeight 8 = .ok (.lastore, 1) := by decide +kernel
theorem dL_rateByWeight_9 : decode cL_rateByWeight 9 = .ok (.goto 6, 3) := by decide +kernel
theorem dL_rateByWeight_12 : decode cL_rateByWeight 12 = .ok (.astore_n 3, 1) := by decide +kernel
theorem dL_rateByWeight_13 : decode cL_rateByWeight 13 = .ok (.iconst 1, 1) := by decide +kernel
theorem dL_rateByWeight_14 : decode cL_rateByWeight 14 = .ok (.ireturn, 1) := by decide +kernel
theorem dL_rateByWeight_15 : decode cL_rateByWeight 15 = .ok (.iconst 0, 1) := by decide +kernel
theorem dL_rateByWeight_16 : decode cL_rateByWeight 16 = .ok (.ireturn, 1) := by decide +kernel
def rm_L_rateByWeight : Room := { frames := 9, cells := 2, slots := 12, locals := 154 }
set_option maxRecDepth 100000 in
set_option maxHeartbeats 4000000 in
theorem k_L_rateByWeight {l : Launch} {D : va_G} {cA : Nat → ClassId} {ad : Nat → Nat → Nat} {A : Nat → Prop} {ob : Nat} {cO : ClassId} (ax : Ax ad GC A) (hob : ¬ A ob) (hst : l.stackTraces = false) (p0 : Int32) (mm : Mm) (v : Int64) (Q9 : Int32 → Prop) (X9 : Nat → Mm → Prop) (h : w_X9_rateByWeight p0 mm Q9 X9) (hX : ∀ k0 m1, X9 k0 m1 → oK [2] k0) : Met l yL_rateByWeight (.codeWith yL_rateByWeight cL_rateByWeight 4 (some .int) [(0, 9, 12, 13)] :: TG) rm_L_rateByWeight (PcL D cA ad A ob cO [.ref (ad 0 1), .int p0, .ref ob] mm v) (QcL D cA ad A ob cO (QW tlI xB (fun r m' => Q9 r ∧ mm = m') X9)) 2 12 (AW A ob) := by
  refine enterL pl_L rfl (Nat.le_of_ble_eq_true rfl) ?_
  intro p e s m args below meth c QQ X htab hW hZ hE
  refine q_aload_n (j := 2) X dL_rateByWeight_0 rfl rfl ?_
  refine q_iconst X dL_rateByWeight_1 rfl ?_
  refine q_aload_n (j := 0) X dL_rateByWeight_2 rfl rfl ?_
  refine q_iload_n (j := 1) X dL_rateByWeight_3 rfl rfl ?_
  refine qW_call X hW hZ hob [.int p0] [.int 0, .ref ob] rfl rfl (Nat.le_of_ble_eq_true rfl) dL_rateByWeight_4 ⟨(Nat.le_of_ble_eq_true rfl), (Nat.le_of_ble_eq_true rfl)⟩ (c_X9_rateByWeight ax hst p0 mm Q9 X9 h) rfl rfl (gV kw_5_228 kw_5_229 kw_5_230 kw_1_1 kw_5_231) hy_X9_rateByWeight ⟨(Nat.le_of_ble_eq_true rfl), (Nat.le_of_ble_eq_true rfl)⟩ (fun k0 m1 hx => ?_) (fun r m1 hq => ?_)
  · have hk := hX _ _ hx
    unfold oK at hk
    simp only [List.mem_cons, List.not_mem_nil, or_false] at hk
    subst hk
    refine ⟨12, by decide, Ct1 (k1 := 2) htab rfl (by decide) (by decide) (X.2.2.2.2 _ kw_3_68), fun q => ?_⟩
    refine q_astore_n X dL_rateByWeight_12 rfl (Nat.le_of_ble_eq_true rfl) rfl ?_
    refine q_iconst X dL_rateByWeight_13 rfl ?_
    exact hE _ _ _ _ _ _ _ dL_rateByWeight_14 (Nat.le_of_ble_eq_true rfl) (Nat.le_of_ble_eq_true rfl) (Or.inr ⟨by decide, 2, rfl, hx⟩)
  · refine q_i2l X dL_rateByWeight_7 ?_
    refine qW_last X hW hob ax dL_rateByWeight_8 ?_
    refine q_goto X dL_rateByWeight_9 rfl ?_
    refine q_iconst X dL_rateByWeight_15 rfl ?_
    exact hE _ _ _ _ _ _ _ dL_rateByWeight_16 (Nat.le_of_ble_eq_true rfl) (Nat.le_of_ble_eq_true rfl) (Or.inl ⟨rfl, r, rfl, hq⟩)
theorem dL_entered_0 : decode cL_entered 0 = .ok (.aload_n 2, 1) := by decide +kernel
theorem dL_entered_1 : decode cL_entered 1 = .ok (.iconst 0, 1) := by decide +kernel
theorem dL_entered_2 : decode cL_entered 2 = .ok (.aload_n 0, 1) := by decide +kernel
theorem dL_entered_3 : decode cL_entered 3 = .ok (.iload_n 1, 1) := by decide +kernel
theorem dL_entered_4 : decode cL_entered 4 = .ok (.invokevirtual 133, 3) := by decide +kernel
theorem dL_entered_7 : decode cL_entered 7 = .ok (.i2l, 1) := by decide +kernel
theorem dL_entered_8 : decode cL_entered 8 = .ok (.lastore, 1) := by decide +kernel
theorem dL_entered_9 : decode cL_entered 9 = .ok (.goto 6, 3) := by decide +kernel
theorem dL_entered_12 : decode cL_entered 12 = .ok (.astore_n 3, 1) := by decide +kernel
theorem dL_entered_13 : decode cL_entered 13 = .ok (.iconst 1, 1) := by decide +kernel
theorem dL_entered_14 : decode cL_entered 14 = .ok (.ireturn, 1) := by decide +kernel
theorem dL_entered_15 : decode cL_entered 15 = .ok (.iconst 0, 1) := by decide +kernel
theorem dL_entered_16 : decode cL_entered 16 = .ok (.ireturn, 1) := by decide +kernel
def rm_L_entered : Room := { frames := 9, cells := 2, slots := 12, locals := 154 }
set_option maxRecDepth 100000 in
set_option maxHeartbeats 4000000 in
theorem k_L_entered {l : Launch} {D : va_G} {cA : Nat → ClassId} {ad : Nat → Nat → Nat} {A : Nat → Prop} {ob : Nat} {cO : ClassId} (ax : Ax ad GC A) (hob : ¬ A ob) (hst : l.stackTraces = false) (p0 : Int32) (mm : Mm) (v : Int64) (Q9 : Int32 → Prop) (X9 : Nat → Mm → Prop) (h : w_X9_entered p0 mm Q9 X9) (hX : ∀ k0 m1, X9 k0 m1 → oK [2] k0) : Met l yL_entered (.codeWith yL_entered cL_entered 4 (some .int) [(0, 9, 12, 13)] :: TG) rm_L_entered (PcL D cA ad A ob cO [.ref (ad 0 1), .int p0, .ref ob] mm v) (QcL D cA ad A ob cO (QW tlI xB (fun r m' => Q9 r ∧ mm = m') X9)) 2 12 (AW A ob) := by
  refine enterL pl_L rfl (Nat.le_of_ble_eq_true rfl) ?_
  intro p e s m args below meth c QQ X htab hW hZ hE
  refine q_aload_n (j := 2) X dL_entered_0 rfl rfl ?_
  refine q_iconst X dL_entered_1 rfl ?_
  refine q_aload_n (j := 0) X dL_entered_2 rfl rfl ?_
  refine q_iload_n (j := 1) X dL_entered_3 rfl rfl ?_
  refine qW_call X hW hZ hob [.int p0] [.int 0, .ref ob] rfl rfl (Nat.le_of_ble_eq_true rfl) dL_entered_4 ⟨(Nat.le_of_ble_eq_true rfl), (Nat.le_of_ble_eq_true rfl)⟩ (c_X9_entered ax hst p0 mm Q9 X9 h) rfl rfl (gV kw_5_235 kw_5_236 kw_5_237 kw_1_1 kw_5_238) hy_X9_entered ⟨(Nat.le_of_ble_eq_true rfl), (Nat.le_of_ble_eq_true rfl)⟩ (fun k0 m1 hx => ?_) (fun r m1 hq => ?_)
  · have hk := hX _ _ hx
    unfold oK at hk
    simp only [List.mem_cons, List.not_mem_nil, or_false] at hk
    subst hk
    refine ⟨12, by decide, Ct1 (k1 := 2) htab rfl (by decide) (by decide) (X.2.2.2.2 _ kw_3_68), fun q => ?_⟩
    refine q_astore_n X dL_entered_12 rfl (Nat.le_of_ble_eq_true rfl) rfl ?_
    refine q_iconst X dL_entered_13 rfl ?_
    exact hE _ _ _ _ _ _ _ dL_entered_14 (Nat.le_of_ble_eq_true rfl) (Nat.le_of_ble_eq_true rfl) (Or.inr ⟨by decide, 2, rfl, hx⟩)
  · refine q_i2l X dL_entered_7 ?_
    refine qW_last X hW hob ax dL_entered_8 ?_
    refine q_goto X dL_entered_9 rfl ?_
    refine q_iconst X dL_entered_15 rfl ?_
    exact hE _ _ _ _ _ _ _ dL_entered_16 (Nat.le_of_ble_eq_true rfl) (Nat.le_of_ble_eq_true rfl) (Or.inl ⟨rfl, r, rfl, hq⟩)
theorem dL_withdrawn_0 : decode cL_withdrawn 0 = .ok (.aload_n 2, 1) := by decide +kernel
theorem dL_withdrawn_1 : decode cL_withdrawn 1 = .ok (.iconst 0, 1) := by decide +kernel
theorem dL_withdrawn_2 : decode cL_withdrawn 2 = .ok (.aload_n 0, 1) := by decide +kernel
theorem dL_withdrawn_3 : decode cL_withdrawn 3 = .ok (.iload_n 1, 1) := by decide +kernel
theorem dL_withdrawn_4 : decode cL_withdrawn 4 = .ok (.invokevirtual 136, 3) := by decide +kernel
theorem dL_withdrawn_7 : decode cL_withdrawn 7 = .ok (.i2l, 1) := by decide +kernel
theorem dL_withdrawn_8 : decode cL_withdrawn 8 = .ok (.lastore, 1) := by decide +kernel
theorem dL_withdrawn_9 : decode cL_withdrawn 9 = .ok (.goto 6, 3) := by decide +kernel
theorem dL_withdrawn_12 : decode cL_withdrawn 12 = .ok (.astore_n 3, 1) := by decide +kernel
theorem dL_withdrawn_13 : decode cL_withdrawn 13 = .ok (.iconst 1, 1) := by decide +kernel
theorem dL_withdrawn_14 : decode cL_withdrawn 14 = .ok (.ireturn, 1) := by decide +kernel
theorem dL_withdrawn_15 : decode cL_withdrawn 15 = .ok (.iconst 0, 1) := by decide +kernel
theorem dL_withdrawn_16 : decode cL_withdrawn 16 = .ok (.ireturn, 1) := by decide +kernel
def rm_L_withdrawn : Room := { frames := 9, cells := 2, slots := 12, locals := 154 }
set_option maxRecDepth 100000 in
set_option maxHeartbeats 4000000 in
theorem k_L_withdrawn {l : Launch} {D : va_G} {cA : Nat → ClassId} {ad : Nat → Nat → Nat} {A : Nat → Prop} {ob : Nat} {cO : ClassId} (ax : Ax ad GC A) (hob : ¬ A ob) (hst : l.stackTraces = false) (p0 : Int32) (mm : Mm) (v : Int64) (Q9 : Int32 → Prop) (X9 : Nat → Mm → Prop) (h : w_X9_withdrawn p0 mm Q9 X9) (hX : ∀ k0 m1, X9 k0 m1 → oK [2] k0) : Met l yL_withdrawn (.codeWith yL_withdrawn cL_withdrawn 4 (some .int) [(0, 9, 12, 13)] :: TG) rm_L_withdrawn (PcL D cA ad A ob cO [.ref (ad 0 1), .int p0, .ref ob] mm v) (QcL D cA ad A ob cO (QW tlI xB (fun r m' => Q9 r ∧ mm = m') X9)) 2 12 (AW A ob) := by
  refine enterL pl_L rfl (Nat.le_of_ble_eq_true rfl) ?_
  intro p e s m args below meth c QQ X htab hW hZ hE
  refine q_aload_n (j := 2) X dL_withdrawn_0 rfl rfl ?_
  refine q_iconst X dL_withdrawn_1 rfl ?_
  refine q_aload_n (j := 0) X dL_withdrawn_2 rfl rfl ?_
  refine q_iload_n (j := 1) X dL_withdrawn_3 rfl rfl ?_
  refine qW_call X hW hZ hob [.int p0] [.int 0, .ref ob] rfl rfl (Nat.le_of_ble_eq_true rfl) dL_withdrawn_4 ⟨(Nat.le_of_ble_eq_true rfl), (Nat.le_of_ble_eq_true rfl)⟩ (c_X9_withdrawn ax hst p0 mm Q9 X9 h) rfl rfl (gV kw_6_2 kw_6_3 kw_6_4 kw_1_1 kw_6_5) hy_X9_withdrawn ⟨(Nat.le_of_ble_eq_true rfl), (Nat.le_of_ble_eq_true rfl)⟩ (fun k0 m1 hx => ?_) (fun r m1 hq => ?_)
  · have hk := hX _ _ hx
    unfold oK at hk
    simp only [List.mem_cons, List.not_mem_nil, or_false] at hk
    subst hk
    refine ⟨12, by decide, Ct1 (k1 := 2) htab rfl (by decide) (by decide) (X.2.2.2.2 _ kw_3_68), fun q => ?_⟩
    refine q_astore_n X dL_withdrawn_12 rfl (Nat.le_of_ble_eq_true rfl) rfl ?_
    refine q_iconst X dL_withdrawn_13 rfl ?_
    exact hE _ _ _ _ _ _ _ dL_withdrawn_14 (Nat.le_of_ble_eq_true rfl) (Nat.le_of_ble_eq_true rfl) (Or.inr ⟨by decide, 2, rfl, hx⟩)
  · refine q_i2l X dL_withdrawn_7 ?_
    refine qW_last X hW hob ax dL_withdrawn_8 ?_
    refine q_goto X dL_withdrawn_9 rfl ?_
    refine q_iconst X dL_withdrawn_15 rfl ?_
    exact hE _ _ _ _ _ _ _ dL_withdrawn_16 (Nat.le_of_ble_eq_true rfl) (Nat.le_of_ble_eq_true rfl) (Or.inl ⟨rfl, r, rfl, hq⟩)
theorem dL_sentAbroad_0 : decode cL_sentAbroad 0 = .ok (.aload_n 2, 1) := by decide +kernel
theorem dL_sentAbroad_1 : decode cL_sentAbroad 1 = .ok (.iconst 0, 1) := by decide +kernel
theorem dL_sentAbroad_2 : decode cL_sentAbroad 2 = .ok (.aload_n 0, 1) := by decide +kernel
theorem dL_sentAbroad_3 : decode cL_sentAbroad 3 = .ok (.iload_n 1, 1) := by decide +kernel
theorem dL_sentAbroad_4 : decode cL_sentAbroad 4 = .ok (.invokevirtual 139, 3) := by decide +kernel
theorem dL_sentAbroad_7 : decode cL_sentAbroad 7 = .ok (.i2l, 1) := by decide +kernel
theorem dL_sentAbroad_8 : decode cL_sentAbroad 8 = .ok (.lastore, 1) := by decide +kernel
theorem dL_sentAbroad_9 : decode cL_sentAbroad 9 = .ok (.goto 6, 3) := by decide +kernel
theorem dL_sentAbroad_12 : decode cL_sentAbroad 12 = .ok (.astore_n 3, 1) := by decide +kernel
theorem dL_sentAbroad_13 : decode cL_sentAbroad 13 = .ok (.iconst 1, 1) := by decide +kernel
theorem dL_sentAbroad_14 : decode cL_sentAbroad 14 = .ok (.ireturn, 1) := by decide +kernel
theorem dL_sentAbroad_15 : decode cL_sentAbroad 15 = .ok (.iconst 0, 1) := by decide +kernel
theorem dL_sentAbroad_16 : decode cL_sentAbroad 16 = .ok (.ireturn, 1) := by decide +kernel
def rm_L_sentAbroad : Room := { frames := 9, cells := 2, slots := 12, locals := 154 }
set_option maxRecDepth 100000 in
set_option maxHeartbeats 4000000 in
theorem k_L_sentAbroad {l : Launch} {D : va_G} {cA : Nat → ClassId} {ad : Nat → Nat → Nat} {A : Nat → Prop} {ob : Nat} {cO : ClassId} (ax : Ax ad GC A) (hob : ¬ A ob) (hst : l.stackTraces = false) (p0 : Int32) (mm : Mm) (v : Int64) (Q9 : Int32 → Prop) (X9 : Nat → Mm → Prop) (h : w_X9_sentAbroad p0 mm Q9 X9) (hX : ∀ k0 m1, X9 k0 m1 → oK [2] k0) : Met l yL_sentAbroad (.codeWith yL_sentAbroad cL_sentAbroad 4 (some .int) [(0, 9, 12, 13)] :: TG) rm_L_sentAbroad (PcL D cA ad A ob cO [.ref (ad 0 1), .int p0, .ref ob] mm v) (QcL D cA ad A ob cO (QW tlI xB (fun r m' => Q9 r ∧ mm = m') X9)) 2 12 (AW A ob) := by
  refine enterL pl_L rfl (Nat.le_of_ble_eq_true rfl) ?_
  intro p e s m args below meth c QQ X htab hW hZ hE
  refine q_aload_n (j := 2) X dL_sentAbroad_0 rfl rfl ?_
  refine q_iconst X dL_sentAbroad_1 rfl ?_
  refine q_aload_n (j := 0) X dL_sentAbroad_2 rfl rfl ?_
  refine q_iload_n (j := 1) X dL_sentAbroad_3 rfl rfl ?_
  refine qW_call X hW hZ hob [.int p0] [.int 0, .ref ob] rfl rfl (Nat.le_of_ble_eq_true rfl) dL_sentAbroad_4 ⟨(Nat.le_of_ble_eq_true rfl), (Nat.le_of_ble_eq_true rfl)⟩ (c_X9_sentAbroad ax hst p0 mm Q9 X9 h) rfl rfl (gV kw_6_9 kw_6_10 kw_6_11 kw_1_1 kw_6_12) hy_X9_sentAbroad ⟨(Nat.le_of_ble_eq_true rfl), (Nat.le_of_ble_eq_true rfl)⟩ (fun k0 m1 hx => ?_) (fun r m1 hq => ?_)
  · have hk := hX _ _ hx
    unfold oK at hk
    simp only [List.mem_cons, List.not_mem_nil, or_false] at hk
    subst hk
    refine ⟨12, by decide, Ct1 (k1 := 2) htab rfl (by decide) (by decide) (X.2.2.2.2 _ kw_3_68), fun q => ?_⟩
    refine q_astore_n X dL_sentAbroad_12 rfl (Nat.le_of_ble_eq_true rfl) rfl ?_
    refine q_iconst X dL_sentAbroad_13 rfl ?_
    exact hE _ _ _ _ _ _ _ dL_sentAbroad_14 (Nat.le_of_ble_eq_true rfl) (Nat.le_of_ble_eq_true rfl) (Or.inr ⟨by decide, 2, rfl, hx⟩)
  · refine q_i2l X dL_sentAbroad_7 ?_
    refine qW_last X hW hob ax dL_sentAbroad_8 ?_
    refine q_goto X dL_sentAbroad_9 rfl ?_
    refine q_iconst X dL_sentAbroad_15 rfl ?_
    exact hE _ _ _ _ _ _ _ dL_sentAbroad_16 (Nat.le_of_ble_eq_true rfl) (Nat.le_of_ble_eq_true rfl) (Or.inl ⟨rfl, r, rfl, hq⟩)
theorem dL_wasted_0 : decode cL_wasted 0 = .ok (.aload_n 2, 1) := by decide +kernel
theorem dL_wasted_1 : decode cL_wasted 1 = .ok (.iconst 0, 1) := by decide +kernel
theorem dL_wasted_2 : decode cL_wasted 2 = .ok (.aload_n 0, 1) := by decide +kernel
theorem dL_wasted_3 : decode cL_wasted 3 = .ok (.iload_n 1, 1) := by decide +kernel
theorem dL_wasted_4 : decode cL_wasted 4 = .ok (.invokevirtual 142, 3) := by decide +kernel
theorem dL_wasted_7 : decode cL_wasted 7 = .ok (.i2l, 1) := by decide +kernel
theorem dL_wasted_8 : decode cL_wasted 8 = .ok (.lastore, 1) := by decide +kernel
theorem dL_wasted_9 : decode cL_wasted 9 = .ok (.goto 6, 3) := by decide +kernel
theorem dL_wasted_12 : decode cL_wasted 12 = .ok (.astore_n 3, 1) := by decide +kernel
theorem dL_wasted_13 : decode cL_wasted 13 = .ok (.iconst 1, 1) := by decide +kernel
theorem dL_wasted_14 : decode cL_wasted 14 = .ok (.ireturn, 1) := by decide +kernel
theorem dL_wasted_15 : decode cL_wasted 15 = .ok (.iconst 0, 1) := by decide +kernel
theorem dL_wasted_16 : decode cL_wasted 16 = .ok (.ireturn, 1) := by decide +kernel
def rm_L_wasted : Room := { frames := 9, cells := 2, slots := 12, locals := 154 }
set_option maxRecDepth 100000 in
set_option maxHeartbeats 4000000 in
theorem k_L_wasted {l : Launch} {D : va_G} {cA : Nat → ClassId} {ad : Nat → Nat → Nat} {A : Nat → Prop} {ob : Nat} {cO : ClassId} (ax : Ax ad GC A) (hob : ¬ A ob) (hst : l.stackTraces = false) (p0 : Int32) (mm : Mm) (v : Int64) (Q9 : Int32 → Prop) (X9 : Nat → Mm → Prop) (h : w_X9_wasted p0 mm Q9 X9) (hX : ∀ k0 m1, X9 k0 m1 → oK [2] k0) : Met l yL_wasted (.codeWith yL_wasted cL_wasted 4 (some .int) [(0, 9, 12, 13)] :: TG) rm_L_wasted (PcL D cA ad A ob cO [.ref (ad 0 1), .int p0, .ref ob] mm v) (QcL D cA ad A ob cO (QW tlI xB (fun r m' => Q9 r ∧ mm = m') X9)) 2 12 (AW A ob) := by
  refine enterL pl_L rfl (Nat.le_of_ble_eq_true rfl) ?_
  intro p e s m args below meth c QQ X htab hW hZ hE
  refine q_aload_n (j := 2) X dL_wasted_0 rfl rfl ?_
  refine q_iconst X dL_wasted_1 rfl ?_
  refine q_aload_n (j := 0) X dL_wasted_2 rfl rfl ?_
  refine q_iload_n (j := 1) X dL_wasted_3 rfl rfl ?_
  refine qW_call X hW hZ hob [.int p0] [.int 0, .ref ob] rfl rfl (Nat.le_of_ble_eq_true rfl) dL_wasted_4 ⟨(Nat.le_of_ble_eq_true rfl), (Nat.le_of_ble_eq_true rfl)⟩ (c_X9_wasted ax hst p0 mm Q9 X9 h) rfl rfl (gV kw_6_16 kw_6_17 kw_6_18 kw_1_1 kw_6_19) hy_X9_wasted ⟨(Nat.le_of_ble_eq_true rfl), (Nat.le_of_ble_eq_true rfl)⟩ (fun k0 m1 hx => ?_) (fun r m1 hq => ?_)
  · have hk := hX _ _ hx
    unfold oK at hk
    simp only [List.mem_cons, List.not_mem_nil, or_false] at hk
    subst hk
    refine ⟨12, by decide, Ct1 (k1 := 2) htab rfl (by decide) (by decide) (X.2.2.2.2 _ kw_3_68), fun q => ?_⟩
    refine q_astore_n X dL_wasted_12 rfl (Nat.le_of_ble_eq_true rfl) rfl ?_
    refine q_iconst X dL_wasted_13 rfl ?_
    exact hE _ _ _ _ _ _ _ dL_wasted_14 (Nat.le_of_ble_eq_true rfl) (Nat.le_of_ble_eq_true rfl) (Or.inr ⟨by decide, 2, rfl, hx⟩)
  · refine q_i2l X dL_wasted_7 ?_
    refine qW_last X hW hob ax dL_wasted_8 ?_
    refine q_goto X dL_wasted_9 rfl ?_
    refine q_iconst X dL_wasted_15 rfl ?_
    exact hE _ _ _ _ _ _ _ dL_wasted_16 (Nat.le_of_ble_eq_true rfl) (Nat.le_of_ble_eq_true rfl) (Or.inl ⟨rfl, r, rfl, hq⟩)
theorem dL_lost_0 : decode cL_lost 0 = .ok (.aload_n 2, 1) := by decide +kernel
theorem dL_lost_1 : decode cL_lost 1 = .ok (.iconst 0, 1) := by decide +kernel
theorem dL_lost_2 : decode cL_lost 2 = .ok (.aload_n 0, 1) := by decide +kernel
theorem dL_lost_3 : decode cL_lost 3 = .ok (.iload_n 1, 1) := by decide +kernel
theorem dL_lost_4 : decode cL_lost 4 = .ok (.invokevirtual 145, 3) := by decide +kernel
theorem dL_lost_7 : decode cL_lost 7 = .ok (.i2l, 1) := by decide +kernel
theorem dL_lost_8 : decode cL_lost 8 = .ok (.lastore, 1) := by decide +kernel
theorem dL_lost_9 : decode cL_lost 9 = .ok (.goto 6, 3) := by decide +kernel
theorem dL_lost_12 : decode cL_lost 12 = .ok (.astore_n 3, 1) := by decide +kernel
theorem dL_lost_13 : decode cL_lost 13 = .ok (.iconst 1, 1) := by decide +kernel
theorem dL_lost_14 : decode cL_lost 14 = .ok (.ireturn, 1) := by decide +kernel
theorem dL_lost_15 : decode cL_lost 15 = .ok (.iconst 0, 1) := by decide +kernel
theorem dL_lost_16 : decode cL_lost 16 = .ok (.ireturn, 1) := by decide +kernel
def rm_L_lost : Room := { frames := 9, cells := 2, slots := 12, locals := 154 }
set_option maxRecDepth 100000 in
set_option maxHeartbeats 4000000 in
theorem k_L_lost {l : Launch} {D : va_G} {cA : Nat → ClassId} {ad : Nat → Nat → Nat} {A : Nat → Prop} {ob : Nat} {cO : ClassId} (ax : Ax ad GC A) (hob : ¬ A ob) (hst : l.stackTraces = false) (p0 : Int32) (mm : Mm) (v : Int64) (Q9 : Int32 → Prop) (X9 : Nat → Mm → Prop) (h : w_X9_lost p0 mm Q9 X9) (hX : ∀ k0 m1, X9 k0 m1 → oK [2] k0) : Met l yL_lost (.codeWith yL_lost cL_lost 4 (some .int) [(0, 9, 12, 13)] :: TG) rm_L_lost (PcL D cA ad A ob cO [.ref (ad 0 1), .int p0, .ref ob] mm v) (QcL D cA ad A ob cO (QW tlI xB (fun r m' => Q9 r ∧ mm = m') X9)) 2 12 (AW A ob) := by
  refine enterL pl_L rfl (Nat.le_of_ble_eq_true rfl) ?_
  intro p e s m args below meth c QQ X htab hW hZ hE
  refine q_aload_n (j := 2) X dL_lost_0 rfl rfl ?_
  refine q_iconst X dL_lost_1 rfl ?_
  refine q_aload_n (j := 0) X dL_lost_2 rfl rfl ?_
  refine q_iload_n (j := 1) X dL_lost_3 rfl rfl ?_
  refine qW_call X hW hZ hob [.int p0] [.int 0, .ref ob] rfl rfl (Nat.le_of_ble_eq_true rfl) dL_lost_4 ⟨(Nat.le_of_ble_eq_true rfl), (Nat.le_of_ble_eq_true rfl)⟩ (c_X9_lost ax hst p0 mm Q9 X9 h) rfl rfl (gV kw_6_23 kw_6_24 kw_6_25 kw_1_1 kw_6_26) hy_X9_lost ⟨(Nat.le_of_ble_eq_true rfl), (Nat.le_of_ble_eq_true rfl)⟩ (fun k0 m1 hx => ?_) (fun r m1 hq => ?_)
  · have hk := hX _ _ hx
    unfold oK at hk
    simp only [List.mem_cons, List.not_mem_nil, or_false] at hk
    subst hk
    refine ⟨12, by decide, Ct1 (k1 := 2) htab rfl (by decide) (by decide) (X.2.2.2.2 _ kw_3_68), fun q => ?_⟩
    refine q_astore_n X dL_lost_12 rfl (Nat.le_of_ble_eq_true rfl) rfl ?_
    refine q_iconst X dL_lost_13 rfl ?_
    exact hE _ _ _ _ _ _ _ dL_lost_14 (Nat.le_of_ble_eq_true rfl) (Nat.le_of_ble_eq_true rfl) (Or.inr ⟨by decide, 2, rfl, hx⟩)
  · refine q_i2l X dL_lost_7 ?_
    refine qW_last X hW hob ax dL_lost_8 ?_
    refine q_goto X dL_lost_9 rfl ?_
    refine q_iconst X dL_lost_15 rfl ?_
    exact hE _ _ _ _ _ _ _ dL_lost_16 (Nat.le_of_ble_eq_true rfl) (Nat.le_of_ble_eq_true rfl) (Or.inl ⟨rfl, r, rfl, hq⟩)
theorem dL_drawnBack_0 : decode cL_drawnBack 0 = .ok (.aload_n 2, 1) := by decide +kernel
theorem dL_drawnBack_1 : decode cL_drawnBack 1 = .ok (.iconst 0, 1) := by decide +kernel
theorem dL_drawnBack_2 : decode cL_drawnBack 2 = .ok (.aload_n 0, 1) := by decide +kernel
theorem dL_drawnBack_3 : decode cL_drawnBack 3 = .ok (.iload_n 1, 1) := by decide +kernel
theorem dL_drawnBack_4 : decode cL_drawnBack 4 = .ok (.invokevirtual 148, 3) := by decide +kernel
theorem dL_drawnBack_7 : decode cL_drawnBack 7 = .ok (.i2l, 1) := by decide +kernel
theorem dL_drawnBack_8 : decode cL_drawnBack 8 = .ok (.lastore, 1) := by decide +kernel
theorem dL_drawnBack_9 : decode cL_drawnBack 9 = .ok (.goto 6, 3) := by decide +kernel
theorem dL_drawnBack_12 : decode cL_drawnBack 12 = .ok (.astore_n 3, 1) := by decide +kernel
theorem dL_drawnBack_13 : decode cL_drawnBack 13 = .ok (.iconst 1, 1) := by decide +kernel
theorem dL_drawnBack_14 : decode cL_drawnBack 14 = .ok (.ireturn, 1) := by decide +kernel
theorem dL_drawnBack_15 : decode cL_drawnBack 15 = .ok (.iconst 0, 1) := by decide +kernel
theorem dL_drawnBack_16 : decode cL_drawnBack 16 = .ok (.ireturn, 1) := by decide +kernel
def rm_L_drawnBack : Room := { frames := 9, cells := 2, slots := 12, locals := 154 }
set_option maxRecDepth 100000 in
set_option maxHeartbeats 4000000 in
theorem k_L_drawnBack {l : Launch} {D : va_G} {cA : Nat → ClassId} {ad : Nat → Nat → Nat} {A : Nat → Prop} {ob : Nat} {cO : ClassId} (ax : Ax ad GC A) (hob : ¬ A ob) (hst : l.stackTraces = false) (p0 : Int32) (mm : Mm) (v : Int64) (Q9 : Int32 → Prop) (X9 : Nat → Mm → Prop) (h : w_X9_drawnBack p0 mm Q9 X9) (hX : ∀ k0 m1, X9 k0 m1 → oK [2] k0) : Met l yL_drawnBack (.codeWith yL_drawnBack cL_drawnBack 4 (some .int) [(0, 9, 12, 13)] :: TG) rm_L_drawnBack (PcL D cA ad A ob cO [.ref (ad 0 1), .int p0, .ref ob] mm v) (QcL D cA ad A ob cO (QW tlI xB (fun r m' => Q9 r ∧ mm = m') X9)) 2 12 (AW A ob) := by
  refine enterL pl_L rfl (Nat.le_of_ble_eq_true rfl) ?_
  intro p e s m args below meth c QQ X htab hW hZ hE
  refine q_aload_n (j := 2) X dL_drawnBack_0 rfl rfl ?_
  refine q_iconst X dL_drawnBack_1 rfl ?_
  refine q_aload_n (j := 0) X dL_drawnBack_2 rfl rfl ?_
  refine q_iload_n (j := 1) X dL_drawnBack_3 rfl rfl ?_
  refine qW_call X hW hZ hob [.int p0] [.int 0, .ref ob] rfl rfl (Nat.le_of_ble_eq_true rfl) dL_drawnBack_4 ⟨(Nat.le_of_ble_eq_true rfl), (Nat.le_of_ble_eq_true rfl)⟩ (c_X9_drawnBack ax hst p0 mm Q9 X9 h) rfl rfl (gV kw_6_30 kw_6_31 kw_6_32 kw_1_1 kw_6_33) hy_X9_drawnBack ⟨(Nat.le_of_ble_eq_true rfl), (Nat.le_of_ble_eq_true rfl)⟩ (fun k0 m1 hx => ?_) (fun r m1 hq => ?_)
  · have hk := hX _ _ hx
    unfold oK at hk
    simp only [List.mem_cons, List.not_mem_nil, or_false] at hk
    subst hk
    refine ⟨12, by decide, Ct1 (k1 := 2) htab rfl (by decide) (by decide) (X.2.2.2.2 _ kw_3_68), fun q => ?_⟩
    refine q_astore_n X dL_drawnBack_12 rfl (Nat.le_of_ble_eq_true rfl) rfl ?_
    refine q_iconst X dL_drawnBack_13 rfl ?_
    exact hE _ _ _ _ _ _ _ dL_drawnBack_14 (Nat.le_of_ble_eq_true rfl) (Nat.le_of_ble_eq_true rfl) (Or.inr ⟨by decide, 2, rfl, hx⟩)
  · refine q_i2l X dL_drawnBack_7 ?_
    refine qW_last X hW hob ax dL_drawnBack_8 ?_
    refine q_goto X dL_drawnBack_9 rfl ?_
    refine q_iconst X dL_drawnBack_15 rfl ?_
    exact hE _ _ _ _ _ _ _ dL_drawnBack_16 (Nat.le_of_ble_eq_true rfl) (Nat.le_of_ble_eq_true rfl) (Or.inl ⟨rfl, r, rfl, hq⟩)
theorem dL_stockByEntries_0 : decode cL_stockByEntries 0 = .ok (.aload_n 2, 1) := by decide +kernel
theorem dL_stockByEntries_1 : decode cL_stockByEntries 1 = .ok (.iconst 0, 1) := by decide +kernel
theorem dL_stockByEntries_2 : decode cL_stockByEntries 2 = .ok (.aload_n 0, 1) := by decide +kernel
theorem dL_stockByEntries_3 : decode cL_stockByEntries 3 = .ok (.iload_n 1, 1) := by decide +kernel
theorem dL_stockByEntries_4 : decode cL_stockByEntries 4 = .ok (.invokevirtual 151, 3) := by decide +kernel
theorem dL_stockByEntries_7 : decode cL_stockByEntries 7 = .ok (.i2l, 1) := by decide +kernel
theorem dL_stockByEntries_8 : decode cL_stockByEntries 8 = .ok (.lastore, 1) := by decide +kernel
theorem dL_stockByEntries_9 : decode cL_stockByEntries 9 = .ok (.goto 6, 3) := by decide +kernel
theorem dL_stockByEntries_12 : decode cL_stockByEntries 12 = .ok (.astore_n 3, 1) := by decide +kernel
theorem dL_stockByEntries_13 : decode cL_stockByEntries 13 = .ok (.iconst 1, 1) := by decide +kernel
theorem dL_stockByEntries_14 : decode cL_stockByEntries 14 = .ok (.ireturn, 1) := by decide +kernel
theorem dL_stockByEntries_15 : decode cL_stockByEntries 15 = .ok (.iconst 0, 1) := by decide +kernel
theorem dL_stockByEntries_16 : decode cL_stockByEntries 16 = .ok (.ireturn, 1) := by decide +kernel
def rm_L_stockByEntries : Room := { frames := 8, cells := 2, slots := 12, locals := 133 }
set_option maxRecDepth 100000 in
set_option maxHeartbeats 4000000 in
theorem k_L_stockByEntries {l : Launch} {D : va_G} {cA : Nat → ClassId} {ad : Nat → Nat → Nat} {A : Nat → Prop} {ob : Nat} {cO : ClassId} (ax : Ax ad GC A) (hob : ¬ A ob) (hst : l.stackTraces = false) (p0 : Int32) (mm : Mm) (v : Int64) (Q9 : Int32 → Prop) (X9 : Nat → Mm → Prop) (h : w_X9_stockByEntries p0 mm Q9 X9) (hX : ∀ k0 m1, X9 k0 m1 → oK [2] k0) : Met l yL_stockByEntries (.codeWith yL_stockByEntries cL_stockByEntries 4 (some .int) [(0, 9, 12, 13)] :: TG) rm_L_stockByEntries (PcL D cA ad A ob cO [.ref (ad 0 1), .int p0, .ref ob] mm v) (QcL D cA ad A ob cO (QW tlI xB (fun r m' => Q9 r ∧ mm = m') X9)) 2 12 (AW A ob) := by
  refine enterL pl_L rfl (Nat.le_of_ble_eq_true rfl) ?_
  intro p e s m args below meth c QQ X htab hW hZ hE
  refine q_aload_n (j := 2) X dL_stockByEntries_0 rfl rfl ?_
  refine q_iconst X dL_stockByEntries_1 rfl ?_
  refine q_aload_n (j := 0) X dL_stockByEntries_2 rfl rfl ?_
  refine q_iload_n (j := 1) X dL_stockByEntries_3 rfl rfl ?_
  refine qW_call X hW hZ hob [.int p0] [.int 0, .ref ob] rfl rfl (Nat.le_of_ble_eq_true rfl) dL_stockByEntries_4 ⟨(Nat.le_of_ble_eq_true rfl), (Nat.le_of_ble_eq_true rfl)⟩ (c_X9_stockByEntries ax hst p0 mm Q9 X9 h) rfl rfl (gV kw_6_37 kw_6_38 kw_6_39 kw_1_1 kw_6_40) hy_X9_stockByEntries ⟨(Nat.le_of_ble_eq_true rfl), (Nat.le_of_ble_eq_true rfl)⟩ (fun k0 m1 hx => ?_) (fun r m1 hq => ?_)
  · have hk := hX _ _ hx
    unfold oK at hk
    simp only [List.mem_cons, List.not_mem_nil, or_false] at hk
    subst hk
    refine ⟨12, by decide, Ct1 (k1 := 2) htab rfl (by decide) (by decide) (X.2.2.2.2 _ kw_3_68), fun q => ?_⟩
    refine q_astore_n X dL_stockByEntries_12 rfl (Nat.le_of_ble_eq_true rfl) rfl ?_
    refine q_iconst X dL_stockByEntries_13 rfl ?_
    exact hE _ _ _ _ _ _ _ dL_stockByEntries_14 (Nat.le_of_ble_eq_true rfl) (Nat.le_of_ble_eq_true rfl) (Or.inr ⟨by decide, 2, rfl, hx⟩)
  · refine q_i2l X dL_stockByEntries_7 ?_
    refine qW_last X hW hob ax dL_stockByEntries_8 ?_
    refine q_goto X dL_stockByEntries_9 rfl ?_
    refine q_iconst X dL_stockByEntries_15 rfl ?_
    exact hE _ _ _ _ _ _ _ dL_stockByEntries_16 (Nat.le_of_ble_eq_true rfl) (Nat.le_of_ble_eq_true rfl) (Or.inl ⟨rfl, r, rfl, hq⟩)
theorem dL_stockByTotals_0 : decode cL_stockByTotals 0 = .ok (.aload_n 2, 1) := by decide +kernel
theorem dL_stockByTotals_1 : decode cL_stockByTotals 1 = .ok (.iconst 0, 1) := by decide +kernel
theorem dL_stockByTotals_2 : decode cL_stockByTotals 2 = .ok (.aload_n 0, 1) := by decide +kernel
theorem dL_stockByTotals_3 : decode cL_stockByTotals 3 = .ok (.iload_n 1, 1) := by decide +kernel
theorem dL_stockByTotals_4 : decode cL_stockByTotals 4 = .ok (.invokevirtual 154, 3) := by decide +kernel
theorem dL_stockByTotals_7 : decode cL_stockByTotals 7 = .ok (.i2l, 1) := by decide +kernel
theorem dL_stockByTotals_8 : decode cL_stockByTotals 8 = .ok (.lastore, 1) := by decide +kernel
theorem dL_stockByTotals_9 : decode cL_stockByTotals 9 = .ok (.goto 6, 3) := by decide +kernel
theorem dL_stockByTotals_12 : decode cL_stockByTotals 12 = .ok (.astore_n 3, 1) := by decide +kernel
theorem dL_stockByTotals_13 : decode cL_stockByTotals 13 = .ok (.iconst 1, 1) := by decide +kernel
theorem dL_stockByTotals_14 : decode cL_stockByTotals 14 = .ok (.ireturn, 1) := by decide +kernel
theorem dL_stockByTotals_15 : decode cL_stockByTotals 15 = .ok (.iconst 0, 1) := by decide +kernel
theorem dL_stockByTotals_16 : decode cL_stockByTotals 16 = .ok (.ireturn, 1) := by decide +kernel
def rm_L_stockByTotals : Room := { frames := 9, cells := 2, slots := 12, locals := 155 }
set_option maxRecDepth 100000 in
set_option maxHeartbeats 4000000 in
theorem k_L_stockByTotals {l : Launch} {D : va_G} {cA : Nat → ClassId} {ad : Nat → Nat → Nat} {A : Nat → Prop} {ob : Nat} {cO : ClassId} (ax : Ax ad GC A) (hob : ¬ A ob) (hst : l.stackTraces = false) (p0 : Int32) (mm : Mm) (v : Int64) (Q9 : Int32 → Prop) (X9 : Nat → Mm → Prop) (h : w_X9_stockByTotals p0 mm Q9 X9) (hX : ∀ k0 m1, X9 k0 m1 → oK [2] k0) : Met l yL_stockByTotals (.codeWith yL_stockByTotals cL_stockByTotals 4 (some .int) [(0, 9, 12, 13)] :: TG) rm_L_stockByTotals (PcL D cA ad A ob cO [.ref (ad 0 1), .int p0, .ref ob] mm v) (QcL D cA ad A ob cO (QW tlI xB (fun r m' => Q9 r ∧ mm = m') X9)) 2 12 (AW A ob) := by
  refine enterL pl_L rfl (Nat.le_of_ble_eq_true rfl) ?_
  intro p e s m args below meth c QQ X htab hW hZ hE
  refine q_aload_n (j := 2) X dL_stockByTotals_0 rfl rfl ?_
  refine q_iconst X dL_stockByTotals_1 rfl ?_
  refine q_aload_n (j := 0) X dL_stockByTotals_2 rfl rfl ?_
  refine q_iload_n (j := 1) X dL_stockByTotals_3 rfl rfl ?_
  refine qW_call X hW hZ hob [.int p0] [.int 0, .ref ob] rfl rfl (Nat.le_of_ble_eq_true rfl) dL_stockByTotals_4 ⟨(Nat.le_of_ble_eq_true rfl), (Nat.le_of_ble_eq_true rfl)⟩ (c_X9_stockByTotals ax hst p0 mm Q9 X9 h) rfl rfl (gV kw_6_48 kw_6_49 kw_6_50 kw_1_1 kw_6_51) hy_X9_stockByTotals ⟨(Nat.le_of_ble_eq_true rfl), (Nat.le_of_ble_eq_true rfl)⟩ (fun k0 m1 hx => ?_) (fun r m1 hq => ?_)
  · have hk := hX _ _ hx
    unfold oK at hk
    simp only [List.mem_cons, List.not_mem_nil, or_false] at hk
    subst hk
    refine ⟨12, by decide, Ct1 (k1 := 2) htab rfl (by decide) (by decide) (X.2.2.2.2 _ kw_3_68), fun q => ?_⟩
    refine q_astore_n X dL_stockByTotals_12 rfl (Nat.le_of_ble_eq_true rfl) rfl ?_
    refine q_iconst X dL_stockByTotals_13 rfl ?_
    exact hE _ _ _ _ _ _ _ dL_stockByTotals_14 (Nat.le_of_ble_eq_true rfl) (Nat.le_of_ble_eq_true rfl) (Or.inr ⟨by decide, 2, rfl, hx⟩)
  · refine q_i2l X dL_stockByTotals_7 ?_
    refine qW_last X hW hob ax dL_stockByTotals_8 ?_
    refine q_goto X dL_stockByTotals_9 rfl ?_
    refine q_iconst X dL_stockByTotals_15 rfl ?_
    exact hE _ _ _ _ _ _ _ dL_stockByTotals_16 (Nat.le_of_ble_eq_true rfl) (Nat.le_of_ble_eq_true rfl) (Or.inl ⟨rfl, r, rfl, hq⟩)
theorem dL_whyNoEntry_0 : decode cL_whyNoEntry 0 = .ok (.aload 5, 2) := by decide +kernel
theorem dL_whyNoEntry_2 : decode cL_whyNoEntry 2 = .ok (.iconst 0, 1) := by decide +kernel
theorem dL_whyNoEntry_3 : decode cL_whyNoEntry 3 = .ok (.aload_n 0, 1) := by decide +kernel
theorem dL_whyNoEntry_4 : decode cL_whyNoEntry 4 = .ok (.iload_n 1, 1) := by decide +kernel
theorem dL_whyNoEntry_5 : decode cL_whyNoEntry 5 = .ok (.iload_n 2, 1) := by decide +kernel
theorem dL_whyNoEntry_6 : decode cL_whyNoEntry 6 = .ok (.iload_n 3, 1) := by decide +kernel
theorem dL_whyNoEntry_7 : decode cL_whyNoEntry 7 = .ok (.iload 4, 2) := by decide +kernel
theorem dL_whyNoEntry_9 : decode cL_whyNoEntry 9 = .ok (.invokevirtual 157, 3) := by decide +kernel
theorem dL_whyNoEntry_12 : decode cL_whyNoEntry 12 = .ok (.i2l, 1) := by decide +kernel
theorem dL_whyNoEntry_13 : decode cL_whyNoEntry 13 = .ok (.lastore, 1) := by decide +kernel
theorem dL_whyNoEntry_14 : decode cL_whyNoEntry 14 = .ok (.goto 7, 3) := by decide +kernel
theorem dL_whyNoEntry_17 : decode cL_whyNoEntry 17 = .ok (.astore 6, 2) := by decide +kernel
theorem dL_whyNoEntry_19 : decode cL_whyNoEntry 19 = .ok (.iconst 1, 1) := by decide +kernel
theorem dL_whyNoEntry_20 : decode cL_whyNoEntry 20 = .ok (.ireturn, 1) := by decide +kernel
theorem dL_whyNoEntry_21 : decode cL_whyNoEntry 21 = .ok (.iconst 0, 1) := by decide +kernel
theorem dL_whyNoEntry_22 : decode cL_whyNoEntry 22 = .ok (.ireturn, 1) := by decide +kernel
def rm_L_whyNoEntry : Room := { frames := 7, cells := 2, slots := 12, locals := 116 }
set_option maxRecDepth 100000 in
set_option maxHeartbeats 4000000 in
theorem k_L_whyNoEntry {l : Launch} {D : va_G} {cA : Nat → ClassId} {ad : Nat → Nat → Nat} {A : Nat → Prop} {ob : Nat} {cO : ClassId} (ax : Ax ad GC A) (hob : ¬ A ob) (hst : l.stackTraces = false) (p0 : Int32) (p1 : Int32) (p2 : Int32) (p3 : Int32) (mm : Mm) (v : Int64) (Q9 : Int32 → Prop) (X9 : Nat → Mm → Prop) (h : w_X9_whyNoEntry p0 p1 p2 p3 mm Q9 X9) (hX : ∀ k0 m1, X9 k0 m1 → oK [2] k0) : Met l yL_whyNoEntry (.codeWith yL_whyNoEntry cL_whyNoEntry 7 (some .int) [(0, 14, 17, 13)] :: TG) rm_L_whyNoEntry (PcL D cA ad A ob cO [.ref (ad 0 1), .int p0, .int p1, .int p2, .int p3, .ref ob] mm v) (QcL D cA ad A ob cO (QW tlI xB (fun r m' => Q9 r ∧ mm = m') X9)) 2 12 (AW A ob) := by
  refine enterL pl_L rfl (Nat.le_of_ble_eq_true rfl) ?_
  intro p e s m args below meth c QQ X htab hW hZ hE
  refine q_aload (j := 5) X dL_whyNoEntry_0 rfl ?_
  refine q_iconst X dL_whyNoEntry_2 rfl ?_
  refine q_aload_n (j := 0) X dL_whyNoEntry_3 rfl rfl ?_
  refine q_iload_n (j := 1) X dL_whyNoEntry_4 rfl rfl ?_
  refine q_iload_n (j := 2) X dL_whyNoEntry_5 rfl rfl ?_
  refine q_iload_n (j := 3) X dL_whyNoEntry_6 rfl rfl ?_
  refine q_iload (j := 4) X dL_whyNoEntry_7 rfl ?_
  refine qW_call X hW hZ hob [.int p0, .int p1, .int p2, .int p3] [.int 0, .ref ob] rfl rfl (Nat.le_of_ble_eq_true rfl) dL_whyNoEntry_9 ⟨(Nat.le_of_ble_eq_true rfl), (Nat.le_of_ble_eq_true rfl)⟩ (c_X9_whyNoEntry ax hst p0 p1 p2 p3 mm Q9 X9 h) rfl rfl (gV kw_6_55 kw_6_56 kw_6_57 kw_1_1 kw_6_58) hy_X9_whyNoEntry ⟨(Nat.le_of_ble_eq_true rfl), (Nat.le_of_ble_eq_true rfl)⟩ (fun k0 m1 hx => ?_) (fun r m1 hq => ?_)
  · have hk := hX _ _ hx
    unfold oK at hk
    simp only [List.mem_cons, List.not_mem_nil, or_false] at hk
    subst hk
    refine ⟨17, by decide, Ct1 (k1 := 2) htab rfl (by decide) (by decide) (X.2.2.2.2 _ kw_3_68), fun q => ?_⟩
    refine q_astore X dL_whyNoEntry_17 (Nat.le_of_ble_eq_true rfl) rfl ?_
    refine q_iconst X dL_whyNoEntry_19 rfl ?_
    exact hE _ _ _ _ _ _ _ dL_whyNoEntry_20 (Nat.le_of_ble_eq_true rfl) (Nat.le_of_ble_eq_true rfl) (Or.inr ⟨by decide, 2, rfl, hx⟩)
  · refine q_i2l X dL_whyNoEntry_12 ?_
    refine qW_last X hW hob ax dL_whyNoEntry_13 ?_
    refine q_goto X dL_whyNoEntry_14 rfl ?_
    refine q_iconst X dL_whyNoEntry_21 rfl ?_
    exact hE _ _ _ _ _ _ _ dL_whyNoEntry_22 (Nat.le_of_ble_eq_true rfl) (Nat.le_of_ble_eq_true rfl) (Or.inl ⟨rfl, r, rfl, hq⟩)
theorem dL_whyNoWithdrawal_0 : decode cL_whyNoWithdrawal 0 = .ok (.aload_n 3, 1) := by decide +kernel
theorem dL_whyNoWithdrawal_1 : decode cL_whyNoWithdrawal 1 = .ok (.iconst 0, 1) := by decide +kernel
theorem dL_whyNoWithdrawal_2 : decode cL_whyNoWithdrawal 2 = .ok (.aload_n 0, 1) := by decide +kernel
theorem dL_whyNoWithdrawal_3 : decode cL_whyNoWithdrawal 3 = .ok (.iload_n 1, 1) := by decide +kernel
theorem dL_whyNoWithdrawal_4 : decode cL_whyNoWithdrawal 4 = .ok (.iload_n 2, 1) := by decide +kernel
theorem dL_whyNoWithdrawal_5 : decode cL_whyNoWithdrawal 5 = .ok (.invokevirtual 160, 3) := by decide +kernel
theorem dL_whyNoWithdrawal_8 : decode cL_whyNoWithdrawal 8 = .ok (.i2l, 1) := by decide +kernel
theorem dL_whyNoWithdrawal_9 : decode cL_whyNoWithdrawal 9 = .ok (.lastore, 1) := by decide +kernel
theorem dL_whyNoWithdrawal_10 : decode cL_whyNoWithdrawal 10 = .ok (.goto 11, 3) := by decide +kernel
theorem dL_whyNoWithdrawal_13 : decode cL_whyNoWithdrawal 13 = .ok (.astore 4, 2) := by decide +kernel
theorem dL_whyNoWithdrawal_15 : decode cL_whyNoWithdrawal 15 = .ok (.iconst 1, 1) := by decide +kernel
theorem dL_whyNoWithdrawal_16 : decode cL_whyNoWithdrawal 16 = .ok (.ireturn, 1) := by decide +kernel
theorem dL_whyNoWithdrawal_17 : decode cL_whyNoWithdrawal 17 = .ok (.astore 4, 2) := by decide +kernel
theorem dL_whyNoWithdrawal_19 : decode cL_whyNoWithdrawal 19 = .ok (.iconst 2, 1) := by decide +kernel
theorem dL_whyNoWithdrawal_20 : decode cL_whyNoWithdrawal 20 = .ok (.ireturn, 1) := by decide +kernel
theorem dL_whyNoWithdrawal_21 : decode cL_whyNoWithdrawal 21 = .ok (.iconst 0, 1) := by decide +kernel
theorem dL_whyNoWithdrawal_22 : decode cL_whyNoWithdrawal 22 = .ok (.ireturn, 1) := by decide +kernel
def rm_L_whyNoWithdrawal : Room := { frames := 8, cells := 2, slots := 12, locals := 135 }
set_option maxRecDepth 100000 in
set_option maxHeartbeats 4000000 in
theorem k_L_whyNoWithdrawal {l : Launch} {D : va_G} {cA : Nat → ClassId} {ad : Nat → Nat → Nat} {A : Nat → Prop} {ob : Nat} {cO : ClassId} (ax : Ax ad GC A) (hob : ¬ A ob) (hst : l.stackTraces = false) (p0 : Int32) (p1 : Int32) (mm : Mm) (v : Int64) (Q9 : Int32 → Prop) (X9 : Nat → Mm → Prop) (h : w_X9_whyNoWithdrawal p0 p1 mm Q9 X9) (hX : ∀ k0 m1, X9 k0 m1 → oK [1, 2] k0) : Met l yL_whyNoWithdrawal (.codeWith yL_whyNoWithdrawal cL_whyNoWithdrawal 5 (some .int) [(0, 10, 13, 21), (0, 10, 17, 13)] :: TG) rm_L_whyNoWithdrawal (PcL D cA ad A ob cO [.ref (ad 0 1), .int p0, .int p1, .ref ob] mm v) (QcL D cA ad A ob cO (QW tlI xA (fun r m' => Q9 r ∧ mm = m') X9)) 2 12 (AW A ob) := by
  refine enterL pl_L rfl (Nat.le_of_ble_eq_true rfl) ?_
  intro p e s m args below meth c QQ X htab hW hZ hE
  refine q_aload_n (j := 3) X dL_whyNoWithdrawal_0 rfl rfl ?_
  refine q_iconst X dL_whyNoWithdrawal_1 rfl ?_
  refine q_aload_n (j := 0) X dL_whyNoWithdrawal_2 rfl rfl ?_
  refine q_iload_n (j := 1) X dL_whyNoWithdrawal_3 rfl rfl ?_
  refine q_iload_n (j := 2) X dL_whyNoWithdrawal_4 rfl rfl ?_
  refine qW_call X hW hZ hob [.int p0, .int p1] [.int 0, .ref ob] rfl rfl (Nat.le_of_ble_eq_true rfl) dL_whyNoWithdrawal_5 ⟨(Nat.le_of_ble_eq_true rfl), (Nat.le_of_ble_eq_true rfl)⟩ (c_X9_whyNoWithdrawal ax hst p0 p1 mm Q9 X9 h) rfl rfl (gV kw_6_64 kw_6_65 kw_6_66 kw_1_1 kw_6_67) hy_X9_whyNoWithdrawal ⟨(Nat.le_of_ble_eq_true rfl), (Nat.le_of_ble_eq_true rfl)⟩ (fun k0 m1 hx => ?_) (fun r m1 hq => ?_)
  · have hk := hX _ _ hx
    unfold oK at hk
    simp only [List.mem_cons, List.not_mem_nil, or_false] at hk
    rcases hk with rfl | rfl
    · skip
      refine ⟨13, by decide, Ct1 (k1 := 1) htab rfl (by decide) (by decide) (X.2.2.2.2 _ kw_3_237), fun q => ?_⟩
      refine q_astore X dL_whyNoWithdrawal_13 (Nat.le_of_ble_eq_true rfl) rfl ?_
      refine q_iconst X dL_whyNoWithdrawal_15 rfl ?_
      exact hE _ _ _ _ _ _ _ dL_whyNoWithdrawal_16 (Nat.le_of_ble_eq_true rfl) (Nat.le_of_ble_eq_true rfl) (Or.inr ⟨by decide, 1, rfl, hx⟩)
    · skip
      refine ⟨17, by decide, Ct2 (k1 := 1) (k2 := 2) htab rfl (by decide) (by decide) (by decide) (X.2.2.2.2 _ kw_3_237) (X.2.2.2.2 _ kw_3_68) hW.2.2.1, fun q => ?_⟩
      refine q_astore X dL_whyNoWithdrawal_17 (Nat.le_of_ble_eq_true rfl) rfl ?_
      refine q_iconst X dL_whyNoWithdrawal_19 rfl ?_
      exact hE _ _ _ _ _ _ _ dL_whyNoWithdrawal_20 (Nat.le_of_ble_eq_true rfl) (Nat.le_of_ble_eq_true rfl) (Or.inr ⟨by decide, 2, rfl, hx⟩)
  · refine q_i2l X dL_whyNoWithdrawal_8 ?_
    refine qW_last X hW hob ax dL_whyNoWithdrawal_9 ?_
    refine q_goto X dL_whyNoWithdrawal_10 rfl ?_
    refine q_iconst X dL_whyNoWithdrawal_21 rfl ?_
    exact hE _ _ _ _ _ _ _ dL_whyNoWithdrawal_22 (Nat.le_of_ble_eq_true rfl) (Nat.le_of_ble_eq_true rfl) (Or.inl ⟨rfl, r, rfl, hq⟩)
theorem dL_whyNoExport_0 : decode cL_whyNoExport 0 = .ok (.aload_n 3, 1) := by decide +kernel
theorem dL_whyNoExport_1 : decode cL_whyNoExport 1 = .ok (.iconst 0, 1) := by decide +kernel
theorem dL_whyNoExport_2 : decode cL_whyNoExport 2 = .ok (.aload_n 0, 1) := by decide +kernel
theorem dL_whyNoExport_3 : decode cL_whyNoExport 3 = .ok (.iload_n 1, 1) := by decide +kernel
theorem dL_whyNoExport_4 : decode cL_whyNoExport 4 = .ok (.iload_n 2, 1) := by decide +kernel
theorem dL_whyNoExport_5 : decode cL_whyNoExport 5 = .ok (.invokevirtual 163, 3) := by decide +kernel
theorem dL_whyNoExport_8 : decode cL_whyNoExport 8 = .ok (.i2l, 1) := by decide +kernel
theorem dL_whyNoExport_9 : decode cL_whyNoExport 9 = .ok (.lastore, 1) := by decide +kernel
theorem dL_whyNoExport_10 : decode cL_whyNoExport 10 = .ok (.goto 11, 3) := by decide +kernel
theorem dL_whyNoExport_13 : decode cL_whyNoExport 13 = .ok (.astore 4, 2) := by decide +kernel
theorem dL_whyNoExport_15 : decode cL_whyNoExport 15 = .ok (.iconst 1, 1) := by decide +kernel
theorem dL_whyNoExport_16 : decode cL_whyNoExport 16 = .ok (.ireturn, 1) := by decide +kernel
theorem dL_whyNoExport_17 : decode cL_whyNoExport 17 = .ok (.astore 4, 2) := by decide +kernel
theorem dL_whyNoExport_19 : decode cL_whyNoExport 19 = .ok (.iconst 2, 1) := by decide +kernel
theorem dL_whyNoExport_20 : decode cL_whyNoExport 20 = .ok (.ireturn, 1) := by decide +kernel
theorem dL_whyNoExport_21 : decode cL_whyNoExport 21 = .ok (.iconst 0, 1) := by decide +kernel
theorem dL_whyNoExport_22 : decode cL_whyNoExport 22 = .ok (.ireturn, 1) := by decide +kernel
def rm_L_whyNoExport : Room := { frames := 8, cells := 2, slots := 12, locals := 135 }
set_option maxRecDepth 100000 in
set_option maxHeartbeats 4000000 in
theorem k_L_whyNoExport {l : Launch} {D : va_G} {cA : Nat → ClassId} {ad : Nat → Nat → Nat} {A : Nat → Prop} {ob : Nat} {cO : ClassId} (ax : Ax ad GC A) (hob : ¬ A ob) (hst : l.stackTraces = false) (p0 : Int32) (p1 : Int32) (mm : Mm) (v : Int64) (Q9 : Int32 → Prop) (X9 : Nat → Mm → Prop) (h : w_X9_whyNoExport p0 p1 mm Q9 X9) (hX : ∀ k0 m1, X9 k0 m1 → oK [1, 2] k0) : Met l yL_whyNoExport (.codeWith yL_whyNoExport cL_whyNoExport 5 (some .int) [(0, 10, 13, 21), (0, 10, 17, 13)] :: TG) rm_L_whyNoExport (PcL D cA ad A ob cO [.ref (ad 0 1), .int p0, .int p1, .ref ob] mm v) (QcL D cA ad A ob cO (QW tlI xA (fun r m' => Q9 r ∧ mm = m') X9)) 2 12 (AW A ob) := by
  refine enterL pl_L rfl (Nat.le_of_ble_eq_true rfl) ?_
  intro p e s m args below meth c QQ X htab hW hZ hE
  refine q_aload_n (j := 3) X dL_whyNoExport_0 rfl rfl ?_
  refine q_iconst X dL_whyNoExport_1 rfl ?_
  refine q_aload_n (j := 0) X dL_whyNoExport_2 rfl rfl ?_
  refine q_iload_n (j := 1) X dL_whyNoExport_3 rfl rfl ?_
  refine q_iload_n (j := 2) X dL_whyNoExport_4 rfl rfl ?_
  refine qW_call X hW hZ hob [.int p0, .int p1] [.int 0, .ref ob] rfl rfl (Nat.le_of_ble_eq_true rfl) dL_whyNoExport_5 ⟨(Nat.le_of_ble_eq_true rfl), (Nat.le_of_ble_eq_true rfl)⟩ (c_X9_whyNoExport ax hst p0 p1 mm Q9 X9 h) rfl rfl (gV kw_6_72 kw_6_73 kw_6_74 kw_1_1 kw_6_75) hy_X9_whyNoExport ⟨(Nat.le_of_ble_eq_true rfl), (Nat.le_of_ble_eq_true rfl)⟩ (fun k0 m1 hx => ?_) (fun r m1 hq => ?_)
  · have hk := hX _ _ hx
    unfold oK at hk
    simp only [List.mem_cons, List.not_mem_nil, or_false] at hk
    rcases hk with rfl | rfl
    · skip
      refine ⟨13, by decide, Ct1 (k1 := 1) htab rfl (by decide) (by decide) (X.2.2.2.2 _ kw_3_237), fun q => ?_⟩
      refine q_astore X dL_whyNoExport_13 (Nat.le_of_ble_eq_true rfl) rfl ?_
      refine q_iconst X dL_whyNoExport_15 rfl ?_
      exact hE _ _ _ _ _ _ _ dL_whyNoExport_16 (Nat.le_of_ble_eq_true rfl) (Nat.le_of_ble_eq_true rfl) (Or.inr ⟨by decide, 1, rfl, hx⟩)
    · skip
      refine ⟨17, by decide, Ct2 (k1 := 1) (k2 := 2) htab rfl (by decide) (by decide) (by decide) (X.2.2.2.2 _ kw_3_237) (X.2.2.2.2 _ kw_3_68) hW.2.2.1, fun q => ?_⟩
      refine q_astore X dL_whyNoExport_17 (Nat.le_of_ble_eq_true rfl) rfl ?_
      refine q_iconst X dL_whyNoExport_19 rfl ?_
      exact hE _ _ _ _ _ _ _ dL_whyNoExport_20 (Nat.le_of_ble_eq_true rfl) (Nat.le_of_ble_eq_true rfl) (Or.inr ⟨by decide, 2, rfl, hx⟩)
  · refine q_i2l X dL_whyNoExport_8 ?_
    refine qW_last X hW hob ax dL_whyNoExport_9 ?_
    refine q_goto X dL_whyNoExport_10 rfl ?_
    refine q_iconst X dL_whyNoExport_21 rfl ?_
    exact hE _ _ _ _ _ _ _ dL_whyNoExport_22 (Nat.le_of_ble_eq_true rfl) (Nat.le_of_ble_eq_true rfl) (Or.inl ⟨rfl, r, rfl, hq⟩)
theorem dL_whyNoMove_0 : decode cL_whyNoMove 0 = .ok (.aload_n 3, 1) := by decide +kernel
theorem dL_whyNoMove_1 : decode cL_whyNoMove 1 = .ok (.iconst 0, 1) := by decide +kernel
theorem dL_whyNoMove_2 : decode cL_whyNoMove 2 = .ok (.aload_n 0, 1) := by decide +kernel
theorem dL_whyNoMove_3 : decode cL_whyNoMove 3 = .ok (.iload_n 1, 1) := by decide +kernel
theorem dL_whyNoMove_4 : decode cL_whyNoMove 4 = .ok (.iload_n 2, 1) := by decide +kernel
theorem dL_whyNoMove_5 : decode cL_whyNoMove 5 = .ok (.invokevirtual 166, 3) := by decide +kernel
theorem dL_whyNoMove_8 : decode cL_whyNoMove 8 = .ok (.i2l, 1) := by decide +kernel
theorem dL_whyNoMove_9 : decode cL_whyNoMove 9 = .ok (.lastore, 1) := by decide +kernel
theorem dL_whyNoMove_10 : decode cL_whyNoMove 10 = .ok (.goto 7, 3) := by decide +kernel
theorem dL_whyNoMove_13 : decode cL_whyNoMove 13 = .ok (.astore 4, 2) := by decide +kernel
theorem dL_whyNoMove_15 : decode cL_whyNoMove 15 = .ok (.iconst 1, 1) := by decide +kernel
theorem dL_whyNoMove_16 : decode cL_whyNoMove 16 = .ok (.ireturn, 1) := by decide +kernel
theorem dL_whyNoMove_17 : decode cL_whyNoMove 17 = .ok (.iconst 0, 1) := by decide +kernel
theorem dL_whyNoMove_18 : decode cL_whyNoMove 18 = .ok (.ireturn, 1) := by decide +kernel
def rm_L_whyNoMove : Room := { frames := 8, cells := 2, slots := 12, locals := 135 }
set_option maxRecDepth 100000 in
set_option maxHeartbeats 4000000 in
theorem k_L_whyNoMove {l : Launch} {D : va_G} {cA : Nat → ClassId} {ad : Nat → Nat → Nat} {A : Nat → Prop} {ob : Nat} {cO : ClassId} (ax : Ax ad GC A) (hob : ¬ A ob) (hst : l.stackTraces = false) (p0 : Int32) (p1 : Int32) (mm : Mm) (v : Int64) (Q9 : Int32 → Prop) (X9 : Nat → Mm → Prop) (h : w_X9_whyNoMove p0 p1 mm Q9 X9) (hX : ∀ k0 m1, X9 k0 m1 → oK [1] k0) : Met l yL_whyNoMove (.codeWith yL_whyNoMove cL_whyNoMove 5 (some .int) [(0, 10, 13, 21)] :: TG) rm_L_whyNoMove (PcL D cA ad A ob cO [.ref (ad 0 1), .int p0, .int p1, .ref ob] mm v) (QcL D cA ad A ob cO (QW tlI xA (fun r m' => Q9 r ∧ mm = m') X9)) 2 12 (AW A ob) := by
  refine enterL pl_L rfl (Nat.le_of_ble_eq_true rfl) ?_
  intro p e s m args below meth c QQ X htab hW hZ hE
  refine q_aload_n (j := 3) X dL_whyNoMove_0 rfl rfl ?_
  refine q_iconst X dL_whyNoMove_1 rfl ?_
  refine q_aload_n (j := 0) X dL_whyNoMove_2 rfl rfl ?_
  refine q_iload_n (j := 1) X dL_whyNoMove_3 rfl rfl ?_
  refine q_iload_n (j := 2) X dL_whyNoMove_4 rfl rfl ?_
  refine qW_call X hW hZ hob [.int p0, .int p1] [.int 0, .ref ob] rfl rfl (Nat.le_of_ble_eq_true rfl) dL_whyNoMove_5 ⟨(Nat.le_of_ble_eq_true rfl), (Nat.le_of_ble_eq_true rfl)⟩ (c_X9_whyNoMove ax hst p0 p1 mm Q9 X9 h) rfl rfl (gV kw_6_80 kw_6_81 kw_6_82 kw_1_1 kw_6_83) hy_X9_whyNoMove ⟨(Nat.le_of_ble_eq_true rfl), (Nat.le_of_ble_eq_true rfl)⟩ (fun k0 m1 hx => ?_) (fun r m1 hq => ?_)
  · have hk := hX _ _ hx
    unfold oK at hk
    simp only [List.mem_cons, List.not_mem_nil, or_false] at hk
    subst hk
    refine ⟨13, by decide, Ct1 (k1 := 1) htab rfl (by decide) (by decide) (X.2.2.2.2 _ kw_3_237), fun q => ?_⟩
    refine q_astore X dL_whyNoMove_13 (Nat.le_of_ble_eq_true rfl) rfl ?_
    refine q_iconst X dL_whyNoMove_15 rfl ?_
    exact hE _ _ _ _ _ _ _ dL_whyNoMove_16 (Nat.le_of_ble_eq_true rfl) (Nat.le_of_ble_eq_true rfl) (Or.inr ⟨by decide, 1, rfl, hx⟩)
  · refine q_i2l X dL_whyNoMove_8 ?_
    refine qW_last X hW hob ax dL_whyNoMove_9 ?_
    refine q_goto X dL_whyNoMove_10 rfl ?_
    refine q_iconst X dL_whyNoMove_17 rfl ?_
    exact hE _ _ _ _ _ _ _ dL_whyNoMove_18 (Nat.le_of_ble_eq_true rfl) (Nat.le_of_ble_eq_true rfl) (Or.inl ⟨rfl, r, rfl, hq⟩)
theorem dL_whyNoDrawback_0 : decode cL_whyNoDrawback 0 = .ok (.aload_n 3, 1) := by decide +kernel
theorem dL_whyNoDrawback_1 : decode cL_whyNoDrawback 1 = .ok (.iconst 0, 1) := by decide +kernel
theorem dL_whyNoDrawback_2 : decode cL_whyNoDrawback 2 = .ok (.aload_n 0, 1) := by decide +kernel
theorem dL_whyNoDrawback_3 : decode cL_whyNoDrawback 3 = .ok (.iload_n 1, 1) := by decide +kernel
theorem dL_whyNoDrawback_4 : decode cL_whyNoDrawback 4 = .ok (.iload_n 2, 1) := by decide +kernel
theorem dL_whyNoDrawback_5 : decode cL_whyNoDrawback 5 = .ok (.invokevirtual 169, 3) := by decide +kernel
theorem dL_whyNoDrawback_8 : decode cL_whyNoDrawback 8 = .ok (.i2l, 1) := by decide +kernel
theorem dL_whyNoDrawback_9 : decode cL_whyNoDrawback 9 = .ok (.lastore, 1) := by decide +kernel
theorem dL_whyNoDrawback_10 : decode cL_whyNoDrawback 10 = .ok (.goto 11, 3) := by decide +kernel
theorem dL_whyNoDrawback_13 : decode cL_whyNoDrawback 13 = .ok (.astore 4, 2) := by decide +kernel
theorem dL_whyNoDrawback_15 : decode cL_whyNoDrawback 15 = .ok (.iconst 1, 1) := by decide +kernel
theorem dL_whyNoDrawback_16 : decode cL_whyNoDrawback 16 = .ok (.ireturn, 1) := by decide +kernel
theorem dL_whyNoDrawback_17 : decode cL_whyNoDrawback 17 = .ok (.astore 4, 2) := by decide +kernel
theorem dL_whyNoDrawback_19 : decode cL_whyNoDrawback 19 = .ok (.iconst 2, 1) := by decide +kernel
theorem dL_whyNoDrawback_20 : decode cL_whyNoDrawback 20 = .ok (.ireturn, 1) := by decide +kernel
theorem dL_whyNoDrawback_21 : decode cL_whyNoDrawback 21 = .ok (.iconst 0, 1) := by decide +kernel
theorem dL_whyNoDrawback_22 : decode cL_whyNoDrawback 22 = .ok (.ireturn, 1) := by decide +kernel
def rm_L_whyNoDrawback : Room := { frames := 8, cells := 2, slots := 12, locals := 135 }
set_option maxRecDepth 100000 in
set_option maxHeartbeats 4000000 in
theorem k_L_whyNoDrawback {l : Launch} {D : va_G} {cA : Nat → ClassId} {ad : Nat → Nat → Nat} {A : Nat → Prop} {ob : Nat} {cO : ClassId} (ax : Ax ad GC A) (hob : ¬ A ob) (hst : l.stackTraces = false) (p0 : Int32) (p1 : Int32) (mm : Mm) (v : Int64) (Q9 : Int32 → Prop) (X9 : Nat → Mm → Prop) (h : w_X9_whyNoDrawback p0 p1 mm Q9 X9) (hX : ∀ k0 m1, X9 k0 m1 → oK [1, 2] k0) : Met l yL_whyNoDrawback (.codeWith yL_whyNoDrawback cL_whyNoDrawback 5 (some .int) [(0, 10, 13, 21), (0, 10, 17, 13)] :: TG) rm_L_whyNoDrawback (PcL D cA ad A ob cO [.ref (ad 0 1), .int p0, .int p1, .ref ob] mm v) (QcL D cA ad A ob cO (QW tlI xA (fun r m' => Q9 r ∧ mm = m') X9)) 2 12 (AW A ob) := by
  refine enterL pl_L rfl (Nat.le_of_ble_eq_true rfl) ?_
  intro p e s m args below meth c QQ X htab hW hZ hE
  refine q_aload_n (j := 3) X dL_whyNoDrawback_0 rfl rfl ?_
  refine q_iconst X dL_whyNoDrawback_1 rfl ?_
  refine q_aload_n (j := 0) X dL_whyNoDrawback_2 rfl rfl ?_
  refine q_iload_n (j := 1) X dL_whyNoDrawback_3 rfl rfl ?_
  refine q_iload_n (j := 2) X dL_whyNoDrawback_4 rfl rfl ?_
  refine qW_call X hW hZ hob [.int p0, .int p1] [.int 0, .ref ob] rfl rfl (Nat.le_of_ble_eq_true rfl) dL_whyNoDrawback_5 ⟨(Nat.le_of_ble_eq_true rfl), (Nat.le_of_ble_eq_true rfl)⟩ (c_X9_whyNoDrawback ax hst p0 p1 mm Q9 X9 h) rfl rfl (gV kw_6_88 kw_6_89 kw_6_90 kw_1_1 kw_6_91) hy_X9_whyNoDrawback ⟨(Nat.le_of_ble_eq_true rfl), (Nat.le_of_ble_eq_true rfl)⟩ (fun k0 m1 hx => ?_) (fun r m1 hq => ?_)
  · have hk := hX _ _ hx
    unfold oK at hk
    simp only [List.mem_cons, List.not_mem_nil, or_false] at hk
    rcases hk with rfl | rfl
    · skip
      refine ⟨13, by decide, Ct1 (k1 := 1) htab rfl (by decide) (by decide) (X.2.2.2.2 _ kw_3_237), fun q => ?_⟩
      refine q_astore X dL_whyNoDrawback_13 (Nat.le_of_ble_eq_true rfl) rfl ?_
      refine q_iconst X dL_whyNoDrawback_15 rfl ?_
      exact hE _ _ _ _ _ _ _ dL_whyNoDrawback_16 (Nat.le_of_ble_eq_true rfl) (Nat.le_of_ble_eq_true rfl) (Or.inr ⟨by decide, 1, rfl, hx⟩)
    · skip
      refine ⟨17, by decide, Ct2 (k1 := 1) (k2 := 2) htab rfl (by decide) (by decide) (by decide) (X.2.2.2.2 _ kw_3_237) (X.2.2.2.2 _ kw_3_68) hW.2.2.1, fun q => ?_⟩
      refine q_astore X dL_whyNoDrawback_17 (Nat.le_of_ble_eq_true rfl) rfl ?_
      refine q_iconst X dL_whyNoDrawback_19 rfl ?_
      exact hE _ _ _ _ _ _ _ dL_whyNoDrawback_20 (Nat.le_of_ble_eq_true rfl) (Nat.le_of_ble_eq_true rfl) (Or.inr ⟨by decide, 2, rfl, hx⟩)
  · refine q_i2l X dL_whyNoDrawback_8 ?_
    refine qW_last X hW hob ax dL_whyNoDrawback_9 ?_
    refine q_goto X dL_whyNoDrawback_10 rfl ?_
    refine q_iconst X dL_whyNoDrawback_21 rfl ?_
    exact hE _ _ _ _ _ _ _ dL_whyNoDrawback_22 (Nat.le_of_ble_eq_true rfl) (Nat.le_of_ble_eq_true rfl) (Or.inl ⟨rfl, r, rfl, hq⟩)
theorem dL_chargeIfWeighed_0 : decode cL_chargeIfWeighed 0 = .ok (.aload_n 3, 1) := by decide +kernel
theorem dL_chargeIfWeighed_1 : decode cL_chargeIfWeighed 1 = .ok (.iconst 0, 1) := by decide +kernel
theorem dL_chargeIfWeighed_2 : decode cL_chargeIfWeighed 2 = .ok (.aload_n 0, 1) := by decide +kernel
theorem dL_chargeIfWeighed_3 : decode cL_chargeIfWeighed 3 = .ok (.iload_n 1, 1) := by decide +kernel
theorem dL_chargeIfWeighed_4 : decode cL_chargeIfWeighed 4 = .ok (.iload_n 2, 1) := by decide +kernel
theorem dL_chargeIfWeighed_5 : decode cL_chargeIfWeighed 5 = .ok (.invokevirtual 172, 3) := by decide +kernel
theorem dL_chargeIfWeighed_8 : decode cL_chargeIfWeighed 8 = .ok (.i2l, 1) := by decide +kernel
theorem dL_chargeIfWeighed_9 : decode cL_chargeIfWeighed 9 = .ok (.lastore, 1) := by decide +kernel
theorem dL_chargeIfWeighed_10 : decode cL_chargeIfWeighed 10 = .ok (.goto 11, 3) := by decide +kernel
theorem dL_chargeIfWeighed_13 : decode cL_chargeIfWeighed 13 = .ok (.astore 4, 2) := by decide +kernel
theorem dL_chargeIfWeighed_15 : decode cL_chargeIfWeighed 15 = .ok (.iconst 1, 1) := by decide +kernel
theorem dL_chargeIfWeighed_16 : decode cL_chargeIfWeighed 16 = .ok (.ireturn, 1) := by decide +kernel
theorem dL_chargeIfWeighed_17 : decode cL_chargeIfWeighed 17 = .ok (.astore 4, 2) := by decide +kernel
theorem dL_chargeIfWeighed_19 : decode cL_chargeIfWeighed 19 = .ok (.iconst 2, 1) := by decide +kernel
theorem dL_chargeIfWeighed_20 : decode cL_chargeIfWeighed 20 = .ok (.ireturn, 1) := by decide +kernel
theorem dL_chargeIfWeighed_21 : decode cL_chargeIfWeighed 21 = .ok (.iconst 0, 1) := by decide +kernel
theorem dL_chargeIfWeighed_22 : decode cL_chargeIfWeighed 22 = .ok (.ireturn, 1) := by decide +kernel
def rm_L_chargeIfWeighed : Room := { frames := 8, cells := 2, slots := 12, locals := 135 }
set_option maxRecDepth 100000 in
set_option maxHeartbeats 4000000 in
theorem k_L_chargeIfWeighed {l : Launch} {D : va_G} {cA : Nat → ClassId} {ad : Nat → Nat → Nat} {A : Nat → Prop} {ob : Nat} {cO : ClassId} (ax : Ax ad GC A) (hob : ¬ A ob) (hst : l.stackTraces = false) (p0 : Int32) (p1 : Int32) (mm : Mm) (v : Int64) (Q9 : Int32 → Prop) (X9 : Nat → Mm → Prop) (h : w_X9_chargeIfWeighed p0 p1 mm Q9 X9) (hX : ∀ k0 m1, X9 k0 m1 → oK [1, 2] k0) : Met l yL_chargeIfWeighed (.codeWith yL_chargeIfWeighed cL_chargeIfWeighed 5 (some .int) [(0, 10, 13, 21), (0, 10, 17, 13)] :: TG) rm_L_chargeIfWeighed (PcL D cA ad A ob cO [.ref (ad 0 1), .int p0, .int p1, .ref ob] mm v) (QcL D cA ad A ob cO (QW tlI xA (fun r m' => Q9 r ∧ mm = m') X9)) 2 12 (AW A ob) := by
  refine enterL pl_L rfl (Nat.le_of_ble_eq_true rfl) ?_
  intro p e s m args below meth c QQ X htab hW hZ hE
  refine q_aload_n (j := 3) X dL_chargeIfWeighed_0 rfl rfl ?_
  refine q_iconst X dL_chargeIfWeighed_1 rfl ?_
  refine q_aload_n (j := 0) X dL_chargeIfWeighed_2 rfl rfl ?_
  refine q_iload_n (j := 1) X dL_chargeIfWeighed_3 rfl rfl ?_
  refine q_iload_n (j := 2) X dL_chargeIfWeighed_4 rfl rfl ?_
  refine qW_call X hW hZ hob [.int p0, .int p1] [.int 0, .ref ob] rfl rfl (Nat.le_of_ble_eq_true rfl) dL_chargeIfWeighed_5 ⟨(Nat.le_of_ble_eq_true rfl), (Nat.le_of_ble_eq_true rfl)⟩ (c_X9_chargeIfWeighed ax hst p0 p1 mm Q9 X9 h) rfl rfl (gV kw_6_96 kw_6_97 kw_6_98 kw_1_1 kw_6_99) hy_X9_chargeIfWeighed ⟨(Nat.le_of_ble_eq_true rfl), (Nat.le_of_ble_eq_true rfl)⟩ (fun k0 m1 hx => ?_) (fun r m1 hq => ?_)
  · have hk := hX _ _ hx
    unfold oK at hk
    simp only [List.mem_cons, List.not_mem_nil, or_false] at hk
    rcases hk with rfl | rfl
    · skip
      refine ⟨13, by decide, Ct1 (k1 := 1) htab rfl (by decide) (by decide) (X.2.2.2.2 _ kw_3_237), fun q => ?_⟩
      refine q_astore X dL_chargeIfWeighed_13 (Nat.le_of_ble_eq_true rfl) rfl ?_
      refine q_iconst X dL_chargeIfWeighed_15 rfl ?_
      exact hE _ _ _ _ _ _ _ dL_chargeIfWeighed_16 (Nat.le_of_ble_eq_true rfl) (Nat.le_of_ble_eq_true rfl) (Or.inr ⟨by decide, 1, rfl, hx⟩)
    · skip
      refine ⟨17, by decide, Ct2 (k1 := 1) (k2 := 2) htab rfl (by decide) (by decide) (by decide) (X.2.2.2.2 _ kw_3_237) (X.2.2.2.2 _ kw_3_68) hW.2.2.1, fun q => ?_⟩
      refine q_astore X dL_chargeIfWeighed_17 (Nat.le_of_ble_eq_true rfl) rfl ?_
      refine q_iconst X dL_chargeIfWeighed_19 rfl ?_
      exact hE _ _ _ _ _ _ _ dL_chargeIfWeighed_20 (Nat.le_of_ble_eq_true rfl) (Nat.le_of_ble_eq_true rfl) (Or.inr ⟨by decide, 2, rfl, hx⟩)
  · refine q_i2l X dL_chargeIfWeighed_8 ?_
    refine qW_last X hW hob ax dL_chargeIfWeighed_9 ?_
    refine q_goto X dL_chargeIfWeighed_10 rfl ?_
    refine q_iconst X dL_chargeIfWeighed_21 rfl ?_
    exact hE _ _ _ _ _ _ _ dL_chargeIfWeighed_22 (Nat.le_of_ble_eq_true rfl) (Nat.le_of_ble_eq_true rfl) (Or.inl ⟨rfl, r, rfl, hq⟩)
theorem dL_drawbackFor_0 : decode cL_drawbackFor 0 = .ok (.aload_n 3, 1) := by decide +kernel
theorem dL_drawbackFor_1 : decode cL_drawbackFor 1 = .ok (.iconst 0, 1) := by decide +kernel
theorem dL_drawbackFor_2 : decode cL_drawbackFor 2 = .ok (.aload_n 0, 1) := by decide +kernel
theorem dL_drawbackFor_3 : decode cL_drawbackFor 3 = .ok (.iload_n 1, 1) := by decide +kernel
theorem dL_drawbackFor_4 : decode cL_drawbackFor 4 = .ok (.iload_n 2, 1) := by decide +kernel
theorem dL_drawbackFor_5 : decode cL_drawbackFor 5 = .ok (.invokevirtual 175, 3) := by decide +kernel
theorem dL_drawbackFor_8 : decode cL_drawbackFor 8 = .ok (.i2l, 1) := by decide +kernel
theorem dL_drawbackFor_9 : decode cL_drawbackFor 9 = .ok (.lastore, 1) := by decide +kernel
theorem dL_drawbackFor_10 : decode cL_drawbackFor 10 = .ok (.goto 11, 3) := by decide +kernel
theorem dL_drawbackFor_13 : decode cL_drawbackFor 13 = .ok (.astore 4, 2) := by decide +kernel
theorem dL_drawbackFor_15 : decode cL_drawbackFor 15 = .ok (.iconst 1, 1) := by decide +kernel
theorem dL_drawbackFor_16 : decode cL_drawbackFor 16 = .ok (.ireturn, 1) := by decide +kernel
theorem dL_drawbackFor_17 : decode cL_drawbackFor 17 = .ok (.astore 4, 2) := by decide +kernel
theorem dL_drawbackFor_19 : decode cL_drawbackFor 19 = .ok (.iconst 2, 1) := by decide +kernel
theorem dL_drawbackFor_20 : decode cL_drawbackFor 20 = .ok (.ireturn, 1) := by decide +kernel
theorem dL_drawbackFor_21 : decode cL_drawbackFor 21 = .ok (.iconst 0, 1) := by decide +kernel
theorem dL_drawbackFor_22 : decode cL_drawbackFor 22 = .ok (.ireturn, 1) := by decide +kernel
def rm_L_drawbackFor : Room := { frames := 8, cells := 2, slots := 12, locals := 135 }
set_option maxRecDepth 100000 in
set_option maxHeartbeats 4000000 in
theorem k_L_drawbackFor {l : Launch} {D : va_G} {cA : Nat → ClassId} {ad : Nat → Nat → Nat} {A : Nat → Prop} {ob : Nat} {cO : ClassId} (ax : Ax ad GC A) (hob : ¬ A ob) (hst : l.stackTraces = false) (p0 : Int32) (p1 : Int32) (mm : Mm) (v : Int64) (Q9 : Int32 → Prop) (X9 : Nat → Mm → Prop) (h : w_X9_drawbackFor p0 p1 mm Q9 X9) (hX : ∀ k0 m1, X9 k0 m1 → oK [1, 2] k0) : Met l yL_drawbackFor (.codeWith yL_drawbackFor cL_drawbackFor 5 (some .int) [(0, 10, 13, 21), (0, 10, 17, 13)] :: TG) rm_L_drawbackFor (PcL D cA ad A ob cO [.ref (ad 0 1), .int p0, .int p1, .ref ob] mm v) (QcL D cA ad A ob cO (QW tlI xA (fun r m' => Q9 r ∧ mm = m') X9)) 2 12 (AW A ob) := by
  refine enterL pl_L rfl (Nat.le_of_ble_eq_true rfl) ?_
  intro p e s m args below meth c QQ X htab hW hZ hE
  refine q_aload_n (j := 3) X dL_drawbackFor_0 rfl rfl ?_
  refine q_iconst X dL_drawbackFor_1 rfl ?_
  refine q_aload_n (j := 0) X dL_drawbackFor_2 rfl rfl ?_
  refine q_iload_n (j := 1) X dL_drawbackFor_3 rfl rfl ?_
  refine q_iload_n (j := 2) X dL_drawbackFor_4 rfl rfl ?_
  refine qW_call X hW hZ hob [.int p0, .int p1] [.int 0, .ref ob] rfl rfl (Nat.le_of_ble_eq_true rfl) dL_drawbackFor_5 ⟨(Nat.le_of_ble_eq_true rfl), (Nat.le_of_ble_eq_true rfl)⟩ (c_X9_drawbackFor ax hst p0 p1 mm Q9 X9 h) rfl rfl (gV kw_6_105 kw_6_106 kw_6_107 kw_1_1 kw_6_108) hy_X9_drawbackFor ⟨(Nat.le_of_ble_eq_true rfl), (Nat.le_of_ble_eq_true rfl)⟩ (fun k0 m1 hx => ?_) (fun r m1 hq => ?_)
  · have hk := hX _ _ hx
    unfold oK at hk
    simp only [List.mem_cons, List.not_mem_nil, or_false] at hk
    rcases hk with rfl | rfl
    · skip
      refine ⟨13, by decide, Ct1 (k1 := 1) htab rfl (by decide) (by decide) (X.2.2.2.2 _ kw_3_237), fun q => ?_⟩
      refine q_astore X dL_drawbackFor_13 (Nat.le_of_ble_eq_true rfl) rfl ?_
      refine q_iconst X dL_drawbackFor_15 rfl ?_
      exact hE _ _ _ _ _ _ _ dL_drawbackFor_16 (Nat.le_of_ble_eq_true rfl) (Nat.le_of_ble_eq_true rfl) (Or.inr ⟨by decide, 1, rfl, hx⟩)
    · skip
      refine ⟨17, by decide, Ct2 (k1 := 1) (k2 := 2) htab rfl (by decide) (by decide) (by decide) (X.2.2.2.2 _ kw_3_237) (X.2.2.2.2 _ kw_3_68) hW.2.2.1, fun q => ?_⟩
      refine q_astore X dL_drawbackFor_17 (Nat.le_of_ble_eq_true rfl) rfl ?_
      refine q_iconst X dL_drawbackFor_19 rfl ?_
      exact hE _ _ _ _ _ _ _ dL_drawbackFor_20 (Nat.le_of_ble_eq_true rfl) (Nat.le_of_ble_eq_true rfl) (Or.inr ⟨by decide, 2, rfl, hx⟩)
  · refine q_i2l X dL_drawbackFor_8 ?_
    refine qW_last X hW hob ax dL_drawbackFor_9 ?_
    refine q_goto X dL_drawbackFor_10 rfl ?_
    refine q_iconst X dL_drawbackFor_21 rfl ?_
    exact hE _ _ _ _ _ _ _ dL_drawbackFor_22 (Nat.le_of_ble_eq_true rfl) (Nat.le_of_ble_eq_true rfl) (Or.inl ⟨rfl, r, rfl, hq⟩)
theorem dL_dutyLater_0 : decode cL_dutyLater 0 = .ok (.aload_n 3, 1) := by decide +kernel
theorem dL_dutyLater_1 : decode cL_dutyLater 1 = .ok (.iconst 0, 1) := by decide +kernel
theorem dL_dutyLater_2 : decode cL_dutyLater 2 = .ok (.aload_n 0, 1) := by decide +kernel
theorem dL_dutyLater_3 : decode cL_dutyLater 3 = .ok (.iload_n 1, 1) := by decide +kernel
theorem dL_dutyLater_4 : decode cL_dutyLater 4 = .ok (.iload_n 2, 1) := by decide +kernel
theorem dL_dutyLater_5 : decode cL_dutyLater 5 = .ok (.invokevirtual 178, 3) := by decide +kernel
theorem dL_dutyLater_8 : decode cL_dutyLater 8 = .ok (.i2l, 1) := by decide +kernel
theorem dL_dutyLater_9 : decode cL_dutyLater 9 = .ok (.lastore, 1) := by decide +kernel
theorem dL_dutyLater_10 : decode cL_dutyLater 10 = .ok (.goto 11, 3) := by decide +kernel
theorem dL_dutyLater_13 : decode cL_dutyLater 13 = .ok (.astore 4, 2) := by decide +kernel
theorem dL_dutyLater_15 : decode cL_dutyLater 15 = .ok (.iconst 1, 1) := by decide +kernel
theorem dL_dutyLater_16 : decode cL_dutyLater 16 = .ok (.ireturn, 1) := by decide +kernel
theorem dL_dutyLater_17 : decode cL_dutyLater 17 = .ok (.astore 4, 2) := by decide +kernel
theorem dL_dutyLater_19 : decode cL_dutyLater 19 = .ok (.iconst 2, 1) := by decide +kernel
theorem dL_dutyLater_20 : decode cL_dutyLater 20 = .ok (.ireturn, 1) := by decide +kernel
theorem dL_dutyLater_21 : decode cL_dutyLater 21 = .ok (.iconst 0, 1) := by decide +kernel
theorem dL_dutyLater_22 : decode cL_dutyLater 22 = .ok (.ireturn, 1) := by decide +kernel
def rm_L_dutyLater : Room := { frames := 8, cells := 2, slots := 12, locals := 135 }
set_option maxRecDepth 100000 in
set_option maxHeartbeats 4000000 in
theorem k_L_dutyLater {l : Launch} {D : va_G} {cA : Nat → ClassId} {ad : Nat → Nat → Nat} {A : Nat → Prop} {ob : Nat} {cO : ClassId} (ax : Ax ad GC A) (hob : ¬ A ob) (hst : l.stackTraces = false) (p0 : Int32) (p1 : Int32) (mm : Mm) (v : Int64) (Q9 : Int32 → Prop) (X9 : Nat → Mm → Prop) (h : w_X9_dutyLater p0 p1 mm Q9 X9) (hX : ∀ k0 m1, X9 k0 m1 → oK [1, 2] k0) : Met l yL_dutyLater (.codeWith yL_dutyLater cL_dutyLater 5 (some .int) [(0, 10, 13, 21), (0, 10, 17, 13)] :: TG) rm_L_dutyLater (PcL D cA ad A ob cO [.ref (ad 0 1), .int p0, .int p1, .ref ob] mm v) (QcL D cA ad A ob cO (QW tlI xA (fun r m' => Q9 r ∧ mm = m') X9)) 2 12 (AW A ob) := by
  refine enterL pl_L rfl (Nat.le_of_ble_eq_true rfl) ?_
  intro p e s m args below meth c QQ X htab hW hZ hE
  refine q_aload_n (j := 3) X dL_dutyLater_0 rfl rfl ?_
  refine q_iconst X dL_dutyLater_1 rfl ?_
  refine q_aload_n (j := 0) X dL_dutyLater_2 rfl rfl ?_
  refine q_iload_n (j := 1) X dL_dutyLater_3 rfl rfl ?_
  refine q_iload_n (j := 2) X dL_dutyLater_4 rfl rfl ?_
  refine qW_call X hW hZ hob [.int p0, .int p1] [.int 0, .ref ob] rfl rfl (Nat.le_of_ble_eq_true rfl) dL_dutyLater_5 ⟨(Nat.le_of_ble_eq_true rfl), (Nat.le_of_ble_eq_true rfl)⟩ (c_X9_dutyLater ax hst p0 p1 mm Q9 X9 h) rfl rfl (gV kw_6_114 kw_6_115 kw_6_116 kw_1_1 kw_6_117) hy_X9_dutyLater ⟨(Nat.le_of_ble_eq_true rfl), (Nat.le_of_ble_eq_true rfl)⟩ (fun k0 m1 hx => ?_) (fun r m1 hq => ?_)
  · have hk := hX _ _ hx
    unfold oK at hk
    simp only [List.mem_cons, List.not_mem_nil, or_false] at hk
    rcases hk with rfl | rfl
    · skip
      refine ⟨13, by decide, Ct1 (k1 := 1) htab rfl (by decide) (by decide) (X.2.2.2.2 _ kw_3_237), fun q => ?_⟩
      refine q_astore X dL_dutyLater_13 (Nat.le_of_ble_eq_true rfl) rfl ?_
      refine q_iconst X dL_dutyLater_15 rfl ?_
      exact hE _ _ _ _ _ _ _ dL_dutyLater_16 (Nat.le_of_ble_eq_true rfl) (Nat.le_of_ble_eq_true rfl) (Or.inr ⟨by decide, 1, rfl, hx⟩)
    · skip
      refine ⟨17, by decide, Ct2 (k1 := 1) (k2 := 2) htab rfl (by decide) (by decide) (by decide) (X.2.2.2.2 _ kw_3_237) (X.2.2.2.2 _ kw_3_68) hW.2.2.1, fun q => ?_⟩
      refine q_astore X dL_dutyLater_17 (Nat.le_of_ble_eq_true rfl) rfl ?_
      refine q_iconst X dL_dutyLater_19 rfl ?_
      exact hE _ _ _ _ _ _ _ dL_dutyLater_20 (Nat.le_of_ble_eq_true rfl) (Nat.le_of_ble_eq_true rfl) (Or.inr ⟨by decide, 2, rfl, hx⟩)
  · refine q_i2l X dL_dutyLater_8 ?_
    refine qW_last X hW hob ax dL_dutyLater_9 ?_
    refine q_goto X dL_dutyLater_10 rfl ?_
    refine q_iconst X dL_dutyLater_21 rfl ?_
    exact hE _ _ _ _ _ _ _ dL_dutyLater_22 (Nat.le_of_ble_eq_true rfl) (Nat.le_of_ble_eq_true rfl) (Or.inl ⟨rfl, r, rfl, hq⟩)
theorem dL_daysToOverdue_0 : decode cL_daysToOverdue 0 = .ok (.aload_n 2, 1) := by decide +kernel
theorem dL_daysToOverdue_1 : decode cL_daysToOverdue 1 = .ok (.iconst 0, 1) := by decide +kernel
theorem dL_daysToOverdue_2 : decode cL_daysToOverdue 2 = .ok (.aload_n 0, 1) := by decide +kernel
theorem dL_daysToOverdue_3 : decode cL_daysToOverdue 3 = .ok (.iload_n 1, 1) := by decide +kernel
theorem dL_daysToOverdue_4 : decode cL_daysToOverdue 4 = .ok (.invokevirtual 181, 3) := by decide +kernel
theorem dL_daysToOverdue_7 : decode cL_daysToOverdue 7 = .ok (.i2l, 1) := by decide +kernel
theorem dL_daysToOverdue_8 : decode cL_daysToOverdue 8 = .ok (.lastore, 1) := by decide +kernel
theorem dL_daysToOverdue_9 : decode cL_daysToOverdue 9 = .ok (.goto 6, 3) := by decide +kernel
theorem dL_daysToOverdue_12 : decode cL_daysToOverdue 12 = .ok (.astore_n 3, 1) := by decide +kernel
theorem dL_daysToOverdue_13 : decode cL_daysToOverdue 13 = .ok (.iconst 1, 1) := by decide +kernel
theorem dL_daysToOverdue_14 : decode cL_daysToOverdue 14 = .ok (.ireturn, 1) := by decide +kernel
theorem dL_daysToOverdue_15 : decode cL_daysToOverdue 15 = .ok (.iconst 0, 1) := by decide +kernel
theorem dL_daysToOverdue_16 : decode cL_daysToOverdue 16 = .ok (.ireturn, 1) := by decide +kernel
def rm_L_daysToOverdue : Room := { frames := 8, cells := 2, slots := 12, locals := 133 }
set_option maxRecDepth 100000 in
set_option maxHeartbeats 4000000 in
theorem k_L_daysToOverdue {l : Launch} {D : va_G} {cA : Nat → ClassId} {ad : Nat → Nat → Nat} {A : Nat → Prop} {ob : Nat} {cO : ClassId} (ax : Ax ad GC A) (hob : ¬ A ob) (hst : l.stackTraces = false) (p0 : Int32) (mm : Mm) (v : Int64) (Q9 : Int32 → Prop) (X9 : Nat → Mm → Prop) (h : w_X9_daysToOverdue p0 mm Q9 X9) (hX : ∀ k0 m1, X9 k0 m1 → oK [1] k0) : Met l yL_daysToOverdue (.codeWith yL_daysToOverdue cL_daysToOverdue 4 (some .int) [(0, 9, 12, 21)] :: TG) rm_L_daysToOverdue (PcL D cA ad A ob cO [.ref (ad 0 1), .int p0, .ref ob] mm v) (QcL D cA ad A ob cO (QW tlI xA (fun r m' => Q9 r ∧ mm = m') X9)) 2 12 (AW A ob) := by
  refine enterL pl_L rfl (Nat.le_of_ble_eq_true rfl) ?_
  intro p e s m args below meth c QQ X htab hW hZ hE
  refine q_aload_n (j := 2) X dL_daysToOverdue_0 rfl rfl ?_
  refine q_iconst X dL_daysToOverdue_1 rfl ?_
  refine q_aload_n (j := 0) X dL_daysToOverdue_2 rfl rfl ?_
  refine q_iload_n (j := 1) X dL_daysToOverdue_3 rfl rfl ?_
  refine qW_call X hW hZ hob [.int p0] [.int 0, .ref ob] rfl rfl (Nat.le_of_ble_eq_true rfl) dL_daysToOverdue_4 ⟨(Nat.le_of_ble_eq_true rfl), (Nat.le_of_ble_eq_true rfl)⟩ (c_X9_daysToOverdue ax hst p0 mm Q9 X9 h) rfl rfl (gV kw_6_121 kw_6_122 kw_6_123 kw_1_1 kw_6_124) hy_X9_daysToOverdue ⟨(Nat.le_of_ble_eq_true rfl), (Nat.le_of_ble_eq_true rfl)⟩ (fun k0 m1 hx => ?_) (fun r m1 hq => ?_)
  · have hk := hX _ _ hx
    unfold oK at hk
    simp only [List.mem_cons, List.not_mem_nil, or_false] at hk
    subst hk
    refine ⟨12, by decide, Ct1 (k1 := 1) htab rfl (by decide) (by decide) (X.2.2.2.2 _ kw_3_237), fun q => ?_⟩
    refine q_astore_n X dL_daysToOverdue_12 rfl (Nat.le_of_ble_eq_true rfl) rfl ?_
    refine q_iconst X dL_daysToOverdue_13 rfl ?_
    exact hE _ _ _ _ _ _ _ dL_daysToOverdue_14 (Nat.le_of_ble_eq_true rfl) (Nat.le_of_ble_eq_true rfl) (Or.inr ⟨by decide, 1, rfl, hx⟩)
  · refine q_i2l X dL_daysToOverdue_7 ?_
    refine qW_last X hW hob ax dL_daysToOverdue_8 ?_
    refine q_goto X dL_daysToOverdue_9 rfl ?_
    refine q_iconst X dL_daysToOverdue_15 rfl ?_
    exact hE _ _ _ _ _ _ _ dL_daysToOverdue_16 (Nat.le_of_ble_eq_true rfl) (Nat.le_of_ble_eq_true rfl) (Or.inl ⟨rfl, r, rfl, hq⟩)
theorem dL_cheapestEntry_0 : decode cL_cheapestEntry 0 = .ok (.aload_n 2, 1) := by decide +kernel
theorem dL_cheapestEntry_1 : decode cL_cheapestEntry 1 = .ok (.iconst 0, 1) := by decide +kernel
theorem dL_cheapestEntry_2 : decode cL_cheapestEntry 2 = .ok (.aload_n 0, 1) := by decide +kernel
theorem dL_cheapestEntry_3 : decode cL_cheapestEntry 3 = .ok (.iload_n 1, 1) := by decide +kernel
theorem dL_cheapestEntry_4 : decode cL_cheapestEntry 4 = .ok (.invokevirtual 184, 3) := by decide +kernel
theorem dL_cheapestEntry_7 : decode cL_cheapestEntry 7 = .ok (.i2l, 1) := by decide +kernel
theorem dL_cheapestEntry_8 : decode cL_cheapestEntry 8 = .ok (.lastore, 1) := by decide +kernel
theorem dL_cheapestEntry_9 : decode cL_cheapestEntry 9 = .ok (.goto 6, 3) := by decide +kernel
theorem dL_cheapestEntry_12 : decode cL_cheapestEntry 12 = .ok (.astore_n 3, 1) := by decide +kernel
theorem dL_cheapestEntry_13 : decode cL_cheapestEntry 13 = .ok (.iconst 1, 1) := by decide +kernel
theorem dL_cheapestEntry_14 : decode cL_cheapestEntry 14 = .ok (.ireturn, 1) := by decide +kernel
theorem dL_cheapestEntry_15 : decode cL_cheapestEntry 15 = .ok (.iconst 0, 1) := by decide +kernel
theorem dL_cheapestEntry_16 : decode cL_cheapestEntry 16 = .ok (.ireturn, 1) := by decide +kernel
def rm_L_cheapestEntry : Room := { frames := 8, cells := 2, slots := 12, locals := 133 }
set_option maxRecDepth 100000 in
set_option maxHeartbeats 4000000 in
theorem k_L_cheapestEntry {l : Launch} {D : va_G} {cA : Nat → ClassId} {ad : Nat → Nat → Nat} {A : Nat → Prop} {ob : Nat} {cO : ClassId} (ax : Ax ad GC A) (hob : ¬ A ob) (hst : l.stackTraces = false) (p0 : Int32) (mm : Mm) (v : Int64) (Q9 : Int32 → Mm → Prop) (X9 : Nat → Mm → Prop) (h : w_X9_cheapestEntry p0 mm Q9 X9) (hX : ∀ k0 m1, X9 k0 m1 → oK [2] k0) : Met l yL_cheapestEntry (.codeWith yL_cheapestEntry cL_cheapestEntry 4 (some .int) [(0, 9, 12, 13)] :: TG) rm_L_cheapestEntry (PcL D cA ad A ob cO [.ref (ad 0 1), .int p0, .ref ob] mm v) (QcL D cA ad A ob cO (QW tlI xB Q9 X9)) 2 12 (AW A ob) := by
  refine enterL pl_L rfl (Nat.le_of_ble_eq_true rfl) ?_
  intro p e s m args below meth c QQ X htab hW hZ hE
  refine q_aload_n (j := 2) X dL_cheapestEntry_0 rfl rfl ?_
  refine q_iconst X dL_cheapestEntry_1 rfl ?_
  refine q_aload_n (j := 0) X dL_cheapestEntry_2 rfl rfl ?_
  refine q_iload_n (j := 1) X dL_cheapestEntry_3 rfl rfl ?_
  refine qW_call X hW hZ hob [.int p0] [.int 0, .ref ob] rfl rfl (Nat.le_of_ble_eq_true rfl) dL_cheapestEntry_4 ⟨(Nat.le_of_ble_eq_true rfl), (Nat.le_of_ble_eq_true rfl)⟩ (c_X9_cheapestEntry ax hst p0 mm Q9 X9 h) rfl rfl (gV kw_6_129 kw_6_130 kw_6_131 kw_1_1 kw_6_132) hy_X9_cheapestEntry ⟨(Nat.le_of_ble_eq_true rfl), (Nat.le_of_ble_eq_true rfl)⟩ (fun k0 m1 hx => ?_) (fun r m1 hq => ?_)
  · have hk := hX _ _ hx
    unfold oK at hk
    simp only [List.mem_cons, List.not_mem_nil, or_false] at hk
    subst hk
    refine ⟨12, by decide, Ct1 (k1 := 2) htab rfl (by decide) (by decide) (X.2.2.2.2 _ kw_3_68), fun q => ?_⟩
    refine q_astore_n X dL_cheapestEntry_12 rfl (Nat.le_of_ble_eq_true rfl) rfl ?_
    refine q_iconst X dL_cheapestEntry_13 rfl ?_
    exact hE _ _ _ _ _ _ _ dL_cheapestEntry_14 (Nat.le_of_ble_eq_true rfl) (Nat.le_of_ble_eq_true rfl) (Or.inr ⟨by decide, 2, rfl, hx⟩)
  · refine q_i2l X dL_cheapestEntry_7 ?_
    refine qW_last X hW hob ax dL_cheapestEntry_8 ?_
    refine q_goto X dL_cheapestEntry_9 rfl ?_
    refine q_iconst X dL_cheapestEntry_15 rfl ?_
    exact hE _ _ _ _ _ _ _ dL_cheapestEntry_16 (Nat.le_of_ble_eq_true rfl) (Nat.le_of_ble_eq_true rfl) (Or.inl ⟨rfl, r, rfl, hq⟩)
theorem dL_dutyFromCheapest_0 : decode cL_dutyFromCheapest 0 = .ok (.aload_n 3, 1) := by decide +kernel
theorem dL_dutyFromCheapest_1 : decode cL_dutyFromCheapest 1 = .ok (.iconst 0, 1) := by decide +kernel
theorem dL_dutyFromCheapest_2 : decode cL_dutyFromCheapest 2 = .ok (.aload_n 0, 1) := by decide +kernel
theorem dL_dutyFromCheapest_3 : decode cL_dutyFromCheapest 3 = .ok (.iload_n 1, 1) := by decide +kernel
theorem dL_dutyFromCheapest_4 : decode cL_dutyFromCheapest 4 = .ok (.iload_n 2, 1) := by decide +kernel
theorem dL_dutyFromCheapest_5 : decode cL_dutyFromCheapest 5 = .ok (.invokevirtual 187, 3) := by decide +kernel
theorem dL_dutyFromCheapest_8 : decode cL_dutyFromCheapest 8 = .ok (.i2l, 1) := by decide +kernel
theorem dL_dutyFromCheapest_9 : decode cL_dutyFromCheapest 9 = .ok (.lastore, 1) := by decide +kernel
theorem dL_dutyFromCheapest_10 : decode cL_dutyFromCheapest 10 = .ok (.goto 7, 3) := by decide +kernel
theorem dL_dutyFromCheapest_13 : decode cL_dutyFromCheapest 13 = .ok (.astore 4, 2) := by decide +kernel
theorem dL_dutyFromCheapest_15 : decode cL_dutyFromCheapest 15 = .ok (.iconst 1, 1) := by decide +kernel
theorem dL_dutyFromCheapest_16 : decode cL_dutyFromCheapest 16 = .ok (.ireturn, 1) := by decide +kernel
theorem dL_dutyFromCheapest_17 : decode cL_dutyFromCheapest 17 = .ok (.iconst 0, 1) := by decide +kernel
theorem dL_dutyFromCheapest_18 : decode cL_dutyFromCheapest 18 = .ok (.ireturn, 1) := by decide +kernel
def rm_L_dutyFromCheapest : Room := { frames := 8, cells := 2, slots := 12, locals := 134 }
set_option maxRecDepth 100000 in
set_option maxHeartbeats 4000000 in
theorem k_L_dutyFromCheapest {l : Launch} {D : va_G} {cA : Nat → ClassId} {ad : Nat → Nat → Nat} {A : Nat → Prop} {ob : Nat} {cO : ClassId} (ax : Ax ad GC A) (hob : ¬ A ob) (hst : l.stackTraces = false) (p0 : Int32) (p1 : Int32) (mm : Mm) (v : Int64) (Q9 : Int32 → Mm → Prop) (X9 : Nat → Mm → Prop) (h : w_X9_dutyFromCheapest p0 p1 mm Q9 X9) (hX : ∀ k0 m1, X9 k0 m1 → oK [2] k0) : Met l yL_dutyFromCheapest (.codeWith yL_dutyFromCheapest cL_dutyFromCheapest 5 (some .int) [(0, 10, 13, 13)] :: TG) rm_L_dutyFromCheapest (PcL D cA ad A ob cO [.ref (ad 0 1), .int p0, .int p1, .ref ob] mm v) (QcL D cA ad A ob cO (QW tlI xB Q9 X9)) 2 12 (AW A ob) := by
  refine enterL pl_L rfl (Nat.le_of_ble_eq_true rfl) ?_
  intro p e s m args below meth c QQ X htab hW hZ hE
  refine q_aload_n (j := 3) X dL_dutyFromCheapest_0 rfl rfl ?_
  refine q_iconst X dL_dutyFromCheapest_1 rfl ?_
  refine q_aload_n (j := 0) X dL_dutyFromCheapest_2 rfl rfl ?_
  refine q_iload_n (j := 1) X dL_dutyFromCheapest_3 rfl rfl ?_
  refine q_iload_n (j := 2) X dL_dutyFromCheapest_4 rfl rfl ?_
  refine qW_call X hW hZ hob [.int p0, .int p1] [.int 0, .ref ob] rfl rfl (Nat.le_of_ble_eq_true rfl) dL_dutyFromCheapest_5 ⟨(Nat.le_of_ble_eq_true rfl), (Nat.le_of_ble_eq_true rfl)⟩ (c_X9_dutyFromCheapest ax hst p0 p1 mm Q9 X9 h) rfl rfl (gV kw_6_145 kw_6_146 kw_6_147 kw_1_1 kw_6_148) hy_X9_dutyFromCheapest ⟨(Nat.le_of_ble_eq_true rfl), (Nat.le_of_ble_eq_true rfl)⟩ (fun k0 m1 hx => ?_) (fun r m1 hq => ?_)
  · have hk := hX _ _ hx
    unfold oK at hk
    simp only [List.mem_cons, List.not_mem_nil, or_false] at hk
    subst hk
    refine ⟨13, by decide, Ct1 (k1 := 2) htab rfl (by decide) (by decide) (X.2.2.2.2 _ kw_3_68), fun q => ?_⟩
    refine q_astore X dL_dutyFromCheapest_13 (Nat.le_of_ble_eq_true rfl) rfl ?_
    refine q_iconst X dL_dutyFromCheapest_15 rfl ?_
    exact hE _ _ _ _ _ _ _ dL_dutyFromCheapest_16 (Nat.le_of_ble_eq_true rfl) (Nat.le_of_ble_eq_true rfl) (Or.inr ⟨by decide, 2, rfl, hx⟩)
  · refine q_i2l X dL_dutyFromCheapest_8 ?_
    refine qW_last X hW hob ax dL_dutyFromCheapest_9 ?_
    refine q_goto X dL_dutyFromCheapest_10 rfl ?_
    refine q_iconst X dL_dutyFromCheapest_17 rfl ?_
    exact hE _ _ _ _ _ _ _ dL_dutyFromCheapest_18 (Nat.le_of_ble_eq_true rfl) (Nat.le_of_ble_eq_true rfl) (Or.inl ⟨rfl, r, rfl, hq⟩)
theorem dL_append_0 : decode cL_append 0 = .ok (.aload_n 2, 1) := by decide +kernel
theorem dL_append_1 : decode cL_append 1 = .ok (.iconst 0, 1) := by decide +kernel
theorem dL_append_2 : decode cL_append 2 = .ok (.aload_n 0, 1) := by decide +kernel
theorem dL_append_3 : decode cL_append 3 = .ok (.iload_n 1, 1) := by decide +kernel
theorem dL_append_4 : decode cL_append 4 = .ok (.invokevirtual 190, 3) := by decide +kernel
theorem dL_append_7 : decode cL_append 7 = .ok (.i2l, 1) := by decide +kernel
theorem dL_append_8 : decode cL_append 8 = .ok (.lastore, 1) := by decide +kernel
theorem dL_append_9 : decode cL_append 9 = .ok (.goto 9, 3) := by decide +kernel
theorem dL_append_12 : decode cL_append 12 = .ok (.astore_n 3, 1) := by decide +kernel
theorem dL_append_13 : decode cL_append 13 = .ok (.iconst 1, 1) := by decide +kernel
theorem dL_append_14 : decode cL_append 14 = .ok (.ireturn, 1) := by decide +kernel
theorem dL_append_15 : decode cL_append 15 = .ok (.astore_n 3, 1) := by decide +kernel
theorem dL_append_16 : decode cL_append 16 = .ok (.iconst 2, 1) := by decide +kernel
theorem dL_append_17 : decode cL_append 17 = .ok (.ireturn, 1) := by decide +kernel
theorem dL_append_18 : decode cL_append 18 = .ok (.iconst 0, 1) := by decide +kernel
theorem dL_append_19 : decode cL_append 19 = .ok (.ireturn, 1) := by decide +kernel
def rm_L_append : Room := { frames := 8, cells := 2, slots := 12, locals := 133 }
set_option maxRecDepth 100000 in
set_option maxHeartbeats 4000000 in
theorem k_L_append {l : Launch} {D : va_G} {cA : Nat → ClassId} {ad : Nat → Nat → Nat} {A : Nat → Prop} {ob : Nat} {cO : ClassId} (ax : Ax ad GC A) (hob : ¬ A ob) (hst : l.stackTraces = false) (p0 : Int32) (mm : Mm) (v : Int64) (Q9 : Int32 → Mm → Prop) (X9 : Nat → Mm → Prop) (h : w_X9_append p0 mm Q9 X9) (hX : ∀ k0 m1, X9 k0 m1 → oK [2, 3] k0) : Met l yL_append (.codeWith yL_append cL_append 4 (some .int) [(0, 9, 12, 13), (0, 9, 15, 15)] :: TG) rm_L_append (PcL D cA ad A ob cO [.ref (ad 0 1), .int p0, .ref ob] mm v) (QcL D cA ad A ob cO (QW tlI xB Q9 X9)) 2 12 (AW A ob) := by
  refine enterL pl_L rfl (Nat.le_of_ble_eq_true rfl) ?_
  intro p e s m args below meth c QQ X htab hW hZ hE
  refine q_aload_n (j := 2) X dL_append_0 rfl rfl ?_
  refine q_iconst X dL_append_1 rfl ?_
  refine q_aload_n (j := 0) X dL_append_2 rfl rfl ?_
  refine q_iload_n (j := 1) X dL_append_3 rfl rfl ?_
  refine qW_call X hW hZ hob [.int p0] [.int 0, .ref ob] rfl rfl (Nat.le_of_ble_eq_true rfl) dL_append_4 ⟨(Nat.le_of_ble_eq_true rfl), (Nat.le_of_ble_eq_true rfl)⟩ (c_X9_append ax hst p0 mm Q9 X9 h) rfl rfl (gV kw_6_158 kw_6_159 kw_6_160 kw_1_1 kw_6_161) hy_X9_append ⟨(Nat.le_of_ble_eq_true rfl), (Nat.le_of_ble_eq_true rfl)⟩ (fun k0 m1 hx => ?_) (fun r m1 hq => ?_)
  · have hk := hX _ _ hx
    unfold oK at hk
    simp only [List.mem_cons, List.not_mem_nil, or_false] at hk
    rcases hk with rfl | rfl
    · skip
      refine ⟨12, by decide, Ct1 (k1 := 2) htab rfl (by decide) (by decide) (X.2.2.2.2 _ kw_3_68), fun q => ?_⟩
      refine q_astore_n X dL_append_12 rfl (Nat.le_of_ble_eq_true rfl) rfl ?_
      refine q_iconst X dL_append_13 rfl ?_
      exact hE _ _ _ _ _ _ _ dL_append_14 (Nat.le_of_ble_eq_true rfl) (Nat.le_of_ble_eq_true rfl) (Or.inr ⟨by decide, 2, rfl, hx⟩)
    · skip
      refine ⟨15, by decide, Ct2 (k1 := 2) (k2 := 3) htab rfl (by decide) (by decide) (by decide) (X.2.2.2.2 _ kw_3_68) (X.2.2.2.2 _ kw_3_69) hW.2.2.2.2, fun q => ?_⟩
      refine q_astore_n X dL_append_15 rfl (Nat.le_of_ble_eq_true rfl) rfl ?_
      refine q_iconst X dL_append_16 rfl ?_
      exact hE _ _ _ _ _ _ _ dL_append_17 (Nat.le_of_ble_eq_true rfl) (Nat.le_of_ble_eq_true rfl) (Or.inr ⟨by decide, 3, rfl, hx⟩)
  · refine q_i2l X dL_append_7 ?_
    refine qW_last X hW hob ax dL_append_8 ?_
    refine q_goto X dL_append_9 rfl ?_
    refine q_iconst X dL_append_18 rfl ?_
    exact hE _ _ _ _ _ _ _ dL_append_19 (Nat.le_of_ble_eq_true rfl) (Nat.le_of_ble_eq_true rfl) (Or.inl ⟨rfl, r, rfl, hq⟩)
theorem dL_run_0 : decode cL_run 0 = .ok (.aload_n 1, 1) := by decide +kernel
theorem dL_run_1 : decode cL_run 1 = .ok (.iconst 0, 1) := by decide +kernel
theorem dL_run_2 : decode cL_run 2 = .ok (.aload_n 0, 1) := by decide +kernel
theorem dL_run_3 : decode cL_run 3 = .ok (.invokevirtual 193, 3) := by decide +kernel
theorem dL_run_6 : decode cL_run 6 = .ok (.i2l, 1) := by decide +kernel
theorem dL_run_7 : decode cL_run 7 = .ok (.lastore, 1) := by decide +kernel
theorem dL_run_8 : decode cL_run 8 = .ok (.goto 6, 3) := by decide +kernel
theorem dL_run_11 : decode cL_run 11 = .ok (.astore_n 2, 1) := by decide +kernel
theorem dL_run_12 : decode cL_run 12 = .ok (.iconst 1, 1) := by decide +kernel
theorem dL_run_13 : decode cL_run 13 = .ok (.ireturn, 1) := by decide +kernel
theorem dL_run_14 : decode cL_run 14 = .ok (.iconst 0, 1) := by decide +kernel
theorem dL_run_15 : decode cL_run 15 = .ok (.ireturn, 1) := by decide +kernel
def rm_L_run : Room := { frames := 7, cells := 2, slots := 12, locals := 162 }
set_option maxRecDepth 100000 in
set_option maxHeartbeats 4000000 in
theorem k_L_run {l : Launch} {D : va_G} {cA : Nat → ClassId} {ad : Nat → Nat → Nat} {A : Nat → Prop} {ob : Nat} {cO : ClassId} (ax : Ax ad GC A) (hob : ¬ A ob) (hst : l.stackTraces = false)  (mm : Mm) (v : Int64) (Q9 : Int32 → Mm → Prop) (X9 : Nat → Mm → Prop) (h : w_X9_run  mm Q9 X9) (hX : ∀ k0 m1, X9 k0 m1 → oK [2] k0) : Met l yL_run (.codeWith yL_run cL_run 3 (some .int) [(0, 8, 11, 13)] :: TG) rm_L_run (PcL D cA ad A ob cO [.ref (ad 0 1), .ref ob] mm v) (QcL D cA ad A ob cO (QW tlI xB Q9 X9)) 2 12 (AW A ob) := by
  refine enterL pl_L rfl (Nat.le_of_ble_eq_true rfl) ?_
  intro p e s m args below meth c QQ X htab hW hZ hE
  refine q_aload_n (j := 1) X dL_run_0 rfl rfl ?_
  refine q_iconst X dL_run_1 rfl ?_
  refine q_aload_n (j := 0) X dL_run_2 rfl rfl ?_
  refine qW_call X hW hZ hob [] [.int 0, .ref ob] rfl rfl (Nat.le_of_ble_eq_true rfl) dL_run_3 ⟨(Nat.le_of_ble_eq_true rfl), (Nat.le_of_ble_eq_true rfl)⟩ (c_X9_run ax hst  mm Q9 X9 h) rfl rfl (gV kw_6_170 kw_6_171 kw_6_172 kw_1_1 kw_6_173) hy_X9_run ⟨(Nat.le_of_ble_eq_true rfl), (Nat.le_of_ble_eq_true rfl)⟩ (fun k0 m1 hx => ?_) (fun r m1 hq => ?_)
  · have hk := hX _ _ hx
    unfold oK at hk
    simp only [List.mem_cons, List.not_mem_nil, or_false] at hk
    subst hk
    refine ⟨11, by decide, Ct1 (k1 := 2) htab rfl (by decide) (by decide) (X.2.2.2.2 _ kw_3_68), fun q => ?_⟩
    refine q_astore_n X dL_run_11 rfl (Nat.le_of_ble_eq_true rfl) rfl ?_
    refine q_iconst X dL_run_12 rfl ?_
    exact hE _ _ _ _ _ _ _ dL_run_13 (Nat.le_of_ble_eq_true rfl) (Nat.le_of_ble_eq_true rfl) (Or.inr ⟨by decide, 2, rfl, hx⟩)
  · refine q_i2l X dL_run_6 ?_
    refine qW_last X hW hob ax dL_run_7 ?_
    refine q_goto X dL_run_8 rfl ?_
    refine q_iconst X dL_run_14 rfl ?_
    exact hE _ _ _ _ _ _ _ dL_run_15 (Nat.le_of_ble_eq_true rfl) (Nat.le_of_ble_eq_true rfl) (Or.inl ⟨rfl, r, rfl, hq⟩)
theorem dL_undo_0 : decode cL_undo 0 = .ok (.aload_n 1, 1) := by decide +kernel
theorem dL_undo_1 : decode cL_undo 1 = .ok (.iconst 0, 1) := by decide +kernel
theorem dL_undo_2 : decode cL_undo 2 = .ok (.aload_n 0, 1) := by decide +kernel
theorem dL_undo_3 : decode cL_undo 3 = .ok (.invokevirtual 197, 3) := by decide +kernel
theorem dL_undo_6 : decode cL_undo 6 = .ok (.i2l, 1) := by decide +kernel
theorem dL_undo_7 : decode cL_undo 7 = .ok (.lastore, 1) := by decide +kernel
theorem dL_undo_8 : decode cL_undo 8 = .ok (.goto 6, 3) := by decide +kernel
theorem dL_undo_11 : decode cL_undo 11 = .ok (.astore_n 2, 1) := by decide +kernel
theorem dL_undo_12 : decode cL_undo 12 = .ok (.iconst 1, 1) := by decide +kernel
theorem dL_undo_13 : decode cL_undo 13 = .ok (.ireturn, 1) := by decide +kernel
theorem dL_undo_14 : decode cL_undo 14 = .ok (.iconst 0, 1) := by decide +kernel
theorem dL_undo_15 : decode cL_undo 15 = .ok (.ireturn, 1) := by decide +kernel
def rm_L_undo : Room := { frames := 7, cells := 2, slots := 12, locals := 110 }
set_option maxRecDepth 100000 in
set_option maxHeartbeats 4000000 in
theorem k_L_undo {l : Launch} {D : va_G} {cA : Nat → ClassId} {ad : Nat → Nat → Nat} {A : Nat → Prop} {ob : Nat} {cO : ClassId} (ax : Ax ad GC A) (hob : ¬ A ob) (hst : l.stackTraces = false)  (mm : Mm) (v : Int64) (Q9 : Int32 → Mm → Prop) (X9 : Nat → Mm → Prop) (h : w_X9_undo  mm Q9 X9) (hX : ∀ k0 m1, X9 k0 m1 → oK [3] k0) : Met l yL_undo (.codeWith yL_undo cL_undo 3 (some .int) [(0, 8, 11, 15)] :: TG) rm_L_undo (PcL D cA ad A ob cO [.ref (ad 0 1), .ref ob] mm v) (QcL D cA ad A ob cO (QW tlI xU Q9 X9)) 2 12 (AW A ob) := by
  refine enterL pl_L rfl (Nat.le_of_ble_eq_true rfl) ?_
  intro p e s m args below meth c QQ X htab hW hZ hE
  refine q_aload_n (j := 1) X dL_undo_0 rfl rfl ?_
  refine q_iconst X dL_undo_1 rfl ?_
  refine q_aload_n (j := 0) X dL_undo_2 rfl rfl ?_
  refine qW_call X hW hZ hob [] [.int 0, .ref ob] rfl rfl (Nat.le_of_ble_eq_true rfl) dL_undo_3 ⟨(Nat.le_of_ble_eq_true rfl), (Nat.le_of_ble_eq_true rfl)⟩ (c_X9_undo ax hst  mm Q9 X9 h) rfl rfl (gV kw_6_208 kw_6_209 kw_6_210 kw_1_1 kw_6_211) hy_X9_undo ⟨(Nat.le_of_ble_eq_true rfl), (Nat.le_of_ble_eq_true rfl)⟩ (fun k0 m1 hx => ?_) (fun r m1 hq => ?_)
  · have hk := hX _ _ hx
    unfold oK at hk
    simp only [List.mem_cons, List.not_mem_nil, or_false] at hk
    subst hk
    refine ⟨11, by decide, Ct1 (k1 := 3) htab rfl (by decide) (by decide) (X.2.2.2.2 _ kw_3_69), fun q => ?_⟩
    refine q_astore_n X dL_undo_11 rfl (Nat.le_of_ble_eq_true rfl) rfl ?_
    refine q_iconst X dL_undo_12 rfl ?_
    exact hE _ _ _ _ _ _ _ dL_undo_13 (Nat.le_of_ble_eq_true rfl) (Nat.le_of_ble_eq_true rfl) (Or.inr ⟨by decide, 3, rfl, hx⟩)
  · refine q_i2l X dL_undo_6 ?_
    refine qW_last X hW hob ax dL_undo_7 ?_
    refine q_goto X dL_undo_8 rfl ?_
    refine q_iconst X dL_undo_14 rfl ?_
    exact hE _ _ _ _ _ _ _ dL_undo_15 (Nat.le_of_ble_eq_true rfl) (Nat.le_of_ble_eq_true rfl) (Or.inl ⟨rfl, r, rfl, hq⟩)
theorem dL_keep_0 : decode cL_keep 0 = .ok (.aload_n 2, 1) := by decide +kernel
theorem dL_keep_1 : decode cL_keep 1 = .ok (.iconst 0, 1) := by decide +kernel
theorem dL_keep_2 : decode cL_keep 2 = .ok (.aload_n 0, 1) := by decide +kernel
theorem dL_keep_3 : decode cL_keep 3 = .ok (.iload_n 1, 1) := by decide +kernel
theorem dL_keep_4 : decode cL_keep 4 = .ok (.invokevirtual 200, 3) := by decide +kernel
theorem dL_keep_7 : decode cL_keep 7 = .ok (.i2l, 1) := by decide +kernel
theorem dL_keep_8 : decode cL_keep 8 = .ok (.lastore, 1) := by decide +kernel
theorem dL_keep_9 : decode cL_keep 9 = .ok (.goto 6, 3) := by decide +kernel
theorem dL_keep_12 : decode cL_keep 12 = .ok (.astore_n 3, 1) := by decide +kernel
theorem dL_keep_13 : decode cL_keep 13 = .ok (.iconst 1, 1) := by decide +kernel
theorem dL_keep_14 : decode cL_keep 14 = .ok (.ireturn, 1) := by decide +kernel
theorem dL_keep_15 : decode cL_keep 15 = .ok (.iconst 0, 1) := by decide +kernel
theorem dL_keep_16 : decode cL_keep 16 = .ok (.ireturn, 1) := by decide +kernel
def rm_L_keep : Room := { frames := 8, cells := 2, slots := 12, locals := 131 }
set_option maxRecDepth 100000 in
set_option maxHeartbeats 4000000 in
theorem k_L_keep {l : Launch} {D : va_G} {cA : Nat → ClassId} {ad : Nat → Nat → Nat} {A : Nat → Prop} {ob : Nat} {cO : ClassId} (ax : Ax ad GC A) (hob : ¬ A ob) (hst : l.stackTraces = false) (p0 : Int32) (mm : Mm) (v : Int64) (Q9 : Int32 → Mm → Prop) (X9 : Nat → Mm → Prop) (h : w_X9_keep p0 mm Q9 X9) (hX : ∀ k0 m1, X9 k0 m1 → oK [1] k0) : Met l yL_keep (.codeWith yL_keep cL_keep 4 (some .int) [(0, 9, 12, 21)] :: TG) rm_L_keep (PcL D cA ad A ob cO [.ref (ad 0 1), .int p0, .ref ob] mm v) (QcL D cA ad A ob cO (QW tlI xA Q9 X9)) 2 12 (AW A ob) := by
  refine enterL pl_L rfl (Nat.le_of_ble_eq_true rfl) ?_
  intro p e s m args below meth c QQ X htab hW hZ hE
  refine q_aload_n (j := 2) X dL_keep_0 rfl rfl ?_
  refine q_iconst X dL_keep_1 rfl ?_
  refine q_aload_n (j := 0) X dL_keep_2 rfl rfl ?_
  refine q_iload_n (j := 1) X dL_keep_3 rfl rfl ?_
  refine qW_call X hW hZ hob [.int p0] [.int 0, .ref ob] rfl rfl (Nat.le_of_ble_eq_true rfl) dL_keep_4 ⟨(Nat.le_of_ble_eq_true rfl), (Nat.le_of_ble_eq_true rfl)⟩ (c_X9_keep ax hst p0 mm Q9 X9 h) rfl rfl (gV kw_6_220 kw_6_221 kw_6_222 kw_1_1 kw_6_223) hy_X9_keep ⟨(Nat.le_of_ble_eq_true rfl), (Nat.le_of_ble_eq_true rfl)⟩ (fun k0 m1 hx => ?_) (fun r m1 hq => ?_)
  · have hk := hX _ _ hx
    unfold oK at hk
    simp only [List.mem_cons, List.not_mem_nil, or_false] at hk
    subst hk
    refine ⟨12, by decide, Ct1 (k1 := 1) htab rfl (by decide) (by decide) (X.2.2.2.2 _ kw_3_237), fun q => ?_⟩
    refine q_astore_n X dL_keep_12 rfl (Nat.le_of_ble_eq_true rfl) rfl ?_
    refine q_iconst X dL_keep_13 rfl ?_
    exact hE _ _ _ _ _ _ _ dL_keep_14 (Nat.le_of_ble_eq_true rfl) (Nat.le_of_ble_eq_true rfl) (Or.inr ⟨by decide, 1, rfl, hx⟩)
  · refine q_i2l X dL_keep_7 ?_
    refine qW_last X hW hob ax dL_keep_8 ?_
    refine q_goto X dL_keep_9 rfl ?_
    refine q_iconst X dL_keep_15 rfl ?_
    exact hE _ _ _ _ _ _ _ dL_keep_16 (Nat.le_of_ble_eq_true rfl) (Nat.le_of_ble_eq_true rfl) (Or.inl ⟨rfl, r, rfl, hq⟩)
theorem dL_goBack_0 : decode cL_goBack 0 = .ok (.aload_n 2, 1) := by decide +kernel
theorem dL_goBack_1 : decode cL_goBack 1 = .ok (.iconst 0, 1) := by decide +kernel
theorem dL_goBack_2 : decode cL_goBack 2 = .ok (.aload_n 0, 1) := by decide +kernel
theorem dL_goBack_3 : decode cL_goBack 3 = .ok (.iload_n 1, 1) := by decide +kernel
theorem dL_goBack_4 : decode cL_goBack 4 = .ok (.invokevirtual 203, 3) := by decide +kernel
theorem dL_goBack_7 : decode cL_goBack 7 = .ok (.i2l, 1) := by decide +kernel
theorem dL_goBack_8 : decode cL_goBack 8 = .ok (.lastore, 1) := by decide +kernel
theorem dL_goBack_9 : decode cL_goBack 9 = .ok (.goto 9, 3) := by decide +kernel
theorem dL_goBack_12 : decode cL_goBack 12 = .ok (.astore_n 3, 1) := by decide +kernel
theorem dL_goBack_13 : decode cL_goBack 13 = .ok (.iconst 1, 1) := by decide +kernel
theorem dL_goBack_14 : decode cL_goBack 14 = .ok (.ireturn, 1) := by decide +kernel
theorem dL_goBack_15 : decode cL_goBack 15 = .ok (.astore_n 3, 1) := by decide +kernel
theorem dL_goBack_16 : decode cL_goBack 16 = .ok (.iconst 2, 1) := by decide +kernel
theorem dL_goBack_17 : decode cL_goBack 17 = .ok (.ireturn, 1) := by decide +kernel
theorem dL_goBack_18 : decode cL_goBack 18 = .ok (.iconst 0, 1) := by decide +kernel
theorem dL_goBack_19 : decode cL_goBack 19 = .ok (.ireturn, 1) := by decide +kernel
def rm_L_goBack : Room := { frames := 8, cells := 2, slots := 12, locals := 131 }
set_option maxRecDepth 100000 in
set_option maxHeartbeats 4000000 in
theorem k_L_goBack {l : Launch} {D : va_G} {cA : Nat → ClassId} {ad : Nat → Nat → Nat} {A : Nat → Prop} {ob : Nat} {cO : ClassId} (ax : Ax ad GC A) (hob : ¬ A ob) (hst : l.stackTraces = false) (p0 : Int32) (mm : Mm) (v : Int64) (Q9 : Int32 → Mm → Prop) (X9 : Nat → Mm → Prop) (h : w_X9_goBack p0 mm Q9 X9) (hX : ∀ k0 m1, X9 k0 m1 → oK [1, 3] k0) : Met l yL_goBack (.codeWith yL_goBack cL_goBack 4 (some .int) [(0, 9, 12, 21), (0, 9, 15, 15)] :: TG) rm_L_goBack (PcL D cA ad A ob cO [.ref (ad 0 1), .int p0, .ref ob] mm v) (QcL D cA ad A ob cO (QW tlI xC Q9 X9)) 2 12 (AW A ob) := by
  refine enterL pl_L rfl (Nat.le_of_ble_eq_true rfl) ?_
  intro p e s m args below meth c QQ X htab hW hZ hE
  refine q_aload_n (j := 2) X dL_goBack_0 rfl rfl ?_
  refine q_iconst X dL_goBack_1 rfl ?_
  refine q_aload_n (j := 0) X dL_goBack_2 rfl rfl ?_
  refine q_iload_n (j := 1) X dL_goBack_3 rfl rfl ?_
  refine qW_call X hW hZ hob [.int p0] [.int 0, .ref ob] rfl rfl (Nat.le_of_ble_eq_true rfl) dL_goBack_4 ⟨(Nat.le_of_ble_eq_true rfl), (Nat.le_of_ble_eq_true rfl)⟩ (c_X9_goBack ax hst p0 mm Q9 X9 h) rfl rfl (gV kw_6_235 kw_6_236 kw_6_237 kw_1_1 kw_6_238) hy_X9_goBack ⟨(Nat.le_of_ble_eq_true rfl), (Nat.le_of_ble_eq_true rfl)⟩ (fun k0 m1 hx => ?_) (fun r m1 hq => ?_)
  · have hk := hX _ _ hx
    unfold oK at hk
    simp only [List.mem_cons, List.not_mem_nil, or_false] at hk
    rcases hk with rfl | rfl
    · skip
      refine ⟨12, by decide, Ct1 (k1 := 1) htab rfl (by decide) (by decide) (X.2.2.2.2 _ kw_3_237), fun q => ?_⟩
      refine q_astore_n X dL_goBack_12 rfl (Nat.le_of_ble_eq_true rfl) rfl ?_
      refine q_iconst X dL_goBack_13 rfl ?_
      exact hE _ _ _ _ _ _ _ dL_goBack_14 (Nat.le_of_ble_eq_true rfl) (Nat.le_of_ble_eq_true rfl) (Or.inr ⟨by decide, 1, rfl, hx⟩)
    · skip
      refine ⟨15, by decide, Ct2 (k1 := 1) (k2 := 3) htab rfl (by decide) (by decide) (by decide) (X.2.2.2.2 _ kw_3_237) (X.2.2.2.2 _ kw_3_69) hW.2.2.2.1, fun q => ?_⟩
      refine q_astore_n X dL_goBack_15 rfl (Nat.le_of_ble_eq_true rfl) rfl ?_
      refine q_iconst X dL_goBack_16 rfl ?_
      exact hE _ _ _ _ _ _ _ dL_goBack_17 (Nat.le_of_ble_eq_true rfl) (Nat.le_of_ble_eq_true rfl) (Or.inr ⟨by decide, 3, rfl, hx⟩)
  · refine q_i2l X dL_goBack_7 ?_
    refine qW_last X hW hob ax dL_goBack_8 ?_
    refine q_goto X dL_goBack_9 rfl ?_
    refine q_iconst X dL_goBack_18 rfl ?_
    exact hE _ _ _ _ _ _ _ dL_goBack_19 (Nat.le_of_ble_eq_true rfl) (Nat.le_of_ble_eq_true rfl) (Or.inl ⟨rfl, r, rfl, hq⟩)
