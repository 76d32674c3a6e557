theorem dX8_cheapestBehind_0 : decode cX8_cheapestBehind 0 = .ok (.iconst (-1), 1) := by decide +kernel
theorem dX8_cheapestBehind_1 : decode cX8_cheapestBehind 1 = .ok (.istore_n 3, 1) := by decide +kernel
theorem dX8_cheapestBehind_2 : decode cX8_cheapestBehind 2 = .ok (.iconst 0, 1) := by decide +kernel
theorem dX8_cheapestBehind_3 : decode cX8_cheapestBehind 3 = .ok (.istore 4, 2) := by decide +kernel
theorem dX8_cheapestBehind_5 : decode cX8_cheapestBehind 5 = .ok (.iload 4, 2) := by decide +kernel
theorem dX8_cheapestBehind_7 : decode cX8_cheapestBehind 7 = .ok (.aload_n 0, 1) := by decide +kernel
theorem dX8_cheapestBehind_8 : decode cX8_cheapestBehind 8 = .ok (.getfield 62, 3) := by decide +kernel
theorem dX8_cheapestBehind_11 : decode cX8_cheapestBehind 11 = .ok (.if_icmp .ge 56, 3) := by decide +kernel
theorem dX8_cheapestBehind_14 : decode cX8_cheapestBehind 14 = .ok (.aload_n 0, 1) := by decide +kernel
theorem dX8_cheapestBehind_15 : decode cX8_cheapestBehind 15 = .ok (.getfield 20, 3) := by decide +kernel
theorem dX8_cheapestBehind_18 : decode cX8_cheapestBehind 18 = .ok (.iload 4, 2) := by decide +kernel
theorem dX8_cheapestBehind_20 : decode cX8_cheapestBehind 20 = .ok (.aaload, 1) := by decide +kernel
theorem dX8_cheapestBehind_21 : decode cX8_cheapestBehind 21 = .ok (.getfield 113, 3) := by decide +kernel
theorem dX8_cheapestBehind_24 : decode cX8_cheapestBehind 24 = .ok (.iload_n 2, 1) := by decide +kernel
theorem dX8_cheapestBehind_25 : decode cX8_cheapestBehind 25 = .ok (.if_icmp .ne 36, 3) := by decide +kernel
theorem dX8_cheapestBehind_28 : decode cX8_cheapestBehind 28 = .ok (.iload_n 1, 1) := by decide +kernel
theorem dX8_cheapestBehind_29 : decode cX8_cheapestBehind 29 = .ok (.iconst (-1), 1) := by decide +kernel
theorem dX8_cheapestBehind_30 : decode cX8_cheapestBehind 30 = .ok (.if_icmp .eq 13, 3) := by decide +kernel
theorem dX8_cheapestBehind_33 : decode cX8_cheapestBehind 33 = .ok (.aload_n 0, 1) := by decide +kernel
theorem dX8_cheapestBehind_34 : decode cX8_cheapestBehind 34 = .ok (.iload_n 1, 1) := by decide +kernel
theorem dX8_cheapestBehind_35 : decode cX8_cheapestBehind 35 = .ok (.iload 4, 2) := by decide +kernel
theorem dX8_cheapestBehind_37 : decode cX8_cheapestBehind 37 = .ok (.invokevirtual 190, 3) := by decide +kernel
theorem dX8_cheapestBehind_40 : decode cX8_cheapestBehind 40 = .ok (.ifCond .eq 21, 3) := by decide +kernel
theorem dX8_cheapestBehind_43 : decode cX8_cheapestBehind 43 = .ok (.iload_n 3, 1) := by decide +kernel
theorem dX8_cheapestBehind_44 : decode cX8_cheapestBehind 44 = .ok (.iconst (-1), 1) := by decide +kernel
theorem dX8_cheapestBehind_45 : decode cX8_cheapestBehind 45 = .ok (.if_icmp .eq 13, 3) := by decide +kernel
theorem dX8_cheapestBehind_48 : decode cX8_cheapestBehind 48 = .ok (.aload_n 0, 1) := by decide +kernel
theorem dX8_cheapestBehind_49 : decode cX8_cheapestBehind 49 = .ok (.iload 4, 2) := by decide +kernel
theorem dX8_cheapestBehind_51 : decode cX8_cheapestBehind 51 = .ok (.iload_n 3, 1) := by decide +kernel
theorem dX8_cheapestBehind_52 : decode cX8_cheapestBehind 52 = .ok (.invokevirtual 190, 3) := by decide +kernel
theorem dX8_cheapestBehind_55 : decode cX8_cheapestBehind 55 = .ok (.ifCond .eq 6, 3) := by decide +kernel
theorem dX8_cheapestBehind_58 : decode cX8_cheapestBehind 58 = .ok (.iload 4, 2) := by decide +kernel
theorem dX8_cheapestBehind_60 : decode cX8_cheapestBehind 60 = .ok (.istore_n 3, 1) := by decide +kernel
theorem dX8_cheapestBehind_61 : decode cX8_cheapestBehind 61 = .ok (.iinc 4 1, 3) := by decide +kernel
theorem dX8_cheapestBehind_64 : decode cX8_cheapestBehind 64 = .ok (.goto (-59), 3) := by decide +kernel
theorem dX8_cheapestBehind_67 : decode cX8_cheapestBehind 67 = .ok (.iload_n 3, 1) := by decide +kernel
theorem dX8_cheapestBehind_68 : decode cX8_cheapestBehind 68 = .ok (.ireturn, 1) := by decide +kernel
def w_X8_cheapestBehind_J43 (i : Nat) (mm : Mm) (y_1 : Int32) (y_2 : Int32) (K_3 : Int32 → Int32 → Prop) : Prop :=
  ((y_1 = (-1) → ∀ x_11 : Int32, x_11 = y_2 + 1 → (K_3 y_2 x_11)) ∧
  (¬ y_1 = (-1) → w_X8_isCheaper i y_2 y_1 mm (fun (r_12 : Int32) => ((r_12 = 0 → ∀ x_15 : Int32, x_15 = y_2 + 1 → (K_3 y_1 x_15)) ∧
  (¬ r_12 = 0 → ∀ x_16 : Int32, x_16 = y_2 + 1 → (K_3 y_2 x_16))))))
def w_X8_cheapestBehind_B5 (i : Nat) (p0 : Int32) (p1 : Int32) (mm : Mm) (Q9 : Int32 → Prop) (K_3 : Int32 → Int32 → Prop) (y_1 : Int32) (y_2 : Int32) : Prop :=
  (((mm.1 1 i 1) ≤ y_2 → Q9 y_1) ∧
  (¬ (mm.1 1 i 1) ≤ y_2 → vp_in y_2 16 ∧ (ok 3 (mm.2 7 i y_2.toNatClampNeg) ∧ (((¬ (mm.1 3 (mm.2 7 i y_2.toNatClampNeg) 1) = p1 → ∀ x_9 : Int32, x_9 = y_2 + 1 → (K_3 y_1 x_9)) ∧
  ((mm.1 3 (mm.2 7 i y_2.toNatClampNeg) 1) = p1 → ((p0 = (-1) → w_X8_cheapestBehind_J43 i mm y_1 y_2 K_3) ∧
  (¬ p0 = (-1) → w_X8_isCheaper i p0 y_2 mm (fun (r_18 : Int32) => ((r_18 = 0 → ∀ x_21 : Int32, x_21 = y_2 + 1 → (K_3 y_1 x_21)) ∧
  (¬ r_18 = 0 → w_X8_cheapestBehind_J43 i mm y_1 y_2 K_3)))))))))))
def w_X8_cheapestBehind (i : Nat) (p0 : Int32) (p1 : Int32) (mm : Mm) (Q9 : Int32 → Prop) : Prop :=
  ∃ n, itr (α := Int32 × Int32) (fun K a => w_X8_cheapestBehind_B5 i p0 p1 mm Q9 (fun z0 z1 => K (z0, z1)) a.1 a.2) n ((-1), 0)
def rm_X8_cheapestBehind : Room := { frames := 1, cells := 0, slots := 0, locals := 26 }
theorem hy_X8_cheapestBehind : yX8_cheapestBehind.cls = RX8 ∧ yX8_cheapestBehind.cls ≠ "java/lang/invoke/MethodHandle" ∧ yX8_cheapestBehind.cls ≠ "java/lang/invoke/VarHandle" ∧ (parseMethodDescriptor yX8_cheapestBehind.desc).map (fun d => d.parameters.length) = some 2 := by decide +kernel
set_option maxRecDepth 100000 in
set_option maxHeartbeats 4000000 in
theorem c_X8_cheapestBehind {l : Launch} {D : va_G} {cA : Nat → ClassId} {ad : Nat → Nat → Nat} {A : Nat → Prop} (ax : Ax ad GC A) (i : Nat) (hi : ok 1 i) (p0 : Int32) (p1 : Int32) (mm : Mm) (Q9 : Int32 → Prop) (h : w_X8_cheapestBehind i p0 p1 mm Q9) : Met l yX8_cheapestBehind (.code yX8_cheapestBehind cX8_cheapestBehind 5 (some .int) :: TG) rm_X8_cheapestBehind (PcM TT D cA ad false GC (ZC ad A) [.ref (ad 1 i), .int p0, .int p1] mm) (AnsI TT D cA ad false GC A (fun r mm' => Q9 r ∧ mm = mm')) 0 0 A := by
  have zo := ZC_ok ad A
  unfold w_X8_cheapestBehind at h
  refine enterI pl_X8 ⟨rfl, rfl⟩ rfl (Nat.le_of_ble_eq_true rfl) ?_
  intro p e s m args below meth c QQ X hK hZ hnm hE
  refine q_iconst (v := (-1)) X dX8_cheapestBehind_0 (by decide) ?_
  refine q_istore_n (lv' := [(3, .int (-1)), (0, .ref (ad 1 i)), (1, .int p0), (2, .int p1)]) X dX8_cheapestBehind_1 rfl (by decide) rfl ?_
  refine q_iconst (v := 0) X dX8_cheapestBehind_2 (by decide) ?_
  refine q_istore (lv' := [(4, .int 0), (3, .int (-1)), (0, .ref (ad 1 i)), (1, .int p0), (2, .int p1)]) X dX8_cheapestBehind_3 (by decide) rfl ?_
  refine q_sub [2, 3, 4, 1, 0] rfl ?_
  have L5 : ∀ (n : Nat) (y_1 : Int32) (y_2 : Int32), itr (α := Int32 × Int32) (fun K a => w_X8_cheapestBehind_B5 i p0 p1 mm Q9 (fun z0 z1 => K (z0, z1)) a.1 a.2) n (y_1, y_2) → V p l e rm_X8_cheapestBehind s m args below meth c QQ 5 A 0 0 (Rep TT D cA ad false GC mm) 5 [(0, .ref (ad 1 i)), (1, .int p0), (2, .int p1), (3, .int y_1), (4, .int y_2)] [] := by
    intro n
    induction n with
    | zero => intro y_1 y_2 h; exact h.elim
    | succ n ih_4 =>
      intro y_1 y_2 h
      have h : w_X8_cheapestBehind_B5 i p0 p1 mm Q9 (fun z0 z1 => itr (α := Int32 × Int32) (fun K a => w_X8_cheapestBehind_B5 i p0 p1 mm Q9 (fun z0 z1 => K (z0, z1)) a.1 a.2) n (z0, z1)) y_1 y_2 := h
      generalize hKe : (fun z0 z1 => itr (α := Int32 × Int32) (fun K a => w_X8_cheapestBehind_B5 i p0 p1 mm Q9 (fun z0 z1 => K (z0, z1)) a.1 a.2) n (z0, z1)) = K_3 at h
      have ih_4k : ∀ (y_1 : Int32) (y_2 : Int32), K_3 y_1 y_2 → V p l e rm_X8_cheapestBehind s m args below meth c QQ 5 A 0 0 (Rep TT D cA ad false GC mm) 5 [(0, .ref (ad 1 i)), (1, .int p0), (2, .int p1), (3, .int y_1), (4, .int y_2)] [] := fun y_1 y_2 h => ih_4 y_1 y_2 (by rw [← hKe] at h; exact h)
      unfold w_X8_cheapestBehind_B5 at h
      refine q_iload (j := 4) X dX8_cheapestBehind_5 rfl ?_
      refine q_aload_n (j := 0) X dX8_cheapestBehind_7 rfl rfl ?_
      refine q_get (k := 1) (v := .int (mm.1 1 i 1)) X hK rfl rfl (Nat.le_of_ble_eq_true rfl) inTX8 (gc (t := 1) (by decide) hi) kw_1_230 rfl rfl dX8_cheapestBehind_8 ?_
      refine q_icmp_ge (tgt := 67) X dX8_cheapestBehind_11 (by decide) (fun c_5 => ?_) (fun c_5 => ?_)
      · have h := h.1 c_5
        refine q_iload_n (j := 3) X dX8_cheapestBehind_67 rfl rfl ?_
        exact hE _ _ _ _ dX8_cheapestBehind_68 ⟨h, rfl⟩
      · have h := h.2 c_5
        refine q_aload_n (j := 0) X dX8_cheapestBehind_14 rfl rfl ?_
        refine q_get (k := 6) (v := .ref (ad 7 i)) X hK rfl rfl (Nat.le_of_ble_eq_true rfl) inTX8 (gc (t := 1) (by decide) hi) kw_2_2 rfl (rv_nn (a := ad 7) (r := i) hi.1) dX8_cheapestBehind_15 ?_
        refine q_iload (j := 4) X dX8_cheapestBehind_18 rfl ?_
        obtain ⟨b_6, h⟩ := h
        refine q_aald (t := 7) (i := i) (jn := y_2.toNatClampNeg) (v := rv (ad 3) (mm.2 7 i y_2.toNatClampNeg)) X hK rfl rfl (gc (t := 7) (by decide) hi) rfl b_6 rfl rfl dX8_cheapestBehind_20 ?_
        obtain ⟨k_7, h⟩ := h
        rw [rv_nn (a := ad 3) (r := (mm.2 7 i y_2.toNatClampNeg)) k_7.1]
        refine q_getN (k := 1) (v := .int (mm.1 3 (mm.2 7 i y_2.toNatClampNeg) 1)) X hK rfl rfl (Nat.le_of_ble_eq_true rfl) inTX2 (gc (t := 3) (by decide) k_7) (List.mem_of_getElem? (i := 16) rfl) rfl rfl dX8_cheapestBehind_21 ?_
        refine q_iload_n (j := 2) X dX8_cheapestBehind_24 rfl rfl ?_
        refine q_icmp_ne (tgt := 61) X dX8_cheapestBehind_25 (by decide) (fun c_8 => ?_) (fun c_8 => ?_)
        · have h := h.1 c_8
          obtain ⟨x_9, ex_9⟩ : ∃ z : Int32, z = y_2 + 1 := ⟨_, rfl⟩
          have h := h x_9 ex_9
          refine q_iinc (j := 4) (v := x_9) (lv' := [(4, .int x_9), (0, .ref (ad 1 i)), (1, .int p0), (2, .int p1), (3, .int y_1)]) X dX8_cheapestBehind_61 rfl (by rw [ex_9]; rfl) (by decide) rfl ?_
          refine q_goto (tgt := 5) X dX8_cheapestBehind_64 (by decide) ?_
          refine q_sub [1, 2, 3, 4, 0] rfl ?_
          exact ih_4k y_1 x_9 h
        · have h := h.2 c_8
          refine q_iload_n (j := 1) X dX8_cheapestBehind_28 rfl rfl ?_
          refine q_iconst (v := (-1)) X dX8_cheapestBehind_29 (by decide) ?_
          have J43 : w_X8_cheapestBehind_J43 i mm y_1 y_2 K_3  → V p l e rm_X8_cheapestBehind s m args below meth c QQ 5 A 0 0 (Rep TT D cA ad false GC mm) 43 [(0, .ref (ad 1 i)), (1, .int p0), (2, .int p1), (3, .int y_1), (4, .int y_2)] [] := by
            intro  h
            unfold w_X8_cheapestBehind_J43 at h
            refine q_iload_n (j := 3) X dX8_cheapestBehind_43 rfl rfl ?_
            refine q_iconst (v := (-1)) X dX8_cheapestBehind_44 (by decide) ?_
            refine q_icmp_eq (tgt := 58) X dX8_cheapestBehind_45 (by decide) (fun c_10 => ?_) (fun c_10 => ?_)
            · have h := h.1 c_10
              refine q_iload (j := 4) X dX8_cheapestBehind_58 rfl ?_
              refine q_istore_n (lv' := [(3, .int y_2), (0, .ref (ad 1 i)), (1, .int p0), (2, .int p1), (4, .int y_2)]) X dX8_cheapestBehind_60 rfl (by decide) rfl ?_
              obtain ⟨x_11, ex_11⟩ : ∃ z : Int32, z = y_2 + 1 := ⟨_, rfl⟩
              have h := h x_11 ex_11
              refine q_iinc (j := 4) (v := x_11) (lv' := [(4, .int x_11), (3, .int y_2), (0, .ref (ad 1 i)), (1, .int p0), (2, .int p1)]) X dX8_cheapestBehind_61 rfl (by rw [ex_11]; rfl) (by decide) rfl ?_
              refine q_goto (tgt := 5) X dX8_cheapestBehind_64 (by decide) ?_
              refine q_sub [2, 3, 4, 1, 0] rfl ?_
              exact ih_4k y_2 x_11 h
            · have h := h.2 c_10
              refine q_aload_n (j := 0) X dX8_cheapestBehind_48 rfl rfl ?_
              refine q_iload (j := 4) X dX8_cheapestBehind_49 rfl ?_
              refine q_iload_n (j := 3) X dX8_cheapestBehind_51 rfl rfl ?_
              refine q_calli (q_runV X hK hZ zo (gc (t := 1) (by decide) hi) rfl rfl [.int y_2, .int y_1] [] rfl rfl (Nat.le_of_ble_eq_true rfl) dX8_cheapestBehind_52 ⟨Nat.le_of_ble_eq_true rfl, Nat.le_of_ble_eq_true rfl⟩ (c_X8_isCheaper ax i hi y_2 y_1 mm _ h) rfl rfl (gV kw_5_209 kw_5_211 ks_66 kw_1_2 kw_5_212) hy_X8_isCheaper ⟨Nat.le_of_ble_eq_true rfl, Nat.le_of_ble_eq_true rfl⟩) (fun r_12 m_13 h => ?_)
              obtain ⟨h, hm⟩ := h
              subst hm
              refine q_if_eq (tgt := 61) X dX8_cheapestBehind_55 (by decide) (fun c_14 => ?_) (fun c_14 => ?_)
              · have h := h.1 c_14
                obtain ⟨x_15, ex_15⟩ : ∃ z : Int32, z = y_2 + 1 := ⟨_, rfl⟩
                have h := h x_15 ex_15
                refine q_iinc (j := 4) (v := x_15) (lv' := [(4, .int x_15), (0, .ref (ad 1 i)), (1, .int p0), (2, .int p1), (3, .int y_1)]) X dX8_cheapestBehind_61 rfl (by rw [ex_15]; rfl) (by decide) rfl ?_
                refine q_goto (tgt := 5) X dX8_cheapestBehind_64 (by decide) ?_
                refine q_sub [1, 2, 3, 4, 0] rfl ?_
                exact ih_4k y_1 x_15 h
              · have h := h.2 c_14
                refine q_iload (j := 4) X dX8_cheapestBehind_58 rfl ?_
                refine q_istore_n (lv' := [(3, .int y_2), (0, .ref (ad 1 i)), (1, .int p0), (2, .int p1), (4, .int y_2)]) X dX8_cheapestBehind_60 rfl (by decide) rfl ?_
                obtain ⟨x_16, ex_16⟩ : ∃ z : Int32, z = y_2 + 1 := ⟨_, rfl⟩
                have h := h x_16 ex_16
                refine q_iinc (j := 4) (v := x_16) (lv' := [(4, .int x_16), (3, .int y_2), (0, .ref (ad 1 i)), (1, .int p0), (2, .int p1)]) X dX8_cheapestBehind_61 rfl (by rw [ex_16]; rfl) (by decide) rfl ?_
                refine q_goto (tgt := 5) X dX8_cheapestBehind_64 (by decide) ?_
                refine q_sub [2, 3, 4, 1, 0] rfl ?_
                exact ih_4k y_2 x_16 h
          refine q_icmp_eq (tgt := 43) X dX8_cheapestBehind_30 (by decide) (fun c_17 => ?_) (fun c_17 => ?_)
          · have h := h.1 c_17
            refine q_sub [0, 1, 2, 3, 4] rfl ?_
            exact J43  h
          · have h := h.2 c_17
            refine q_aload_n (j := 0) X dX8_cheapestBehind_33 rfl rfl ?_
            refine q_iload_n (j := 1) X dX8_cheapestBehind_34 rfl rfl ?_
            refine q_iload (j := 4) X dX8_cheapestBehind_35 rfl ?_
            refine q_calli (q_runV X hK hZ zo (gc (t := 1) (by decide) hi) rfl rfl [.int p0, .int y_2] [] rfl rfl (Nat.le_of_ble_eq_true rfl) dX8_cheapestBehind_37 ⟨Nat.le_of_ble_eq_true rfl, Nat.le_of_ble_eq_true rfl⟩ (c_X8_isCheaper ax i hi p0 y_2 mm _ h) rfl rfl (gV kw_5_209 kw_5_211 ks_66 kw_1_2 kw_5_212) hy_X8_isCheaper ⟨Nat.le_of_ble_eq_true rfl, Nat.le_of_ble_eq_true rfl⟩) (fun r_18 m_19 h => ?_)
            obtain ⟨h, hm⟩ := h
            subst hm
            refine q_if_eq (tgt := 61) X dX8_cheapestBehind_40 (by decide) (fun c_20 => ?_) (fun c_20 => ?_)
            · have h := h.1 c_20
              obtain ⟨x_21, ex_21⟩ : ∃ z : Int32, z = y_2 + 1 := ⟨_, rfl⟩
              have h := h x_21 ex_21
              refine q_iinc (j := 4) (v := x_21) (lv' := [(4, .int x_21), (0, .ref (ad 1 i)), (1, .int p0), (2, .int p1), (3, .int y_1)]) X dX8_cheapestBehind_61 rfl (by rw [ex_21]; rfl) (by decide) rfl ?_
              refine q_goto (tgt := 5) X dX8_cheapestBehind_64 (by decide) ?_
              refine q_sub [1, 2, 3, 4, 0] rfl ?_
              exact ih_4k y_1 x_21 h
            · have h := h.2 c_20
              refine q_sub [0, 1, 2, 3, 4] rfl ?_
              exact J43  h
  obtain ⟨n_22, h⟩ := h
  exact L5 n_22 (-1) 0 h
theorem dX8_dutyOfCheapest_0 : decode cX8_dutyOfCheapest 0 = .ok (.aload_n 0, 1) := by decide +kernel
theorem dX8_dutyOfCheapest_1 : decode cX8_dutyOfCheapest 1 = .ok (.iload_n 1, 1) := by decide +kernel
theorem dX8_dutyOfCheapest_2 : decode cX8_dutyOfCheapest 2 = .ok (.invokevirtual 194, 3) := by decide +kernel
theorem dX8_dutyOfCheapest_5 : decode cX8_dutyOfCheapest 5 = .ok (.iload_n 2, 1) := by decide +kernel
theorem dX8_dutyOfCheapest_6 : decode cX8_dutyOfCheapest 6 = .ok (.if_icmp .ge 5, 3) := by decide +kernel
theorem dX8_dutyOfCheapest_9 : decode cX8_dutyOfCheapest 9 = .ok (.iconst (-1), 1) := by decide +kernel
theorem dX8_dutyOfCheapest_10 : decode cX8_dutyOfCheapest 10 = .ok (.ireturn, 1) := by decide +kernel
theorem dX8_dutyOfCheapest_11 : decode cX8_dutyOfCheapest 11 = .ok (.aload_n 0, 1) := by decide +kernel
theorem dX8_dutyOfCheapest_12 : decode cX8_dutyOfCheapest 12 = .ok (.invokevirtual 187, 3) := by decide +kernel
theorem dX8_dutyOfCheapest_15 : decode cX8_dutyOfCheapest 15 = .ok (.iconst 0, 1) := by decide +kernel
theorem dX8_dutyOfCheapest_16 : decode cX8_dutyOfCheapest 16 = .ok (.istore_n 3, 1) := by decide +kernel
theorem dX8_dutyOfCheapest_17 : decode cX8_dutyOfCheapest 17 = .ok (.iload_n 2, 1) := by decide +kernel
theorem dX8_dutyOfCheapest_18 : decode cX8_dutyOfCheapest 18 = .ok (.istore 4, 2) := by decide +kernel
theorem dX8_dutyOfCheapest_20 : decode cX8_dutyOfCheapest 20 = .ok (.aload_n 0, 1) := by decide +kernel
theorem dX8_dutyOfCheapest_21 : decode cX8_dutyOfCheapest 21 = .ok (.iconst (-1), 1) := by decide +kernel
theorem dX8_dutyOfCheapest_22 : decode cX8_dutyOfCheapest 22 = .ok (.iload_n 1, 1) := by decide +kernel
theorem dX8_dutyOfCheapest_23 : decode cX8_dutyOfCheapest 23 = .ok (.invokevirtual 197, 3) := by decide +kernel
theorem dX8_dutyOfCheapest_26 : decode cX8_dutyOfCheapest 26 = .ok (.istore 5, 2) := by decide +kernel
theorem dX8_dutyOfCheapest_28 : decode cX8_dutyOfCheapest 28 = .ok (.iconst 0, 1) := by decide +kernel
theorem dX8_dutyOfCheapest_29 : decode cX8_dutyOfCheapest 29 = .ok (.istore 6, 2) := by decide +kernel
theorem dX8_dutyOfCheapest_31 : decode cX8_dutyOfCheapest 31 = .ok (.iload 6, 2) := by decide +kernel
theorem dX8_dutyOfCheapest_33 : decode cX8_dutyOfCheapest 33 = .ok (.aload_n 0, 1) := by decide +kernel
theorem dX8_dutyOfCheapest_34 : decode cX8_dutyOfCheapest 34 = .ok (.getfield 62, 3) := by decide +kernel
theorem dX8_dutyOfCheapest_37 : decode cX8_dutyOfCheapest 37 = .ok (.if_icmp .ge 69, 3) := by decide +kernel
theorem dX8_dutyOfCheapest_40 : decode cX8_dutyOfCheapest 40 = .ok (.iload 4, 2) := by decide +kernel
theorem dX8_dutyOfCheapest_42 : decode cX8_dutyOfCheapest 42 = .ok (.ifCond .le 64, 3) := by decide +kernel
theorem dX8_dutyOfCheapest_45 : decode cX8_dutyOfCheapest 45 = .ok (.iload 5, 2) := by decide +kernel
theorem dX8_dutyOfCheapest_47 : decode cX8_dutyOfCheapest 47 = .ok (.iconst (-1), 1) := by decide +kernel
theorem dX8_dutyOfCheapest_48 : decode cX8_dutyOfCheapest 48 = .ok (.if_icmp .eq 58, 3) := by decide +kernel
theorem dX8_dutyOfCheapest_51 : decode cX8_dutyOfCheapest 51 = .ok (.iload 4, 2) := by decide +kernel
theorem dX8_dutyOfCheapest_53 : decode cX8_dutyOfCheapest 53 = .ok (.aload_n 0, 1) := by decide +kernel
theorem dX8_dutyOfCheapest_54 : decode cX8_dutyOfCheapest 54 = .ok (.getfield 20, 3) := by decide +kernel
theorem dX8_dutyOfCheapest_57 : decode cX8_dutyOfCheapest 57 = .ok (.iload 5, 2) := by decide +kernel
theorem dX8_dutyOfCheapest_59 : decode cX8_dutyOfCheapest 59 = .ok (.aaload, 1) := by decide +kernel
theorem dX8_dutyOfCheapest_60 : decode cX8_dutyOfCheapest 60 = .ok (.getfield 97, 3) := by decide +kernel
theorem dX8_dutyOfCheapest_63 : decode cX8_dutyOfCheapest 63 = .ok (.invokestatic 100, 3) := by decide +kernel
theorem dX8_dutyOfCheapest_66 : decode cX8_dutyOfCheapest 66 = .ok (.istore 7, 2) := by decide +kernel
theorem dX8_dutyOfCheapest_68 : decode cX8_dutyOfCheapest 68 = .ok (.iload_n 3, 1) := by decide +kernel
theorem dX8_dutyOfCheapest_69 : decode cX8_dutyOfCheapest 69 = .ok (.aload_n 0, 1) := by decide +kernel
theorem dX8_dutyOfCheapest_70 : decode cX8_dutyOfCheapest 70 = .ok (.aload_n 0, 1) := by decide +kernel
theorem dX8_dutyOfCheapest_71 : decode cX8_dutyOfCheapest 71 = .ok (.getfield 20, 3) := by decide +kernel
theorem dX8_dutyOfCheapest_74 : decode cX8_dutyOfCheapest 74 = .ok (.iload 5, 2) := by decide +kernel
theorem dX8_dutyOfCheapest_76 : decode cX8_dutyOfCheapest 76 = .ok (.aaload, 1) := by decide +kernel
theorem dX8_dutyOfCheapest_77 : decode cX8_dutyOfCheapest 77 = .ok (.iload 7, 2) := by decide +kernel
theorem dX8_dutyOfCheapest_79 : decode cX8_dutyOfCheapest 79 = .ok (.invokevirtual 143, 3) := by decide +kernel
theorem dX8_dutyOfCheapest_82 : decode cX8_dutyOfCheapest 82 = .ok (.iadd, 1) := by decide +kernel
theorem dX8_dutyOfCheapest_83 : decode cX8_dutyOfCheapest 83 = .ok (.istore_n 3, 1) := by decide +kernel
theorem dX8_dutyOfCheapest_84 : decode cX8_dutyOfCheapest 84 = .ok (.iload 4, 2) := by decide +kernel
theorem dX8_dutyOfCheapest_86 : decode cX8_dutyOfCheapest 86 = .ok (.iload 7, 2) := by decide +kernel
theorem dX8_dutyOfCheapest_88 : decode cX8_dutyOfCheapest 88 = .ok (.isub, 1) := by decide +kernel
theorem dX8_dutyOfCheapest_89 : decode cX8_dutyOfCheapest 89 = .ok (.istore 4, 2) := by decide +kernel
theorem dX8_dutyOfCheapest_91 : decode cX8_dutyOfCheapest 91 = .ok (.aload_n 0, 1) := by decide +kernel
theorem dX8_dutyOfCheapest_92 : decode cX8_dutyOfCheapest 92 = .ok (.iload 5, 2) := by decide +kernel
theorem dX8_dutyOfCheapest_94 : decode cX8_dutyOfCheapest 94 = .ok (.iload_n 1, 1) := by decide +kernel
theorem dX8_dutyOfCheapest_95 : decode cX8_dutyOfCheapest 95 = .ok (.invokevirtual 197, 3) := by decide +kernel
theorem dX8_dutyOfCheapest_98 : decode cX8_dutyOfCheapest 98 = .ok (.istore 5, 2) := by decide +kernel
theorem dX8_dutyOfCheapest_100 : decode cX8_dutyOfCheapest 100 = .ok (.iinc 6 1, 3) := by decide +kernel
theorem dX8_dutyOfCheapest_103 : decode cX8_dutyOfCheapest 103 = .ok (.goto (-72), 3) := by decide +kernel
theorem dX8_dutyOfCheapest_106 : decode cX8_dutyOfCheapest 106 = .ok (.iload_n 3, 1) := by decide +kernel
theorem dX8_dutyOfCheapest_107 : decode cX8_dutyOfCheapest 107 = .ok (.ireturn, 1) := by decide +kernel
def w_X8_dutyOfCheapest_B31 (i : Nat) (p0 : Int32) (Q9 : Int32 → Mm → Prop) (m_5 : Mm) (K_12 : Int32 → Int32 → Int32 → Int32 → Prop) (y_8 : Int32) (y_9 : Int32) (y_10 : Int32) (y_11 : Int32) : Prop :=
  (((m_5.1 1 i 1) ≤ y_11 → Q9 y_8 m_5) ∧
  (¬ (m_5.1 1 i 1) ≤ y_11 → ((y_9 ≤ 0 → Q9 y_8 m_5) ∧
  (¬ y_9 ≤ 0 → ((y_10 = (-1) → Q9 y_8 m_5) ∧
  (¬ y_10 = (-1) → vp_in y_10 16 ∧ (ok 3 (m_5.2 7 i y_10.toNatClampNeg) ∧ (∀ x_19 : Int32, x_19 = (if (m_5.1 3 (m_5.2 7 i y_10.toNatClampNeg) 2) < y_9 then (m_5.1 3 (m_5.2 7 i y_10.toNatClampNeg) 2) else y_9) → (w_X8_dutyNow i (m_5.2 7 i y_10.toNatClampNeg) x_19 m_5 (fun (r_20 : Int32) => ∀ x_22 : Int32, x_22 = (y_8 + r_20) → (∀ x_23 : Int32, x_23 = (y_9 - x_19) → (w_X8_cheapestBehind i y_10 p0 m_5 (fun (r_24 : Int32) => ∀ x_26 : Int32, x_26 = y_11 + 1 → (K_12 x_22 x_23 r_24 x_26))))))))))))))
def w_X8_dutyOfCheapest (i : Nat) (p0 : Int32) (p1 : Int32) (mm : Mm) (Q9 : Int32 → Mm → Prop) : Prop :=
  w_X8_stockOf i p0 mm (fun (r_1 : Int32) => ((p1 ≤ r_1 → w_X8_tellDuties i mm (fun (m_5 : Mm) => w_X8_cheapestBehind i (-1) p0 m_5 (fun (r_6 : Int32) => ∃ n, itr (α := Int32 × Int32 × Int32 × Int32) (fun K a => w_X8_dutyOfCheapest_B31 i p0 Q9 m_5 (fun z0 z1 z2 z3 => K (z0, z1, z2, z3)) a.1 a.2.1 a.2.2.1 a.2.2.2) n (0, p1, r_6, 0)))) ∧
  (¬ p1 ≤ r_1 → Q9 (-1) mm)))
def rm_X8_dutyOfCheapest : Room := { frames := 3, cells := 0, slots := 0, locals := 67 }
theorem hy_X8_dutyOfCheapest : yX8_dutyOfCheapest.cls = RX8 ∧ yX8_dutyOfCheapest.cls ≠ "java/lang/invoke/MethodHandle" ∧ yX8_dutyOfCheapest.cls ≠ "java/lang/invoke/VarHandle" ∧ (parseMethodDescriptor yX8_dutyOfCheapest.desc).map (fun d => d.parameters.length) = some 2 := by decide +kernel
set_option maxRecDepth 100000 in
set_option maxHeartbeats 4000000 in
theorem c_X8_dutyOfCheapest {l : Launch} {D : va_G} {cA : Nat → ClassId} {ad : Nat → Nat → Nat} {A : Nat → Prop} (ax : Ax ad GC A) (i : Nat) (hi : ok 1 i) (p0 : Int32) (p1 : Int32) (mm : Mm) (Q9 : Int32 → Mm → Prop) (h : w_X8_dutyOfCheapest i p0 p1 mm Q9) : Met l yX8_dutyOfCheapest (.code yX8_dutyOfCheapest cX8_dutyOfCheapest 8 (some .int) :: TG) rm_X8_dutyOfCheapest (PcM TT D cA ad false GC (ZC ad A) [.ref (ad 1 i), .int p0, .int p1] mm) (AnsI TT D cA ad false GC A Q9) 0 0 A := by
  have zo := ZC_ok ad A
  unfold w_X8_dutyOfCheapest at h
  refine enterI pl_X8 ⟨rfl, rfl⟩ rfl (Nat.le_of_ble_eq_true rfl) ?_
  intro p e s m args below meth c QQ X hK hZ hnm hE
  refine q_aload_n (j := 0) X dX8_dutyOfCheapest_0 rfl rfl ?_
  refine q_iload_n (j := 1) X dX8_dutyOfCheapest_1 rfl rfl ?_
  refine q_calli (q_runV X hK hZ zo (gc (t := 1) (by decide) hi) rfl rfl [.int p0] [] rfl rfl (Nat.le_of_ble_eq_true rfl) dX8_dutyOfCheapest_2 ⟨Nat.le_of_ble_eq_true rfl, Nat.le_of_ble_eq_true rfl⟩ (c_X8_stockOf ax i hi p0 mm _ h) rfl rfl (gV kw_5_228 kw_5_120 ks_63 kw_1_2 kw_5_121) hy_X8_stockOf ⟨Nat.le_of_ble_eq_true rfl, Nat.le_of_ble_eq_true rfl⟩) (fun r_1 m_2 h => ?_)
  obtain ⟨h, hm⟩ := h
  subst hm
  refine q_iload_n (j := 2) X dX8_dutyOfCheapest_5 rfl rfl ?_
  refine q_icmp_ge (tgt := 11) X dX8_dutyOfCheapest_6 (by decide) (fun c_3 => ?_) (fun c_3 => ?_)
  · have h := h.1 c_3
    refine q_aload_n (j := 0) X dX8_dutyOfCheapest_11 rfl rfl ?_
    refine q_callv (q_runV X hK hZ zo (gc (t := 1) (by decide) hi) rfl rfl [] [] rfl rfl (Nat.le_of_ble_eq_true rfl) dX8_dutyOfCheapest_12 ⟨Nat.le_of_ble_eq_true rfl, Nat.le_of_ble_eq_true rfl⟩ (c_X8_tellDuties ax i hi mm _ h) rfl rfl (gV kw_5_229 kw_5_203 ks_64 kw_1_2 kw_5_204) hy_X8_tellDuties ⟨Nat.le_of_ble_eq_true rfl, Nat.le_of_ble_eq_true rfl⟩) (fun m_5 h => ?_)
    refine q_iconst (v := 0) X dX8_dutyOfCheapest_15 (by decide) ?_
    refine q_istore_n (lv' := [(3, .int 0), (0, .ref (ad 1 i)), (1, .int p0), (2, .int p1)]) X dX8_dutyOfCheapest_16 rfl (by decide) rfl ?_
    refine q_iload_n (j := 3) X dX8_dutyOfCheapest_17 rfl rfl ?_
    refine q_istore (lv' := [(4, .int p1), (3, .int 0), (0, .ref (ad 1 i)), (1, .int p0), (2, .int p1)]) X dX8_dutyOfCheapest_18 (by decide) rfl ?_
    refine q_aload_n (j := 2) X dX8_dutyOfCheapest_20 rfl rfl ?_
    refine q_iconst (v := (-1)) X dX8_dutyOfCheapest_21 (by decide) ?_
    refine q_iload_n (j := 3) X dX8_dutyOfCheapest_22 rfl rfl ?_
    refine q_calli (q_runV X hK hZ zo (gc (t := 1) (by decide) hi) rfl rfl [.int (-1), .int p0] [] rfl rfl (Nat.le_of_ble_eq_true rfl) dX8_dutyOfCheapest_23 ⟨Nat.le_of_ble_eq_true rfl, Nat.le_of_ble_eq_true rfl⟩ (c_X8_cheapestBehind ax i hi (-1) p0 m_5 _ h) rfl rfl (gV kw_5_230 kw_5_207 ks_65 kw_1_2 kw_5_208) hy_X8_cheapestBehind ⟨Nat.le_of_ble_eq_true rfl, Nat.le_of_ble_eq_true rfl⟩) (fun r_6 m_7 h => ?_)
    obtain ⟨h, hm⟩ := h
    subst hm
    refine q_istore (lv' := [(5, .int r_6), (4, .int p1), (3, .int 0), (0, .ref (ad 1 i)), (1, .int p0), (2, .int p1)]) X dX8_dutyOfCheapest_26 (by decide) rfl ?_
    refine q_iconst (v := 0) X dX8_dutyOfCheapest_28 (by decide) ?_
    refine q_istore (lv' := [(6, .int 0), (5, .int r_6), (4, .int p1), (3, .int 0), (0, .ref (ad 1 i)), (1, .int p0), (2, .int p1)]) X dX8_dutyOfCheapest_29 (by decide) rfl ?_
    refine q_sub [4, 5, 3, 2, 1, 0] rfl ?_
    have L31 : ∀ (n : Nat) (y_8 : Int32) (y_9 : Int32) (y_10 : Int32) (y_11 : Int32), itr (α := Int32 × Int32 × Int32 × Int32) (fun K a => w_X8_dutyOfCheapest_B31 i p0 Q9 m_5 (fun z0 z1 z2 z3 => K (z0, z1, z2, z3)) a.1 a.2.1 a.2.2.1 a.2.2.2) n (y_8, y_9, y_10, y_11) → V p l e rm_X8_dutyOfCheapest s m args below meth c QQ 8 A 0 0 (Rep TT D cA ad false GC m_5) 31 [(0, .ref (ad 1 i)), (1, .int p0), (3, .int y_8), (4, .int y_9), (5, .int y_10), (6, .int y_11)] [] := by
      intro n
      induction n with
      | zero => intro y_8 y_9 y_10 y_11 h; exact h.elim
      | succ n ih_13 =>
        intro y_8 y_9 y_10 y_11 h
        have h : w_X8_dutyOfCheapest_B31 i p0 Q9 m_5 (fun z0 z1 z2 z3 => itr (α := Int32 × Int32 × Int32 × Int32) (fun K a => w_X8_dutyOfCheapest_B31 i p0 Q9 m_5 (fun z0 z1 z2 z3 => K (z0, z1, z2, z3)) a.1 a.2.1 a.2.2.1 a.2.2.2) n (z0, z1, z2, z3)) y_8 y_9 y_10 y_11 := h
        unfold w_X8_dutyOfCheapest_B31 at h
        refine q_iload (j := 5) X dX8_dutyOfCheapest_31 rfl ?_
        refine q_aload_n (j := 0) X dX8_dutyOfCheapest_33 rfl rfl ?_
        refine q_get (k := 1) (v := .int (m_5.1 1 i 1)) X hK rfl rfl (Nat.le_of_ble_eq_true rfl) inTX8 (gc (t := 1) (by decide) hi) kw_1_230 rfl rfl dX8_dutyOfCheapest_34 ?_
        refine q_icmp_ge (tgt := 106) X dX8_dutyOfCheapest_37 (by decide) (fun c_14 => ?_) (fun c_14 => ?_)
        · have h := h.1 c_14
          refine q_iload_n (j := 2) X dX8_dutyOfCheapest_106 rfl rfl ?_
          exact hE _ _ _ _ dX8_dutyOfCheapest_107 h
        · have h := h.2 c_14
          refine q_iload (j := 3) X dX8_dutyOfCheapest_40 rfl ?_
          refine q_if_le (tgt := 106) X dX8_dutyOfCheapest_42 (by decide) (fun c_15 => ?_) (fun c_15 => ?_)
          · have h := h.1 c_15
            refine q_iload_n (j := 2) X dX8_dutyOfCheapest_106 rfl rfl ?_
            exact hE _ _ _ _ dX8_dutyOfCheapest_107 h
          · have h := h.2 c_15
            refine q_iload (j := 4) X dX8_dutyOfCheapest_45 rfl ?_
            refine q_iconst (v := (-1)) X dX8_dutyOfCheapest_47 (by decide) ?_
            refine q_icmp_eq (tgt := 106) X dX8_dutyOfCheapest_48 (by decide) (fun c_16 => ?_) (fun c_16 => ?_)
            · have h := h.1 c_16
              refine q_iload_n (j := 2) X dX8_dutyOfCheapest_106 rfl rfl ?_
              exact hE _ _ _ _ dX8_dutyOfCheapest_107 h
            · have h := h.2 c_16
              refine q_iload (j := 3) X dX8_dutyOfCheapest_51 rfl ?_
              refine q_aload_n (j := 0) X dX8_dutyOfCheapest_53 rfl rfl ?_
              refine q_get (k := 6) (v := .ref (ad 7 i)) X hK rfl rfl (Nat.le_of_ble_eq_true rfl) inTX8 (gc (t := 1) (by decide) hi) kw_2_2 rfl (rv_nn (a := ad 7) (r := i) hi.1) dX8_dutyOfCheapest_54 ?_
              refine q_iload (j := 4) X dX8_dutyOfCheapest_57 rfl ?_
              obtain ⟨b_17, h⟩ := h
              refine q_aald (t := 7) (i := i) (jn := y_10.toNatClampNeg) (v := rv (ad 3) (m_5.2 7 i y_10.toNatClampNeg)) X hK rfl rfl (gc (t := 7) (by decide) hi) rfl b_17 rfl rfl dX8_dutyOfCheapest_59 ?_
              obtain ⟨k_18, h⟩ := h
              rw [rv_nn (a := ad 3) (r := (m_5.2 7 i y_10.toNatClampNeg)) k_18.1]
              refine q_getN (k := 2) (v := .int (m_5.1 3 (m_5.2 7 i y_10.toNatClampNeg) 2)) X hK rfl rfl (Nat.le_of_ble_eq_true rfl) inTX2 (gc (t := 3) (by decide) k_18) (List.mem_of_getElem? (i := 19) rfl) rfl rfl dX8_dutyOfCheapest_60 ?_
              refine q_min X kw_3_133 kw_3_134 kw_1_11 kw_3_135 (Nat.le_of_ble_eq_true rfl) (Nat.le_of_ble_eq_true rfl) ⟨Nat.le_of_ble_eq_true rfl, Nat.le_of_ble_eq_true rfl⟩ dX8_dutyOfCheapest_63 ?_
              refine q_topi (fun x_19 ex_19 => ?_)
              have h := h x_19 ex_19
              refine q_istore (lv' := [(7, .int x_19), (0, .ref (ad 1 i)), (1, .int p0), (3, .int y_8), (4, .int y_9), (5, .int y_10), (6, .int y_11)]) X dX8_dutyOfCheapest_66 (by decide) rfl ?_
              refine q_iload_n (j := 3) X dX8_dutyOfCheapest_68 rfl rfl ?_
              refine q_aload_n (j := 1) X dX8_dutyOfCheapest_69 rfl rfl ?_
              refine q_aload_n (j := 1) X dX8_dutyOfCheapest_70 rfl rfl ?_
              refine q_get (k := 6) (v := .ref (ad 7 i)) X hK rfl rfl (Nat.le_of_ble_eq_true rfl) inTX8 (gc (t := 1) (by decide) hi) kw_2_2 rfl (rv_nn (a := ad 7) (r := i) hi.1) dX8_dutyOfCheapest_71 ?_
              refine q_iload (j := 5) X dX8_dutyOfCheapest_74 rfl ?_
              refine q_aald (t := 7) (i := i) (jn := y_10.toNatClampNeg) (v := rv (ad 3) (m_5.2 7 i y_10.toNatClampNeg)) X hK rfl rfl (gc (t := 7) (by decide) hi) rfl b_17 rfl rfl dX8_dutyOfCheapest_76 ?_
              refine q_iload (j := 0) X dX8_dutyOfCheapest_77 rfl ?_
              rw [rv_nn (a := ad 3) (r := (m_5.2 7 i y_10.toNatClampNeg)) k_18.1]
              refine q_calli (q_runV X hK hZ zo (gc (t := 1) (by decide) hi) rfl rfl [.ref (ad 3 (m_5.2 7 i y_10.toNatClampNeg)), .int x_19] [.int y_8] rfl rfl (Nat.le_of_ble_eq_true rfl) dX8_dutyOfCheapest_79 ⟨Nat.le_of_ble_eq_true rfl, Nat.le_of_ble_eq_true rfl⟩ (c_X8_dutyNow ax i hi (m_5.2 7 i y_10.toNatClampNeg) k_18 x_19 m_5 _ h) rfl rfl (gV kw_3_116 kw_3_118 ks_22 kw_1_2 kw_3_119) hy_X8_dutyNow ⟨Nat.le_of_ble_eq_true rfl, Nat.le_of_ble_eq_true rfl⟩) (fun r_20 m_21 h => ?_)
              obtain ⟨h, hm⟩ := h
              subst hm
              refine q_iadd X dX8_dutyOfCheapest_82 ?_
              refine q_topi (fun x_22 ex_22 => ?_)
              have h := h x_22 ex_22
              refine q_istore_n (lv' := [(3, .int x_22), (7, .int x_19), (0, .ref (ad 1 i)), (1, .int p0), (4, .int y_9), (5, .int y_10), (6, .int y_11)]) X dX8_dutyOfCheapest_83 rfl (by decide) rfl ?_
              refine q_iload (j := 4) X dX8_dutyOfCheapest_84 rfl ?_
              refine q_iload (j := 1) X dX8_dutyOfCheapest_86 rfl ?_
              refine q_isub X dX8_dutyOfCheapest_88 ?_
              refine q_topi (fun x_23 ex_23 => ?_)
              have h := h x_23 ex_23
              refine q_istore (lv' := [(4, .int x_23), (3, .int x_22), (7, .int x_19), (0, .ref (ad 1 i)), (1, .int p0), (5, .int y_10), (6, .int y_11)]) X dX8_dutyOfCheapest_89 (by decide) rfl ?_
              refine q_aload_n (j := 3) X dX8_dutyOfCheapest_91 rfl rfl ?_
              refine q_iload (j := 5) X dX8_dutyOfCheapest_92 rfl ?_
              refine q_iload_n (j := 4) X dX8_dutyOfCheapest_94 rfl rfl ?_
              refine q_calli (q_runV X hK hZ zo (gc (t := 1) (by decide) hi) rfl rfl [.int y_10, .int p0] [] rfl rfl (Nat.le_of_ble_eq_true rfl) dX8_dutyOfCheapest_95 ⟨Nat.le_of_ble_eq_true rfl, Nat.le_of_ble_eq_true rfl⟩ (c_X8_cheapestBehind ax i hi y_10 p0 m_5 _ h) rfl rfl (gV kw_5_230 kw_5_207 ks_65 kw_1_2 kw_5_208) hy_X8_cheapestBehind ⟨Nat.le_of_ble_eq_true rfl, Nat.le_of_ble_eq_true rfl⟩) (fun r_24 m_25 h => ?_)
              obtain ⟨h, hm⟩ := h
              subst hm
              refine q_istore (lv' := [(5, .int r_24), (4, .int x_23), (3, .int x_22), (7, .int x_19), (0, .ref (ad 1 i)), (1, .int p0), (6, .int y_11)]) X dX8_dutyOfCheapest_98 (by decide) rfl ?_
              obtain ⟨x_26, ex_26⟩ : ∃ z : Int32, z = y_11 + 1 := ⟨_, rfl⟩
              have h := h x_26 ex_26
              refine q_iinc (j := 6) (v := x_26) (lv' := [(6, .int x_26), (5, .int r_24), (4, .int x_23), (3, .int x_22), (7, .int x_19), (0, .ref (ad 1 i)), (1, .int p0)]) X dX8_dutyOfCheapest_100 rfl (by rw [ex_26]; rfl) (by decide) rfl ?_
              refine q_goto (tgt := 31) X dX8_dutyOfCheapest_103 (by decide) ?_
              refine q_sub [5, 6, 3, 2, 1, 0] rfl ?_
              exact ih_13 x_22 x_23 r_24 x_26 h
    obtain ⟨n_27, h⟩ := h
    exact L31 n_27 0 p1 r_6 0 h
  · have h := h.2 c_3
    refine q_iconst (v := (-1)) X dX8_dutyOfCheapest_9 (by decide) ?_
    exact hE _ _ _ _ dX8_dutyOfCheapest_10 h
theorem dX8_dearest_0 : decode cX8_dearest 0 = .ok (.aload_n 0, 1) := by decide +kernel
theorem dX8_dearest_1 : decode cX8_dearest 1 = .ok (.invokevirtual 187, 3) := by decide +kernel
theorem dX8_dearest_4 : decode cX8_dearest 4 = .ok (.iconst (-1), 1) := by decide +kernel
theorem dX8_dearest_5 : decode cX8_dearest 5 = .ok (.istore_n 1, 1) := by decide +kernel
theorem dX8_dearest_6 : decode cX8_dearest 6 = .ok (.iconst 0, 1) := by decide +kernel
theorem dX8_dearest_7 : decode cX8_dearest 7 = .ok (.istore_n 2, 1) := by decide +kernel
theorem dX8_dearest_8 : decode cX8_dearest 8 = .ok (.iload_n 2, 1) := by decide +kernel
theorem dX8_dearest_9 : decode cX8_dearest 9 = .ok (.aload_n 0, 1) := by decide +kernel
theorem dX8_dearest_10 : decode cX8_dearest 10 = .ok (.getfield 62, 3) := by decide +kernel
theorem dX8_dearest_13 : decode cX8_dearest 13 = .ok (.if_icmp .ge 31, 3) := by decide +kernel
theorem dX8_dearest_16 : decode cX8_dearest 16 = .ok (.iload_n 1, 1) := by decide +kernel
theorem dX8_dearest_17 : decode cX8_dearest 17 = .ok (.iconst (-1), 1) := by decide +kernel
theorem dX8_dearest_18 : decode cX8_dearest 18 = .ok (.if_icmp .eq 18, 3) := by decide +kernel
theorem dX8_dearest_21 : decode cX8_dearest 21 = .ok (.aload_n 0, 1) := by decide +kernel
theorem dX8_dearest_22 : decode cX8_dearest 22 = .ok (.getfield 42, 3) := by decide +kernel
theorem dX8_dearest_25 : decode cX8_dearest 25 = .ok (.iload_n 2, 1) := by decide +kernel
theorem dX8_dearest_26 : decode cX8_dearest 26 = .ok (.iaload, 1) := by decide +kernel
theorem dX8_dearest_27 : decode cX8_dearest 27 = .ok (.aload_n 0, 1) := by decide +kernel
theorem dX8_dearest_28 : decode cX8_dearest 28 = .ok (.getfield 42, 3) := by decide +kernel
theorem dX8_dearest_31 : decode cX8_dearest 31 = .ok (.iload_n 1, 1) := by decide +kernel
theorem dX8_dearest_32 : decode cX8_dearest 32 = .ok (.iaload, 1) := by decide +kernel
theorem dX8_dearest_33 : decode cX8_dearest 33 = .ok (.if_icmp .le 5, 3) := by decide +kernel
theorem dX8_dearest_36 : decode cX8_dearest 36 = .ok (.iload_n 2, 1) := by decide +kernel
theorem dX8_dearest_37 : decode cX8_dearest 37 = .ok (.istore_n 1, 1) := by decide +kernel
theorem dX8_dearest_38 : decode cX8_dearest 38 = .ok (.iinc 2 1, 3) := by decide +kernel
theorem dX8_dearest_41 : decode cX8_dearest 41 = .ok (.goto (-33), 3) := by decide +kernel
theorem dX8_dearest_44 : decode cX8_dearest 44 = .ok (.iload_n 1, 1) := by decide +kernel
theorem dX8_dearest_45 : decode cX8_dearest 45 = .ok (.ireturn, 1) := by decide +kernel
def w_X8_dearest_B8 (i : Nat) (Q9 : Int32 → Mm → Prop) (m_2 : Mm) (K_5 : Int32 → Int32 → Prop) (y_3 : Int32) (y_4 : Int32) : Prop :=
  (((m_2.1 1 i 1) ≤ y_4 → Q9 y_3 m_2) ∧
  (¬ (m_2.1 1 i 1) ≤ y_4 → ((y_3 = (-1) → ∀ x_9 : Int32, x_9 = y_4 + 1 → (K_5 y_4 x_9)) ∧
  (¬ y_3 = (-1) → vp_in y_4 16 ∧ (vp_in y_3 16 ∧ ((((m_2.1 11 i y_4.toNatClampNeg) ≤ (m_2.1 11 i y_3.toNatClampNeg) → ∀ x_13 : Int32, x_13 = y_4 + 1 → (K_5 y_3 x_13)) ∧
  (¬ (m_2.1 11 i y_4.toNatClampNeg) ≤ (m_2.1 11 i y_3.toNatClampNeg) → ∀ x_14 : Int32, x_14 = y_4 + 1 → (K_5 y_4 x_14)))))))))
def w_X8_dearest (i : Nat) (mm : Mm) (Q9 : Int32 → Mm → Prop) : Prop :=
  w_X8_tellDuties i mm (fun (m_2 : Mm) => ∃ n, itr (α := Int32 × Int32) (fun K a => w_X8_dearest_B8 i Q9 m_2 (fun z0 z1 => K (z0, z1)) a.1 a.2) n ((-1), 0))
def rm_X8_dearest : Room := { frames := 3, cells := 0, slots := 0, locals := 67 }
theorem hy_X8_dearest : yX8_dearest.cls = RX8 ∧ yX8_dearest.cls ≠ "java/lang/invoke/MethodHandle" ∧ yX8_dearest.cls ≠ "java/lang/invoke/VarHandle" ∧ (parseMethodDescriptor yX8_dearest.desc).map (fun d => d.parameters.length) = some 0 := by decide +kernel
set_option maxRecDepth 100000 in
set_option maxHeartbeats 4000000 in
theorem c_X8_dearest {l : Launch} {D : va_G} {cA : Nat → ClassId} {ad : Nat → Nat → Nat} {A : Nat → Prop} (ax : Ax ad GC A) (i : Nat) (hi : ok 1 i) (mm : Mm) (Q9 : Int32 → Mm → Prop) (h : w_X8_dearest i mm Q9) : Met l yX8_dearest (.code yX8_dearest cX8_dearest 3 (some .int) :: TG) rm_X8_dearest (PcM TT D cA ad false GC (ZC ad A) [.ref (ad 1 i)] mm) (AnsI TT D cA ad false GC A Q9) 0 0 A := by
  have zo := ZC_ok ad A
  unfold w_X8_dearest at h
  refine enterI pl_X8 ⟨rfl, rfl⟩ rfl (Nat.le_of_ble_eq_true rfl) ?_
  intro p e s m args below meth c QQ X hK hZ hnm hE
  refine q_aload_n (j := 0) X dX8_dearest_0 rfl rfl ?_
  refine q_callv (q_runV X hK hZ zo (gc (t := 1) (by decide) hi) rfl rfl [] [] rfl rfl (Nat.le_of_ble_eq_true rfl) dX8_dearest_1 ⟨Nat.le_of_ble_eq_true rfl, Nat.le_of_ble_eq_true rfl⟩ (c_X8_tellDuties ax i hi mm _ h) rfl rfl (gV kw_5_229 kw_5_203 ks_64 kw_1_2 kw_5_204) hy_X8_tellDuties ⟨Nat.le_of_ble_eq_true rfl, Nat.le_of_ble_eq_true rfl⟩) (fun m_2 h => ?_)
  refine q_iconst (v := (-1)) X dX8_dearest_4 (by decide) ?_
  refine q_istore_n (lv' := [(1, .int (-1)), (0, .ref (ad 1 i))]) X dX8_dearest_5 rfl (by decide) rfl ?_
  refine q_iconst (v := 0) X dX8_dearest_6 (by decide) ?_
  refine q_istore_n (lv' := [(2, .int 0), (1, .int (-1)), (0, .ref (ad 1 i))]) X dX8_dearest_7 rfl (by decide) rfl ?_
  refine q_sub [2, 1, 0] rfl ?_
  have L8 : ∀ (n : Nat) (y_3 : Int32) (y_4 : Int32), itr (α := Int32 × Int32) (fun K a => w_X8_dearest_B8 i Q9 m_2 (fun z0 z1 => K (z0, z1)) a.1 a.2) n (y_3, y_4) → V p l e rm_X8_dearest s m args below meth c QQ 3 A 0 0 (Rep TT D cA ad false GC m_2) 8 [(0, .ref (ad 1 i)), (1, .int y_3), (2, .int y_4)] [] := by
    intro n
    induction n with
    | zero => intro y_3 y_4 h; exact h.elim
    | succ n ih_6 =>
      intro y_3 y_4 h
      have h : w_X8_dearest_B8 i Q9 m_2 (fun z0 z1 => itr (α := Int32 × Int32) (fun K a => w_X8_dearest_B8 i Q9 m_2 (fun z0 z1 => K (z0, z1)) a.1 a.2) n (z0, z1)) y_3 y_4 := h
      unfold w_X8_dearest_B8 at h
      refine q_iload_n (j := 2) X dX8_dearest_8 rfl rfl ?_
      refine q_aload_n (j := 0) X dX8_dearest_9 rfl rfl ?_
      refine q_get (k := 1) (v := .int (m_2.1 1 i 1)) X hK rfl rfl (Nat.le_of_ble_eq_true rfl) inTX8 (gc (t := 1) (by decide) hi) kw_1_230 rfl rfl dX8_dearest_10 ?_
      refine q_icmp_ge (tgt := 44) X dX8_dearest_13 (by decide) (fun c_7 => ?_) (fun c_7 => ?_)
      · have h := h.1 c_7
        refine q_iload_n (j := 1) X dX8_dearest_44 rfl rfl ?_
        exact hE _ _ _ _ dX8_dearest_45 h
      · have h := h.2 c_7
        refine q_iload_n (j := 1) X dX8_dearest_16 rfl rfl ?_
        refine q_iconst (v := (-1)) X dX8_dearest_17 (by decide) ?_
        refine q_icmp_eq (tgt := 36) X dX8_dearest_18 (by decide) (fun c_8 => ?_) (fun c_8 => ?_)
        · have h := h.1 c_8
          refine q_iload_n (j := 2) X dX8_dearest_36 rfl rfl ?_
          refine q_istore_n (lv' := [(1, .int y_4), (0, .ref (ad 1 i)), (2, .int y_4)]) X dX8_dearest_37 rfl (by decide) rfl ?_
          obtain ⟨x_9, ex_9⟩ : ∃ z : Int32, z = y_4 + 1 := ⟨_, rfl⟩
          have h := h x_9 ex_9
          refine q_iinc (j := 2) (v := x_9) (lv' := [(2, .int x_9), (1, .int y_4), (0, .ref (ad 1 i))]) X dX8_dearest_38 rfl (by rw [ex_9]; rfl) (by decide) rfl ?_
          refine q_goto (tgt := 8) X dX8_dearest_41 (by decide) ?_
          refine q_sub [2, 1, 0] rfl ?_
          exact ih_6 y_4 x_9 h
        · have h := h.2 c_8
          refine q_aload_n (j := 0) X dX8_dearest_21 rfl rfl ?_
          refine q_get (k := 10) (v := .ref (ad 11 i)) X hK rfl rfl (Nat.le_of_ble_eq_true rfl) inTX8 (gc (t := 1) (by decide) hi) kw_2_12 rfl (rv_nn (a := ad 11) (r := i) hi.1) dX8_dearest_22 ?_
          refine q_iload_n (j := 2) X dX8_dearest_25 rfl rfl ?_
          obtain ⟨b_10, h⟩ := h
          refine q_iald (t := 11) (i := i) (jn := y_4.toNatClampNeg) (v := .int (m_2.1 11 i y_4.toNatClampNeg)) X hK rfl rfl (gc (t := 11) (by decide) hi) rfl b_10 rfl rfl dX8_dearest_26 ?_
          refine q_aload_n (j := 0) X dX8_dearest_27 rfl rfl ?_
          refine q_get (k := 10) (v := .ref (ad 11 i)) X hK rfl rfl (Nat.le_of_ble_eq_true rfl) inTX8 (gc (t := 1) (by decide) hi) kw_2_12 rfl (rv_nn (a := ad 11) (r := i) hi.1) dX8_dearest_28 ?_
          refine q_iload_n (j := 1) X dX8_dearest_31 rfl rfl ?_
          obtain ⟨b_11, h⟩ := h
          refine q_iald (t := 11) (i := i) (jn := y_3.toNatClampNeg) (v := .int (m_2.1 11 i y_3.toNatClampNeg)) X hK rfl rfl (gc (t := 11) (by decide) hi) rfl b_11 rfl rfl dX8_dearest_32 ?_
          refine q_icmp_le (tgt := 38) X dX8_dearest_33 (by decide) (fun c_12 => ?_) (fun c_12 => ?_)
          · have h := h.1 c_12
            obtain ⟨x_13, ex_13⟩ : ∃ z : Int32, z = y_4 + 1 := ⟨_, rfl⟩
            have h := h x_13 ex_13
            refine q_iinc (j := 2) (v := x_13) (lv' := [(2, .int x_13), (0, .ref (ad 1 i)), (1, .int y_3)]) X dX8_dearest_38 rfl (by rw [ex_13]; rfl) (by decide) rfl ?_
            refine q_goto (tgt := 8) X dX8_dearest_41 (by decide) ?_
            refine q_sub [1, 2, 0] rfl ?_
            exact ih_6 y_3 x_13 h
          · have h := h.2 c_12
            refine q_iload_n (j := 2) X dX8_dearest_36 rfl rfl ?_
            refine q_istore_n (lv' := [(1, .int y_4), (0, .ref (ad 1 i)), (2, .int y_4)]) X dX8_dearest_37 rfl (by decide) rfl ?_
            obtain ⟨x_14, ex_14⟩ : ∃ z : Int32, z = y_4 + 1 := ⟨_, rfl⟩
            have h := h x_14 ex_14
            refine q_iinc (j := 2) (v := x_14) (lv' := [(2, .int x_14), (1, .int y_4), (0, .ref (ad 1 i))]) X dX8_dearest_38 rfl (by rw [ex_14]; rfl) (by decide) rfl ?_
            refine q_goto (tgt := 8) X dX8_dearest_41 (by decide) ?_
            refine q_sub [2, 1, 0] rfl ?_
            exact ih_6 y_4 x_14 h
  obtain ⟨n_15, h⟩ := h
  exact L8 n_15 (-1) 0 h
theorem dX9_dearestEntry_0 : decode cX9_dearestEntry 0 = .ok (.aload_n 0, 1) := by decide +kernel
theorem dX9_dearestEntry_1 : decode cX9_dearestEntry 1 = .ok (.getfield 10, 3) := by decide +kernel
theorem dX9_dearestEntry_4 : decode cX9_dearestEntry 4 = .ok (.aload_n 0, 1) := by decide +kernel
theorem dX9_dearestEntry_5 : decode cX9_dearestEntry 5 = .ok (.getfield 10, 3) := by decide +kernel
theorem dX9_dearestEntry_8 : decode cX9_dearestEntry 8 = .ok (.invokevirtual 332, 3) := by decide +kernel
theorem dX9_dearestEntry_11 : decode cX9_dearestEntry 11 = .ok (.invokevirtual 320, 3) := by decide +kernel
theorem dX9_dearestEntry_14 : decode cX9_dearestEntry 14 = .ok (.ireturn, 1) := by decide +kernel
def w_X9_dearestEntry  (mm : Mm) (Q9 : Int32 → Mm → Prop) : Prop :=
  w_X8_dearest 1 mm (fun (r_1 : Int32) (m_2 : Mm) => w_X8_numberAt 1 r_1 m_2 (fun (r_3 : Int32) => Q9 r_3 m_2))
def rm_X9_dearestEntry : Room := { frames := 4, cells := 0, slots := 0, locals := 89 }
theorem hy_X9_dearestEntry : yX9_dearestEntry.cls = RX9 ∧ yX9_dearestEntry.cls ≠ "java/lang/invoke/MethodHandle" ∧ yX9_dearestEntry.cls ≠ "java/lang/invoke/VarHandle" ∧ (parseMethodDescriptor yX9_dearestEntry.desc).map (fun d => d.parameters.length) = some 0 := by decide +kernel
set_option maxRecDepth 100000 in
set_option maxHeartbeats 4000000 in
theorem c_X9_dearestEntry {l : Launch} {D : va_G} {cA : Nat → ClassId} {ad : Nat → Nat → Nat} {A : Nat → Prop} (ax : Ax ad GC A)  (mm : Mm) (Q9 : Int32 → Mm → Prop) (h : w_X9_dearestEntry mm Q9) : Met l yX9_dearestEntry (.code yX9_dearestEntry cX9_dearestEntry 1 (some .int) :: TG) rm_X9_dearestEntry (PcM TT D cA ad false GC (ZC ad A) [.ref (ad 0 1)] mm) (AnsI TT D cA ad false GC A Q9) 0 0 A := by
  have zo := ZC_ok ad A
  unfold w_X9_dearestEntry at h
  refine enterI pl_X9 ⟨rfl, rfl⟩ rfl (Nat.le_of_ble_eq_true rfl) ?_
  intro p e s m args below meth c QQ X hK hZ hnm hE
  refine q_aload_n (j := 0) X dX9_dearestEntry_0 rfl rfl ?_
  refine q_get (k := 0) (v := .ref (ad 1 1)) X hK rfl rfl (Nat.le_of_ble_eq_true rfl) inTX9 (gc (t := 0) (by decide) (ok1 (t := 0) (Nat.le_of_ble_eq_true rfl))) kw_2_111 rfl (rv_nn (a := ad 1) (r := 1) (ok1 (t := 1) (Nat.le_of_ble_eq_true rfl)).1) dX9_dearestEntry_1 ?_
  refine q_aload_n (j := 0) X dX9_dearestEntry_4 rfl rfl ?_
  refine q_get (k := 0) (v := .ref (ad 1 1)) X hK rfl rfl (Nat.le_of_ble_eq_true rfl) inTX9 (gc (t := 0) (by decide) (ok1 (t := 0) (Nat.le_of_ble_eq_true rfl))) kw_2_111 rfl (rv_nn (a := ad 1) (r := 1) (ok1 (t := 1) (Nat.le_of_ble_eq_true rfl)).1) dX9_dearestEntry_5 ?_
  refine q_calli (q_runVN X hK hZ zo (gc (t := 1) (by decide) (ok1 (t := 1) (Nat.le_of_ble_eq_true rfl))) rfl rfl [] [.ref (ad 1 1)] rfl rfl (Nat.le_of_ble_eq_true rfl) dX9_dearestEntry_8 ⟨Nat.le_of_ble_eq_true rfl, Nat.le_of_ble_eq_true rfl⟩ (c_X8_dearest ax 1 (ok1 (t := 1) (Nat.le_of_ble_eq_true rfl)) mm _ h) rfl rfl (List.mem_of_getElem? (i := 105) rfl) kw_1_2 kw_6_209 kw_6_208 ks_83 hy_X8_dearest.2 ⟨Nat.le_of_ble_eq_true rfl, Nat.le_of_ble_eq_true rfl⟩) (fun r_1 m_2 h => ?_)
  refine q_calli (q_runVN X hK hZ zo (gc (t := 1) (by decide) (ok1 (t := 1) (Nat.le_of_ble_eq_true rfl))) rfl rfl [.int r_1] [] rfl rfl (Nat.le_of_ble_eq_true rfl) dX9_dearestEntry_11 ⟨Nat.le_of_ble_eq_true rfl, Nat.le_of_ble_eq_true rfl⟩ (c_X8_numberAt ax 1 (ok1 (t := 1) (Nat.le_of_ble_eq_true rfl)) r_1 m_2 _ h) rfl rfl (List.mem_of_getElem? (i := 87) rfl) kw_1_2 kw_5_216 kw_5_215 ks_67 hy_X8_numberAt.2 ⟨Nat.le_of_ble_eq_true rfl, Nat.le_of_ble_eq_true rfl⟩) (fun r_3 m_4 h => ?_)
  obtain ⟨h, hm⟩ := h
  subst hm
  exact hE _ _ _ _ dX9_dearestEntry_14 h
theorem dX4_add_0 : decode cX4_add 0 = .ok (.aload_n 0, 1) := by decide +kernel
theorem dX4_add_1 : decode cX4_add 1 = .ok (.getfield 9, 3) := by decide +kernel
theorem dX4_add_4 : decode cX4_add 4 = .ok (.aload_n 0, 1) := by decide +kernel
theorem dX4_add_5 : decode cX4_add 5 = .ok (.getfield 18, 3) := by decide +kernel
theorem dX4_add_8 : decode cX4_add 8 = .ok (.iload_n 1, 1) := by decide +kernel
theorem dX4_add_9 : decode cX4_add 9 = .ok (.iastore, 1) := by decide +kernel
theorem dX4_add_10 : decode cX4_add 10 = .ok (.aload_n 0, 1) := by decide +kernel
theorem dX4_add_11 : decode cX4_add 11 = .ok (.aload_n 0, 1) := by decide +kernel
theorem dX4_add_12 : decode cX4_add 12 = .ok (.getfield 18, 3) := by decide +kernel
theorem dX4_add_15 : decode cX4_add 15 = .ok (.iconst 1, 1) := by decide +kernel
theorem dX4_add_16 : decode cX4_add 16 = .ok (.iadd, 1) := by decide +kernel
theorem dX4_add_17 : decode cX4_add 17 = .ok (.putfield 18, 3) := by decide +kernel
theorem dX4_add_20 : decode cX4_add 20 = .ok (.aload_n 0, 1) := by decide +kernel
theorem dX4_add_21 : decode cX4_add 21 = .ok (.getfield 18, 3) := by decide +kernel
theorem dX4_add_24 : decode cX4_add 24 = .ok (.ireturn, 1) := by decide +kernel
def w_X4_add (p0 : Int32) (mm : Mm) (Q9 : Int32 → Mm → Prop) : Prop :=
  vp_in (mm.1 17 1 1) 60 ∧ ∀ m_2 : Mm, m_2 = sI mm 18 1 (mm.1 17 1 1).toNatClampNeg p0 → (∀ m_3 : Mm, m_3 = sI m_2 17 1 1 ((m_2.1 17 1 1) + 1) → (Q9 (m_3.1 17 1 1) m_3))
def rm_X4_add : Room := { frames := 0, cells := 0, slots := 0, locals := 0 }
theorem hy_X4_add : yX4_add.cls = RX4 ∧ yX4_add.cls ≠ "java/lang/invoke/MethodHandle" ∧ yX4_add.cls ≠ "java/lang/invoke/VarHandle" ∧ (parseMethodDescriptor yX4_add.desc).map (fun d => d.parameters.length) = some 1 := by decide +kernel
set_option maxRecDepth 100000 in
set_option maxHeartbeats 4000000 in
theorem c_X4_add {l : Launch} {D : va_G} {cA : Nat → ClassId} {ad : Nat → Nat → Nat} {A : Nat → Prop} (ax : Ax ad GC A) (p0 : Int32) (mm : Mm) (Q9 : Int32 → Mm → Prop) (h : w_X4_add p0 mm Q9) : Met l yX4_add (.code yX4_add cX4_add 2 (some .int) :: TG) rm_X4_add (PcM TT D cA ad false GC (ZC ad A) [.ref (ad 17 1), .int p0] mm) (AnsI TT D cA ad false GC A Q9) 0 0 A := by
  have zo := ZC_ok ad A
  unfold w_X4_add at h
  refine enterI pl_X4 ⟨rfl, rfl⟩ rfl (Nat.le_of_ble_eq_true rfl) ?_
  intro p e s m args below meth c QQ X hK hZ hnm hE
  refine q_aload_n (j := 0) X dX4_add_0 rfl rfl ?_
  refine q_get (k := 0) (v := .ref (ad 18 1)) X hK rfl rfl (Nat.le_of_ble_eq_true rfl) inTX4 (gc (t := 17) (by decide) (ok1 (t := 17) (Nat.le_of_ble_eq_true rfl))) kw_2_88 rfl (rv_nn (a := ad 18) (r := 1) (ok1 (t := 18) (Nat.le_of_ble_eq_true rfl)).1) dX4_add_1 ?_
  refine q_aload_n (j := 0) X dX4_add_4 rfl rfl ?_
  refine q_get (k := 1) (v := .int (mm.1 17 1 1)) X hK rfl rfl (Nat.le_of_ble_eq_true rfl) inTX4 (gc (t := 17) (by decide) (ok1 (t := 17) (Nat.le_of_ble_eq_true rfl))) kw_2_90 rfl rfl dX4_add_5 ?_
  refine q_iload_n (j := 1) X dX4_add_8 rfl rfl ?_
  obtain ⟨b_1, h⟩ := h
  refine q_iast (t := 18) (i := 1) (jn := (mm.1 17 1 1).toNatClampNeg) X ax hK rfl rfl (gc (t := 18) (by decide) (ok1 (t := 18) (Nat.le_of_ble_eq_true rfl))) rfl b_1 rfl rfl dX4_add_9 ?_
  refine q_nmP (fun m_2 em_2 => ?_)
  have h := h m_2 em_2
  refine q_aload_n (j := 0) X dX4_add_10 rfl rfl ?_
  refine q_aload_n (j := 0) X dX4_add_11 rfl rfl ?_
  refine q_get (k := 1) (v := .int (m_2.1 17 1 1)) X hK rfl rfl (Nat.le_of_ble_eq_true rfl) inTX4 (gc (t := 17) (by decide) (ok1 (t := 17) (Nat.le_of_ble_eq_true rfl))) kw_2_90 rfl rfl dX4_add_12 ?_
  refine q_iconst (v := 1) X dX4_add_15 (by decide) ?_
  refine q_iadd X dX4_add_16 ?_
  refine q_putI (k := 1) X ax hK rfl rfl (Nat.le_of_ble_eq_true rfl) inTX4 (gc (t := 17) (by decide) (ok1 (t := 17) (Nat.le_of_ble_eq_true rfl))) tyX4 tyX4_ok nmX4 kw_2_90 rfl rfl (tyX4_ok 1 (Nat.le_of_ble_eq_true rfl)) rfl dX4_add_17 ?_
  refine q_nmP (fun m_3 em_3 => ?_)
  have h := h m_3 em_3
  refine q_aload_n (j := 0) X dX4_add_20 rfl rfl ?_
  refine q_get (k := 1) (v := .int (m_3.1 17 1 1)) X hK rfl rfl (Nat.le_of_ble_eq_true rfl) inTX4 (gc (t := 17) (by decide) (ok1 (t := 17) (Nat.le_of_ble_eq_true rfl))) kw_2_90 rfl rfl dX4_add_21 ?_
  exact hE _ _ _ _ dX4_add_24 h
theorem dX4_startNumber_0 : decode cX4_startNumber 0 = .ok (.aload_n 0, 1) := by decide +kernel
theorem dX4_startNumber_1 : decode cX4_startNumber 1 = .ok (.iload_n 1, 1) := by decide +kernel
theorem dX4_startNumber_2 : decode cX4_startNumber 2 = .ok (.putfield 44, 3) := by decide +kernel
theorem dX4_startNumber_5 : decode cX4_startNumber 5 = .ok (.aload_n 0, 1) := by decide +kernel
theorem dX4_startNumber_6 : decode cX4_startNumber 6 = .ok (.getfield 15, 3) := by decide +kernel
theorem dX4_startNumber_9 : decode cX4_startNumber 9 = .ok (.iload_n 1, 1) := by decide +kernel
theorem dX4_startNumber_10 : decode cX4_startNumber 10 = .ok (.iconst (-1), 1) := by decide +kernel
theorem dX4_startNumber_11 : decode cX4_startNumber 11 = .ok (.iastore, 1) := by decide +kernel
theorem dX4_startNumber_12 : decode cX4_startNumber 12 = .ok (.return_, 1) := by decide +kernel
def w_X4_startNumber (p0 : Int32) (mm : Mm) (Q9 : Mm → Prop) : Prop :=
  ∀ m_1 : Mm, m_1 = sI mm 17 1 4 p0 → (vp_in p0 4 ∧ ∀ m_3 : Mm, m_3 = sI m_1 19 1 p0.toNatClampNeg (-1) → (Q9 m_3))
def rm_X4_startNumber : Room := { frames := 0, cells := 0, slots := 0, locals := 0 }
theorem hy_X4_startNumber : yX4_startNumber.cls = RX4 ∧ yX4_startNumber.cls ≠ "java/lang/invoke/MethodHandle" ∧ yX4_startNumber.cls ≠ "java/lang/invoke/VarHandle" ∧ (parseMethodDescriptor yX4_startNumber.desc).map (fun d => d.parameters.length) = some 1 := by decide +kernel
set_option maxRecDepth 100000 in
set_option maxHeartbeats 4000000 in
theorem c_X4_startNumber {l : Launch} {D : va_G} {cA : Nat → ClassId} {ad : Nat → Nat → Nat} {A : Nat → Prop} (ax : Ax ad GC A) (p0 : Int32) (mm : Mm) (Q9 : Mm → Prop) (h : w_X4_startNumber p0 mm Q9) : Met l yX4_startNumber (.code yX4_startNumber cX4_startNumber 2 none :: TG) rm_X4_startNumber (PcM TT D cA ad false GC (ZC ad A) [.ref (ad 17 1), .int p0] mm) (AnsV TT D cA ad false GC A Q9) 0 0 A := by
  have zo := ZC_ok ad A
  unfold w_X4_startNumber at h
  refine enterV pl_X4 ⟨rfl, rfl⟩ rfl (Nat.le_of_ble_eq_true rfl) ?_
  intro p e s m args below meth c QQ X hK hZ hnm hE
  refine q_aload_n (j := 0) X dX4_startNumber_0 rfl rfl ?_
  refine q_iload_n (j := 1) X dX4_startNumber_1 rfl rfl ?_
  refine q_putI (k := 4) X ax hK rfl rfl (Nat.le_of_ble_eq_true rfl) inTX4 (gc (t := 17) (by decide) (ok1 (t := 17) (Nat.le_of_ble_eq_true rfl))) tyX4 tyX4_ok nmX4 kw_2_95 rfl rfl (tyX4_ok 4 (Nat.le_of_ble_eq_true rfl)) rfl dX4_startNumber_2 ?_
  refine q_nmP (fun m_1 em_1 => ?_)
  have h := h m_1 em_1
  refine q_aload_n (j := 0) X dX4_startNumber_5 rfl rfl ?_
  refine q_get (k := 5) (v := .ref (ad 19 1)) X hK rfl rfl (Nat.le_of_ble_eq_true rfl) inTX4 (gc (t := 17) (by decide) (ok1 (t := 17) (Nat.le_of_ble_eq_true rfl))) kw_2_96 rfl (rv_nn (a := ad 19) (r := 1) (ok1 (t := 19) (Nat.le_of_ble_eq_true rfl)).1) dX4_startNumber_6 ?_
  refine q_iload_n (j := 1) X dX4_startNumber_9 rfl rfl ?_
  refine q_iconst (v := (-1)) X dX4_startNumber_10 (by decide) ?_
  obtain ⟨b_2, h⟩ := h
  refine q_iast (t := 19) (i := 1) (jn := p0.toNatClampNeg) X ax hK rfl rfl (gc (t := 19) (by decide) (ok1 (t := 19) (Nat.le_of_ble_eq_true rfl))) rfl b_2 rfl rfl dX4_startNumber_11 ?_
  refine q_nmP (fun m_3 em_3 => ?_)
  have h := h m_3 em_3
  exact hE _ _ _ dX4_startNumber_12 h
theorem dX4_startLine_0 : decode cX4_startLine 0 = .ok (.aload_n 0, 1) := by decide +kernel
theorem dX4_startLine_1 : decode cX4_startLine 1 = .ok (.aconst_null, 1) := by decide +kernel
theorem dX4_startLine_2 : decode cX4_startLine 2 = .ok (.putfield 37, 3) := by decide +kernel
theorem dX4_startLine_5 : decode cX4_startLine 5 = .ok (.aload_n 0, 1) := by decide +kernel
theorem dX4_startLine_6 : decode cX4_startLine 6 = .ok (.iconst 0, 1) := by decide +kernel
theorem dX4_startLine_7 : decode cX4_startLine 7 = .ok (.invokevirtual 40, 3) := by decide +kernel
theorem dX4_startLine_10 : decode cX4_startLine 10 = .ok (.return_, 1) := by decide +kernel
def w_X4_startLine  (mm : Mm) (Q9 : Mm → Prop) : Prop :=
  ∀ m_1 : Mm, m_1 = sR mm 17 1 3 0 → (w_X4_startNumber 0 m_1 (fun (m_3 : Mm) => Q9 m_3))
def rm_X4_startLine : Room := { frames := 1, cells := 0, slots := 0, locals := 21 }
theorem hy_X4_startLine : yX4_startLine.cls = RX4 ∧ yX4_startLine.cls ≠ "java/lang/invoke/MethodHandle" ∧ yX4_startLine.cls ≠ "java/lang/invoke/VarHandle" ∧ (parseMethodDescriptor yX4_startLine.desc).map (fun d => d.parameters.length) = some 0 := by decide +kernel
set_option maxRecDepth 100000 in
set_option maxHeartbeats 4000000 in
theorem c_X4_startLine {l : Launch} {D : va_G} {cA : Nat → ClassId} {ad : Nat → Nat → Nat} {A : Nat → Prop} (ax : Ax ad GC A)  (mm : Mm) (Q9 : Mm → Prop) (h : w_X4_startLine mm Q9) : Met l yX4_startLine (.code yX4_startLine cX4_startLine 1 none :: TG) rm_X4_startLine (PcM TT D cA ad false GC (ZC ad A) [.ref (ad 17 1)] mm) (AnsV TT D cA ad false GC A Q9) 0 0 A := by
  have zo := ZC_ok ad A
  unfold w_X4_startLine at h
  refine enterV pl_X4 ⟨rfl, rfl⟩ rfl (Nat.le_of_ble_eq_true rfl) ?_
  intro p e s m args below meth c QQ X hK hZ hnm hE
  refine q_aload_n (j := 0) X dX4_startLine_0 rfl rfl ?_
  refine q_null X dX4_startLine_1 ?_
  refine q_putR (r := 0) (k := 3) X ax hK rfl rfl (Nat.le_of_ble_eq_true rfl) inTX4 (gc (t := 17) (by decide) (ok1 (t := 17) (Nat.le_of_ble_eq_true rfl))) tyX4 tyX4_ok nmX4 kw_2_94 rfl rfl (tyX4_ok 3 (Nat.le_of_ble_eq_true rfl)) (Or.inr ⟨_, rfl⟩) rfl rfl rfl dX4_startLine_2 ?_
  refine q_nmP (fun m_1 em_1 => ?_)
  have h := h m_1 em_1
  refine q_aload_n (j := 0) X dX4_startLine_5 rfl rfl ?_
  refine q_iconst (v := 0) X dX4_startLine_6 (by decide) ?_
  refine q_callv (q_runV X hK hZ zo (gc (t := 17) (by decide) (ok1 (t := 17) (Nat.le_of_ble_eq_true rfl))) rfl rfl [.int 0] [] rfl rfl (Nat.le_of_ble_eq_true rfl) dX4_startLine_7 ⟨Nat.le_of_ble_eq_true rfl, Nat.le_of_ble_eq_true rfl⟩ (c_X4_startNumber ax 0 m_1 _ h) rfl rfl (gV kw_6_22 kw_6_24 ks_73 kw_1_10 kw_6_25) hy_X4_startNumber ⟨Nat.le_of_ble_eq_true rfl, Nat.le_of_ble_eq_true rfl⟩) (fun m_3 h => ?_)
  exact hE _ _ _ dX4_startLine_10 h
theorem dX4_formOf_0 : decode cX4_formOf 0 = .ok (.iload_n 0, 1) := by decide +kernel
theorem dX4_formOf_1 : decode cX4_formOf 1 = .ok (.tableswitch 135 98 120 #[123, 135, 127, 107, 135, 115, 135, 135, 135, 135, 123, 119, 135, 123, 135, 135, 135, 135, 131, 135, 135, 111, 111], 107) := by decide +kernel
theorem dX4_formOf_108 : decode cX4_formOf 108 = .ok (.getstatic 74, 3) := by decide +kernel
theorem dX4_formOf_111 : decode cX4_formOf 111 = .ok (.areturn, 1) := by decide +kernel
theorem dX4_formOf_112 : decode cX4_formOf 112 = .ok (.getstatic 77, 3) := by decide +kernel
theorem dX4_formOf_115 : decode cX4_formOf 115 = .ok (.areturn, 1) := by decide +kernel
theorem dX4_formOf_116 : decode cX4_formOf 116 = .ok (.getstatic 80, 3) := by decide +kernel
theorem dX4_formOf_119 : decode cX4_formOf 119 = .ok (.areturn, 1) := by decide +kernel
theorem dX4_formOf_120 : decode cX4_formOf 120 = .ok (.getstatic 83, 3) := by decide +kernel
theorem dX4_formOf_123 : decode cX4_formOf 123 = .ok (.areturn, 1) := by decide +kernel
theorem dX4_formOf_124 : decode cX4_formOf 124 = .ok (.getstatic 86, 3) := by decide +kernel
theorem dX4_formOf_127 : decode cX4_formOf 127 = .ok (.areturn, 1) := by decide +kernel
theorem dX4_formOf_128 : decode cX4_formOf 128 = .ok (.getstatic 89, 3) := by decide +kernel
theorem dX4_formOf_131 : decode cX4_formOf 131 = .ok (.areturn, 1) := by decide +kernel
theorem dX4_formOf_132 : decode cX4_formOf 132 = .ok (.getstatic 92, 3) := by decide +kernel
theorem dX4_formOf_135 : decode cX4_formOf 135 = .ok (.areturn, 1) := by decide +kernel
theorem dX4_formOf_136 : decode cX4_formOf 136 = .ok (.aconst_null, 1) := by decide +kernel
theorem dX4_formOf_137 : decode cX4_formOf 137 = .ok (.areturn, 1) := by decide +kernel
def w_X4_formOf (p0 : Int32) (mm : Mm) (Q9 : Nat → Prop) : Prop :=
  ((p0 = 98 → Q9 10) ∧
  (p0 = 100 → Q9 11) ∧
  (p0 = 101 → Q9 6) ∧
  (p0 = 103 → Q9 8) ∧
  (p0 = 108 → Q9 10) ∧
  (p0 = 109 → Q9 9) ∧
  (p0 = 111 → Q9 10) ∧
  (p0 = 116 → Q9 12) ∧
  (p0 = 119 → Q9 7) ∧
  (p0 = 120 → Q9 7) ∧
  (¬ p0 = 98 → ¬ p0 = 100 → ¬ p0 = 101 → ¬ p0 = 103 → ¬ p0 = 108 → ¬ p0 = 109 → ¬ p0 = 111 → ¬ p0 = 116 → ¬ p0 = 119 → ¬ p0 = 120 → Q9 0))
def rm_X4_formOf : Room := { frames := 0, cells := 0, slots := 0, locals := 0 }
theorem hy_X4_formOf : yX4_formOf.cls = RX4 ∧ yX4_formOf.cls ≠ "java/lang/invoke/MethodHandle" ∧ yX4_formOf.cls ≠ "java/lang/invoke/VarHandle" ∧ (parseMethodDescriptor yX4_formOf.desc).map (fun d => d.parameters.length) = some 1 := by decide +kernel
set_option maxRecDepth 100000 in
set_option maxHeartbeats 4000000 in
theorem c_X4_formOf {l : Launch} {D : va_G} {cA : Nat → ClassId} {ad : Nat → Nat → Nat} {A : Nat → Prop} (ax : Ax ad GC A) (p0 : Int32) (mm : Mm) (Q9 : Nat → Prop) (h : w_X4_formOf p0 mm Q9) : Met l yX4_formOf (.code yX4_formOf cX4_formOf 1 (some (.array .int)) :: TG) rm_X4_formOf (PcM TT D cA ad false GC (ZC ad A) [.int p0] mm) (AnsQ TT D cA ad false GC 20 A (fun r mm' => Q9 r ∧ mm = mm')) 0 0 A := by
  have zo := ZC_ok ad A
  unfold w_X4_formOf at h
  refine enterR (Or.inr ⟨_, rfl⟩) pl_X4 ⟨rfl, rfl⟩ rfl (Nat.le_of_ble_eq_true rfl) ?_
  intro p e s m args below meth c QQ X hK hZ hnm hE
  refine q_iload_n (j := 0) X dX4_formOf_0 rfl rfl ?_
  by_cases c_1 : p0 = 98
  · have h := h.1 c_1
    refine q_tabI (k := 98) (tgt := 124) X dX4_formOf_1 c_1 (by decide) (by decide) rfl (by decide) ?_
    refine q_gets X (hZ.1 10 (okc (t := 20) 10 (by decide))).1 kw_6_41 dX4_formOf_124 ?_
    rw [← rv_nn (a := ad 20) (r := 10) (okc (t := 20) 10 (by decide)).1]
    exact hE _ _ 10 _ dX4_formOf_127 ⟨h, rfl⟩
  have h := h.2
  have nc_1_98 := c_1
  by_cases c_1 : p0 = 100
  · have h := h.1 c_1
    refine q_tabI (k := 100) (tgt := 128) X dX4_formOf_1 c_1 (by decide) (by decide) rfl (by decide) ?_
    refine q_gets X (hZ.1 11 (okc (t := 20) 11 (by decide))).1 kw_6_43 dX4_formOf_128 ?_
    rw [← rv_nn (a := ad 20) (r := 11) (okc (t := 20) 11 (by decide)).1]
    exact hE _ _ 11 _ dX4_formOf_131 ⟨h, rfl⟩
  have h := h.2
  have nc_1_100 := c_1
  by_cases c_1 : p0 = 101
  · have h := h.1 c_1
    refine q_tabI (k := 101) (tgt := 108) X dX4_formOf_1 c_1 (by decide) (by decide) rfl (by decide) ?_
    refine q_gets X (hZ.1 6 (okc (t := 20) 6 (by decide))).1 kw_6_33 dX4_formOf_108 ?_
    rw [← rv_nn (a := ad 20) (r := 6) (okc (t := 20) 6 (by decide)).1]
    exact hE _ _ 6 _ dX4_formOf_111 ⟨h, rfl⟩
  have h := h.2
  have nc_1_101 := c_1
  by_cases c_1 : p0 = 103
  · have h := h.1 c_1
    refine q_tabI (k := 103) (tgt := 116) X dX4_formOf_1 c_1 (by decide) (by decide) rfl (by decide) ?_
    refine q_gets X (hZ.1 8 (okc (t := 20) 8 (by decide))).1 kw_6_37 dX4_formOf_116 ?_
    rw [← rv_nn (a := ad 20) (r := 8) (okc (t := 20) 8 (by decide)).1]
    exact hE _ _ 8 _ dX4_formOf_119 ⟨h, rfl⟩
  have h := h.2
  have nc_1_103 := c_1
  by_cases c_1 : p0 = 108
  · have h := h.1 c_1
    refine q_tabI (k := 108) (tgt := 124) X dX4_formOf_1 c_1 (by decide) (by decide) rfl (by decide) ?_
    refine q_gets X (hZ.1 10 (okc (t := 20) 10 (by decide))).1 kw_6_41 dX4_formOf_124 ?_
    rw [← rv_nn (a := ad 20) (r := 10) (okc (t := 20) 10 (by decide)).1]
    exact hE _ _ 10 _ dX4_formOf_127 ⟨h, rfl⟩
  have h := h.2
  have nc_1_108 := c_1
  by_cases c_1 : p0 = 109
  · have h := h.1 c_1
    refine q_tabI (k := 109) (tgt := 120) X dX4_formOf_1 c_1 (by decide) (by decide) rfl (by decide) ?_
    refine q_gets X (hZ.1 9 (okc (t := 20) 9 (by decide))).1 kw_6_39 dX4_formOf_120 ?_
    rw [← rv_nn (a := ad 20) (r := 9) (okc (t := 20) 9 (by decide)).1]
    exact hE _ _ 9 _ dX4_formOf_123 ⟨h, rfl⟩
  have h := h.2
  have nc_1_109 := c_1
  by_cases c_1 : p0 = 111
  · have h := h.1 c_1
    refine q_tabI (k := 111) (tgt := 124) X dX4_formOf_1 c_1 (by decide) (by decide) rfl (by decide) ?_
    refine q_gets X (hZ.1 10 (okc (t := 20) 10 (by decide))).1 kw_6_41 dX4_formOf_124 ?_
    rw [← rv_nn (a := ad 20) (r := 10) (okc (t := 20) 10 (by decide)).1]
    exact hE _ _ 10 _ dX4_formOf_127 ⟨h, rfl⟩
  have h := h.2
  have nc_1_111 := c_1
  by_cases c_1 : p0 = 116
  · have h := h.1 c_1
    refine q_tabI (k := 116) (tgt := 132) X dX4_formOf_1 c_1 (by decide) (by decide) rfl (by decide) ?_
    refine q_gets X (hZ.1 12 (okc (t := 20) 12 (by decide))).1 kw_6_45 dX4_formOf_132 ?_
    rw [← rv_nn (a := ad 20) (r := 12) (okc (t := 20) 12 (by decide)).1]
    exact hE _ _ 12 _ dX4_formOf_135 ⟨h, rfl⟩
  have h := h.2
  have nc_1_116 := c_1
  by_cases c_1 : p0 = 119
  · have h := h.1 c_1
    refine q_tabI (k := 119) (tgt := 112) X dX4_formOf_1 c_1 (by decide) (by decide) rfl (by decide) ?_
    refine q_gets X (hZ.1 7 (okc (t := 20) 7 (by decide))).1 kw_6_35 dX4_formOf_112 ?_
    rw [← rv_nn (a := ad 20) (r := 7) (okc (t := 20) 7 (by decide)).1]
    exact hE _ _ 7 _ dX4_formOf_115 ⟨h, rfl⟩
  have h := h.2
  have nc_1_119 := c_1
  by_cases c_1 : p0 = 120
  · have h := h.1 c_1
    refine q_tabI (k := 120) (tgt := 112) X dX4_formOf_1 c_1 (by decide) (by decide) rfl (by decide) ?_
    refine q_gets X (hZ.1 7 (okc (t := 20) 7 (by decide))).1 kw_6_35 dX4_formOf_112 ?_
    rw [← rv_nn (a := ad 20) (r := 7) (okc (t := 20) 7 (by decide)).1]
    exact hE _ _ 7 _ dX4_formOf_115 ⟨h, rfl⟩
  have h := h.2
  have nc_1_120 := c_1
  have h := h nc_1_98 nc_1_100 nc_1_101 nc_1_103 nc_1_108 nc_1_109 nc_1_111 nc_1_116 nc_1_119 nc_1_120
  refine q_tabD (ks := [98, 100, 101, 103, 108, 109, 111, 116, 119, 120]) (tgt := 136) X dX4_formOf_1 (by intro k hk; simp only [List.mem_cons, List.not_mem_nil, or_false] at hk; rcases hk with rfl | rfl | rfl | rfl | rfl | rfl | rfl | rfl | rfl | rfl <;> assumption) (by decide +kernel) (by decide) ?_
  refine q_null X dX4_formOf_136 ?_
  exact hE _ _ 0 _ dX4_formOf_137 ⟨h, rfl⟩
theorem dX4_sortAt_0 : decode cX4_sortAt 0 = .ok (.aload_n 0, 1) := by decide +kernel
theorem dX4_sortAt_1 : decode cX4_sortAt 1 = .ok (.getfield 37, 3) := by decide +kernel
theorem dX4_sortAt_4 : decode cX4_sortAt 4 = .ok (.ifnull 21, 3) := by decide +kernel
theorem dX4_sortAt_7 : decode cX4_sortAt 7 = .ok (.iload_n 1, 1) := by decide +kernel
theorem dX4_sortAt_8 : decode cX4_sortAt 8 = .ok (.aload_n 0, 1) := by decide +kernel
theorem dX4_sortAt_9 : decode cX4_sortAt 9 = .ok (.getfield 37, 3) := by decide +kernel
theorem dX4_sortAt_12 : decode cX4_sortAt 12 = .ok (.arraylength, 1) := by decide +kernel
theorem dX4_sortAt_13 : decode cX4_sortAt 13 = .ok (.if_icmp .ge 12, 3) := by decide +kernel
theorem dX4_sortAt_16 : decode cX4_sortAt 16 = .ok (.aload_n 0, 1) := by decide +kernel
theorem dX4_sortAt_17 : decode cX4_sortAt 17 = .ok (.getfield 37, 3) := by decide +kernel
theorem dX4_sortAt_20 : decode cX4_sortAt 20 = .ok (.iload_n 1, 1) := by decide +kernel
theorem dX4_sortAt_21 : decode cX4_sortAt 21 = .ok (.iaload, 1) := by decide +kernel
theorem dX4_sortAt_22 : decode cX4_sortAt 22 = .ok (.goto 5, 3) := by decide +kernel
theorem dX4_sortAt_25 : decode cX4_sortAt 25 = .ok (.bipush 8, 2) := by decide +kernel
theorem dX4_sortAt_27 : decode cX4_sortAt 27 = .ok (.ireturn, 1) := by decide +kernel
def w_X4_sortAt (p0 : Int32) (mm : Mm) (Q9 : Int32 → Prop) : Prop :=
  (((mm.2 17 1 3) = 0 → Q9 8) ∧
  (¬ (mm.2 17 1 3) = 0 → ok 20 (mm.2 17 1 3) ∧ ((((Int32.ofNat (slen (mm.2 17 1 3))) ≤ p0 → Q9 8) ∧
  (¬ (Int32.ofNat (slen (mm.2 17 1 3))) ≤ p0 → vp_in p0 (slen (mm.2 17 1 3)) ∧ (Q9 (stv (mm.2 17 1 3) p0.toNatClampNeg)))))))
def rm_X4_sortAt : Room := { frames := 0, cells := 0, slots := 0, locals := 0 }
theorem hy_X4_sortAt : yX4_sortAt.cls = RX4 ∧ yX4_sortAt.cls ≠ "java/lang/invoke/MethodHandle" ∧ yX4_sortAt.cls ≠ "java/lang/invoke/VarHandle" ∧ (parseMethodDescriptor yX4_sortAt.desc).map (fun d => d.parameters.length) = some 1 := by decide +kernel
set_option maxRecDepth 100000 in
set_option maxHeartbeats 4000000 in
theorem c_X4_sortAt {l : Launch} {D : va_G} {cA : Nat → ClassId} {ad : Nat → Nat → Nat} {A : Nat → Prop} (ax : Ax ad GC A) (p0 : Int32) (mm : Mm) (Q9 : Int32 → Prop) (h : w_X4_sortAt p0 mm Q9) : Met l yX4_sortAt (.code yX4_sortAt cX4_sortAt 2 (some .int) :: TG) rm_X4_sortAt (PcM TT D cA ad false GC (ZC ad A) [.ref (ad 17 1), .int p0] mm) (AnsI TT D cA ad false GC A (fun r mm' => Q9 r ∧ mm = mm')) 0 0 A := by
  have zo := ZC_ok ad A
  unfold w_X4_sortAt at h
  refine enterI pl_X4 ⟨rfl, rfl⟩ rfl (Nat.le_of_ble_eq_true rfl) ?_
  intro p e s m args below meth c QQ X hK hZ hnm hE
  refine q_aload_n (j := 0) X dX4_sortAt_0 rfl rfl ?_
  refine q_get (k := 3) (v := rv (ad 20) (mm.2 17 1 3)) X hK rfl rfl (Nat.le_of_ble_eq_true rfl) inTX4 (gc (t := 17) (by decide) (ok1 (t := 17) (Nat.le_of_ble_eq_true rfl))) kw_2_94 rfl rfl dX4_sortAt_1 ?_
  refine q_ifnull (tgt := 25) X dX4_sortAt_4 (by decide) (fun c_1 => ?_) (fun c_1 => ?_)
  · have h := h.1 c_1
    refine q_bipush (v := 8) X dX4_sortAt_25 (by decide) ?_
    exact hE _ _ _ _ dX4_sortAt_27 ⟨h, rfl⟩
  · have h := h.2 c_1
    refine q_iload_n (j := 1) X dX4_sortAt_7 rfl rfl ?_
    refine q_aload_n (j := 0) X dX4_sortAt_8 rfl rfl ?_
    refine q_get (k := 3) (v := rv (ad 20) (mm.2 17 1 3)) X hK rfl rfl (Nat.le_of_ble_eq_true rfl) inTX4 (gc (t := 17) (by decide) (ok1 (t := 17) (Nat.le_of_ble_eq_true rfl))) kw_2_94 rfl rfl dX4_sortAt_9 ?_
    obtain ⟨k_2, h⟩ := h
    rw [rv_nn (a := ad 20) (r := (mm.2 17 1 3)) k_2.1]
    refine q_tlen X (hZ.1 _ k_2).2 rfl dX4_sortAt_12 ?_
    refine q_icmp_ge (tgt := 25) X dX4_sortAt_13 (by decide) (fun c_3 => ?_) (fun c_3 => ?_)
    · have h := h.1 c_3
      refine q_bipush (v := 8) X dX4_sortAt_25 (by decide) ?_
      exact hE _ _ _ _ dX4_sortAt_27 ⟨h, rfl⟩
    · have h := h.2 c_3
      refine q_aload_n (j := 0) X dX4_sortAt_16 rfl rfl ?_
      refine q_get (k := 3) (v := rv (ad 20) (mm.2 17 1 3)) X hK rfl rfl (Nat.le_of_ble_eq_true rfl) inTX4 (gc (t := 17) (by decide) (ok1 (t := 17) (Nat.le_of_ble_eq_true rfl))) kw_2_94 rfl rfl dX4_sortAt_17 ?_
      refine q_iload_n (j := 1) X dX4_sortAt_20 rfl rfl ?_
      rw [rv_nn (a := ad 20) (r := (mm.2 17 1 3)) k_2.1]
      obtain ⟨b_4, h⟩ := h
      refine q_tiald (jn := p0.toNatClampNeg) (v := .int (stv (mm.2 17 1 3) p0.toNatClampNeg)) X (hZ.1 _ k_2).2 b_4 rfl rfl dX4_sortAt_21 ?_
      refine q_goto (tgt := 27) X dX4_sortAt_22 (by decide) ?_
      exact hE _ _ _ _ dX4_sortAt_27 ⟨h, rfl⟩
theorem dX4_readsDigit_0 : decode cX4_readsDigit 0 = .ok (.aload_n 0, 1) := by decide +kernel
theorem dX4_readsDigit_1 : decode cX4_readsDigit 1 = .ok (.getfield 15, 3) := by decide +kernel
theorem dX4_readsDigit_4 : decode cX4_readsDigit 4 = .ok (.aload_n 0, 1) := by decide +kernel
theorem dX4_readsDigit_5 : decode cX4_readsDigit 5 = .ok (.getfield 44, 3) := by decide +kernel
theorem dX4_readsDigit_8 : decode cX4_readsDigit 8 = .ok (.iaload, 1) := by decide +kernel
theorem dX4_readsDigit_9 : decode cX4_readsDigit 9 = .ok (.istore_n 2, 1) := by decide +kernel
theorem dX4_readsDigit_10 : decode cX4_readsDigit 10 = .ok (.aload_n 0, 1) := by decide +kernel
theorem dX4_readsDigit_11 : decode cX4_readsDigit 11 = .ok (.aload_n 0, 1) := by decide +kernel
theorem dX4_readsDigit_12 : decode cX4_readsDigit 12 = .ok (.getfield 44, 3) := by decide +kernel
theorem dX4_readsDigit_15 : decode cX4_readsDigit 15 = .ok (.invokevirtual 47, 3) := by decide +kernel
theorem dX4_readsDigit_18 : decode cX4_readsDigit 18 = .ok (.istore_n 3, 1) := by decide +kernel
theorem dX4_readsDigit_19 : decode cX4_readsDigit 19 = .ok (.iload_n 2, 1) := by decide +kernel
theorem dX4_readsDigit_20 : decode cX4_readsDigit 20 = .ok (.ifCond .eq 9, 3) := by decide +kernel
theorem dX4_readsDigit_23 : decode cX4_readsDigit 23 = .ok (.iload_n 3, 1) := by decide +kernel
theorem dX4_readsDigit_24 : decode cX4_readsDigit 24 = .ok (.bipush 8, 2) := by decide +kernel
theorem dX4_readsDigit_26 : decode cX4_readsDigit 26 = .ok (.if_icmp .ne 5, 3) := by decide +kernel
theorem dX4_readsDigit_29 : decode cX4_readsDigit 29 = .ok (.iconst 0, 1) := by decide +kernel
theorem dX4_readsDigit_30 : decode cX4_readsDigit 30 = .ok (.ireturn, 1) := by decide +kernel
theorem dX4_readsDigit_31 : decode cX4_readsDigit 31 = .ok (.iload_n 2, 1) := by decide +kernel
theorem dX4_readsDigit_32 : decode cX4_readsDigit 32 = .ok (.iconst (-1), 1) := by decide +kernel
theorem dX4_readsDigit_33 : decode cX4_readsDigit 33 = .ok (.if_icmp .ne 7, 3) := by decide +kernel
theorem dX4_readsDigit_36 : decode cX4_readsDigit 36 = .ok (.iload_n 1, 1) := by decide +kernel
theorem dX4_readsDigit_37 : decode cX4_readsDigit 37 = .ok (.goto 9, 3) := by decide +kernel
theorem dX4_readsDigit_40 : decode cX4_readsDigit 40 = .ok (.bipush 10, 2) := by decide +kernel
theorem dX4_readsDigit_42 : decode cX4_readsDigit 42 = .ok (.iload_n 2, 1) := by decide +kernel
theorem dX4_readsDigit_43 : decode cX4_readsDigit 43 = .ok (.imul, 1) := by decide +kernel
theorem dX4_readsDigit_44 : decode cX4_readsDigit 44 = .ok (.iload_n 1, 1) := by decide +kernel
theorem dX4_readsDigit_45 : decode cX4_readsDigit 45 = .ok (.iadd, 1) := by decide +kernel
theorem dX4_readsDigit_46 : decode cX4_readsDigit 46 = .ok (.istore 4, 2) := by decide +kernel
theorem dX4_readsDigit_48 : decode cX4_readsDigit 48 = .ok (.iload 4, 2) := by decide +kernel
theorem dX4_readsDigit_50 : decode cX4_readsDigit 50 = .ok (.getstatic 64, 3) := by decide +kernel
theorem dX4_readsDigit_53 : decode cX4_readsDigit 53 = .ok (.iload_n 3, 1) := by decide +kernel
theorem dX4_readsDigit_54 : decode cX4_readsDigit 54 = .ok (.iaload, 1) := by decide +kernel
theorem dX4_readsDigit_55 : decode cX4_readsDigit 55 = .ok (.getstatic 67, 3) := by decide +kernel
theorem dX4_readsDigit_58 : decode cX4_readsDigit 58 = .ok (.iload_n 3, 1) := by decide +kernel
theorem dX4_readsDigit_59 : decode cX4_readsDigit 59 = .ok (.iaload, 1) := by decide +kernel
theorem dX4_readsDigit_60 : decode cX4_readsDigit 60 = .ok (.invokestatic 70, 3) := by decide +kernel
theorem dX4_readsDigit_63 : decode cX4_readsDigit 63 = .ok (.ifCond .ne 5, 3) := by decide +kernel
theorem dX4_readsDigit_66 : decode cX4_readsDigit 66 = .ok (.iconst 0, 1) := by decide +kernel
theorem dX4_readsDigit_67 : decode cX4_readsDigit 67 = .ok (.ireturn, 1) := by decide +kernel
theorem dX4_readsDigit_68 : decode cX4_readsDigit 68 = .ok (.aload_n 0, 1) := by decide +kernel
theorem dX4_readsDigit_69 : decode cX4_readsDigit 69 = .ok (.getfield 15, 3) := by decide +kernel
theorem dX4_readsDigit_72 : decode cX4_readsDigit 72 = .ok (.aload_n 0, 1) := by decide +kernel
theorem dX4_readsDigit_73 : decode cX4_readsDigit 73 = .ok (.getfield 44, 3) := by decide +kernel
theorem dX4_readsDigit_76 : decode cX4_readsDigit 76 = .ok (.iload 4, 2) := by decide +kernel
theorem dX4_readsDigit_78 : decode cX4_readsDigit 78 = .ok (.iastore, 1) := by decide +kernel
theorem dX4_readsDigit_79 : decode cX4_readsDigit 79 = .ok (.iconst 1, 1) := by decide +kernel
theorem dX4_readsDigit_80 : decode cX4_readsDigit 80 = .ok (.ireturn, 1) := by decide +kernel
def w_X4_readsDigit_J46 (mm : Mm) (Q9 : Int32 → Mm → Prop) (r_3 : Int32) (y_7 : Int32) : Prop :=
  vp_in r_3 (slen 4) ∧ (vp_in r_3 (slen 5) ∧ (w_X9_isWithin y_7 (stv 4 r_3.toNatClampNeg) (stv 5 r_3.toNatClampNeg) mm (fun (r_10 : Int32) => ((¬ r_10 = 0 → ∀ m_13 : Mm, m_13 = sI mm 19 1 (mm.1 17 1 4).toNatClampNeg y_7 → (Q9 1 m_13)) ∧
  (r_10 = 0 → Q9 0 mm)))))
def w_X4_readsDigit (p0 : Int32) (mm : Mm) (Q9 : Int32 → Mm → Prop) : Prop :=
  vp_in (mm.1 17 1 4) 4 ∧ (∀ x_2 : Int32, x_2 = (mm.1 19 1 (mm.1 17 1 4).toNatClampNeg) → (w_X4_sortAt (mm.1 17 1 4) mm (fun (r_3 : Int32) => ((x_2 = 0 → Q9 0 mm) ∧
  (¬ x_2 = 0 → ((¬ r_3 = 8 → ((¬ x_2 = (-1) → w_X4_readsDigit_J46 mm Q9 r_3 ((10 * x_2) + p0)) ∧
  (x_2 = (-1) → w_X4_readsDigit_J46 mm Q9 r_3 p0))) ∧
  (r_3 = 8 → Q9 0 mm)))))))
def rm_X4_readsDigit : Room := { frames := 1, cells := 0, slots := 0, locals := 22 }
theorem hy_X4_readsDigit : yX4_readsDigit.cls = RX4 ∧ yX4_readsDigit.cls ≠ "java/lang/invoke/MethodHandle" ∧ yX4_readsDigit.cls ≠ "java/lang/invoke/VarHandle" ∧ (parseMethodDescriptor yX4_readsDigit.desc).map (fun d => d.parameters.length) = some 1 := by decide +kernel
set_option maxRecDepth 100000 in
set_option maxHeartbeats 4000000 in
theorem c_X4_readsDigit {l : Launch} {D : va_G} {cA : Nat → ClassId} {ad : Nat → Nat → Nat} {A : Nat → Prop} (ax : Ax ad GC A) (p0 : Int32) (mm : Mm) (Q9 : Int32 → Mm → Prop) (h : w_X4_readsDigit p0 mm Q9) : Met l yX4_readsDigit (.code yX4_readsDigit cX4_readsDigit 5 (some .boolean) :: TG) rm_X4_readsDigit (PcM TT D cA ad false GC (ZC ad A) [.ref (ad 17 1), .int p0] mm) (AnsI TT D cA ad false GC A Q9) 0 0 A := by
  have zo := ZC_ok ad A
  unfold w_X4_readsDigit at h
  refine enterZ pl_X4 ⟨rfl, rfl⟩ rfl (Nat.le_of_ble_eq_true rfl) ?_
  intro p e s m args below meth c QQ X hK hZ hnm hE
  refine q_aload_n (j := 0) X dX4_readsDigit_0 rfl rfl ?_
  refine q_get (k := 5) (v := .ref (ad 19 1)) X hK rfl rfl (Nat.le_of_ble_eq_true rfl) inTX4 (gc (t := 17) (by decide) (ok1 (t := 17) (Nat.le_of_ble_eq_true rfl))) kw_2_96 rfl (rv_nn (a := ad 19) (r := 1) (ok1 (t := 19) (Nat.le_of_ble_eq_true rfl)).1) dX4_readsDigit_1 ?_
  refine q_aload_n (j := 0) X dX4_readsDigit_4 rfl rfl ?_
  refine q_get (k := 4) (v := .int (mm.1 17 1 4)) X hK rfl rfl (Nat.le_of_ble_eq_true rfl) inTX4 (gc (t := 17) (by decide) (ok1 (t := 17) (Nat.le_of_ble_eq_true rfl))) kw_2_95 rfl rfl dX4_readsDigit_5 ?_
  obtain ⟨b_1, h⟩ := h
  refine q_iald (t := 19) (i := 1) (jn := (mm.1 17 1 4).toNatClampNeg) (v := .int (mm.1 19 1 (mm.1 17 1 4).toNatClampNeg)) X hK rfl rfl (gc (t := 19) (by decide) (ok1 (t := 19) (Nat.le_of_ble_eq_true rfl))) rfl b_1 rfl rfl dX4_readsDigit_8 ?_
  refine q_topi (fun x_2 ex_2 => ?_)
  have h := h x_2 ex_2
  refine q_istore_n (lv' := [(2, .int x_2), (0, .ref (ad 17 1)), (1, .int p0)]) X dX4_readsDigit_9 rfl (by decide) rfl ?_
  refine q_aload_n (j := 1) X dX4_readsDigit_10 rfl rfl ?_
  refine q_aload_n (j := 1) X dX4_readsDigit_11 rfl rfl ?_
  refine q_get (k := 4) (v := .int (mm.1 17 1 4)) X hK rfl rfl (Nat.le_of_ble_eq_true rfl) inTX4 (gc (t := 17) (by decide) (ok1 (t := 17) (Nat.le_of_ble_eq_true rfl))) kw_2_95 rfl rfl dX4_readsDigit_12 ?_
  refine q_calli (q_runV X hK hZ zo (gc (t := 17) (by decide) (ok1 (t := 17) (Nat.le_of_ble_eq_true rfl))) rfl rfl [.int (mm.1 17 1 4)] [] rfl rfl (Nat.le_of_ble_eq_true rfl) dX4_readsDigit_15 ⟨Nat.le_of_ble_eq_true rfl, Nat.le_of_ble_eq_true rfl⟩ (c_X4_sortAt ax (mm.1 17 1 4) mm _ h) rfl rfl (gV kw_6_51 kw_6_53 ks_76 kw_1_10 kw_6_54) hy_X4_sortAt ⟨Nat.le_of_ble_eq_true rfl, Nat.le_of_ble_eq_true rfl⟩) (fun r_3 m_4 h => ?_)
  obtain ⟨h, hm⟩ := h
  subst hm
  refine q_istore_n (lv' := [(3, .int r_3), (2, .int x_2), (0, .ref (ad 17 1)), (1, .int p0)]) X dX4_readsDigit_18 rfl (by decide) rfl ?_
  refine q_iload_n (j := 1) X dX4_readsDigit_19 rfl rfl ?_
  refine q_if_eq (tgt := 29) X dX4_readsDigit_20 (by decide) (fun c_5 => ?_) (fun c_5 => ?_)
  · have h := h.1 c_5
    refine q_iconst (v := 0) X dX4_readsDigit_29 (by decide) ?_
    exact hE _ _ _ _ dX4_readsDigit_30 (Or.inl rfl) h
  · have h := h.2 c_5
    refine q_iload_n (j := 0) X dX4_readsDigit_23 rfl rfl ?_
    refine q_bipush (v := 8) X dX4_readsDigit_24 (by decide) ?_
    refine q_icmp_ne (tgt := 31) X dX4_readsDigit_26 (by decide) (fun c_6 => ?_) (fun c_6 => ?_)
    · have h := h.1 c_6
      refine q_iload_n (j := 1) X dX4_readsDigit_31 rfl rfl ?_
      refine q_iconst (v := (-1)) X dX4_readsDigit_32 (by decide) ?_
      have J46 : ∀ (y_7 : Int32), w_X4_readsDigit_J46 mm Q9 r_3 y_7 → V p l e rm_X4_readsDigit s m args below meth c QQ 5 A 0 0 (Rep TT D cA ad false GC mm) 46 [(0, .ref (ad 17 1)), (3, .int r_3)] [.int y_7] := by
        intro y_7 h
        unfold w_X4_readsDigit_J46 at h
        refine q_istore (lv' := [(4, .int y_7), (0, .ref (ad 17 1)), (3, .int r_3)]) X dX4_readsDigit_46 (by decide) rfl ?_
        refine q_iload (j := 0) X dX4_readsDigit_48 rfl ?_
        refine q_gets X (hZ.1 4 (okc (t := 20) 4 (by decide))).1 kw_6_55 dX4_readsDigit_50 ?_
        refine q_iload_n (j := 2) X dX4_readsDigit_53 rfl rfl ?_
        obtain ⟨b_8, h⟩ := h
        refine q_tiald (jn := r_3.toNatClampNeg) (v := .int (stv 4 r_3.toNatClampNeg)) X (hZ.1 _ (okc (t := 20) 4 (by decide))).2 b_8 rfl rfl dX4_readsDigit_54 ?_
        refine q_gets X (hZ.1 5 (okc (t := 20) 5 (by decide))).1 kw_6_57 dX4_readsDigit_55 ?_
        refine q_iload_n (j := 2) X dX4_readsDigit_58 rfl rfl ?_
        obtain ⟨b_9, h⟩ := h
        refine q_tiald (jn := r_3.toNatClampNeg) (v := .int (stv 5 r_3.toNatClampNeg)) X (hZ.1 _ (okc (t := 20) 5 (by decide))).2 b_9 rfl rfl dX4_readsDigit_59 ?_
        refine q_calli (q_runSN X hK hZ zo [.int y_7, .int (stv 4 r_3.toNatClampNeg), .int (stv 5 r_3.toNatClampNeg)] [] rfl rfl (Nat.le_of_ble_eq_true rfl) dX4_readsDigit_60 ⟨Nat.le_of_ble_eq_true rfl, Nat.le_of_ble_eq_true rfl⟩ (c_X9_isWithin ax y_7 (stv 4 r_3.toNatClampNeg) (stv 5 r_3.toNatClampNeg) mm _ h) rfl rfl (List.mem_of_getElem? (i := 91) rfl) kw_1_1 kw_2_158 kw_2_157 hy_X9_isWithin.2 ⟨Nat.le_of_ble_eq_true rfl, Nat.le_of_ble_eq_true rfl⟩) (fun r_10 m_11 h => ?_)
        obtain ⟨h, hm⟩ := h
        subst hm
        refine q_if_ne (tgt := 68) X dX4_readsDigit_63 (by decide) (fun c_12 => ?_) (fun c_12 => ?_)
        · have h := h.1 c_12
          refine q_aload_n (j := 1) X dX4_readsDigit_68 rfl rfl ?_
          refine q_get (k := 5) (v := .ref (ad 19 1)) X hK rfl rfl (Nat.le_of_ble_eq_true rfl) inTX4 (gc (t := 17) (by decide) (ok1 (t := 17) (Nat.le_of_ble_eq_true rfl))) kw_2_96 rfl (rv_nn (a := ad 19) (r := 1) (ok1 (t := 19) (Nat.le_of_ble_eq_true rfl)).1) dX4_readsDigit_69 ?_
          refine q_aload_n (j := 1) X dX4_readsDigit_72 rfl rfl ?_
          refine q_get (k := 4) (v := .int (mm.1 17 1 4)) X hK rfl rfl (Nat.le_of_ble_eq_true rfl) inTX4 (gc (t := 17) (by decide) (ok1 (t := 17) (Nat.le_of_ble_eq_true rfl))) kw_2_95 rfl rfl dX4_readsDigit_73 ?_
          refine q_iload (j := 0) X dX4_readsDigit_76 rfl ?_
          refine q_iast (t := 19) (i := 1) (jn := (mm.1 17 1 4).toNatClampNeg) X ax hK rfl rfl (gc (t := 19) (by decide) (ok1 (t := 19) (Nat.le_of_ble_eq_true rfl))) rfl b_1 rfl rfl dX4_readsDigit_78 ?_
          refine q_nmP (fun m_13 em_13 => ?_)
          have h := h m_13 em_13
          refine q_iconst (v := 1) X dX4_readsDigit_79 (by decide) ?_
          exact hE _ _ _ _ dX4_readsDigit_80 (Or.inr rfl) h
        · have h := h.2 c_12
          refine q_iconst (v := 0) X dX4_readsDigit_66 (by decide) ?_
          exact hE _ _ _ _ dX4_readsDigit_67 (Or.inl rfl) h
      refine q_icmp_ne (tgt := 40) X dX4_readsDigit_33 (by decide) (fun c_14 => ?_) (fun c_14 => ?_)
      · have h := h.1 c_14
        refine q_bipush (v := 10) X dX4_readsDigit_40 (by decide) ?_
        refine q_iload_n (j := 1) X dX4_readsDigit_42 rfl rfl ?_
        refine q_imul X dX4_readsDigit_43 ?_
        refine q_iload_n (j := 3) X dX4_readsDigit_44 rfl rfl ?_
        refine q_iadd X dX4_readsDigit_45 ?_
        refine q_sub [2, 0] rfl ?_
        exact J46 ((10 * x_2) + p0) h
      · have h := h.2 c_14
        refine q_iload_n (j := 3) X dX4_readsDigit_36 rfl rfl ?_
        refine q_goto (tgt := 46) X dX4_readsDigit_37 (by decide) ?_
        refine q_sub [2, 0] rfl ?_
        exact J46 p0 h
    · have h := h.2 c_6
      refine q_iconst (v := 0) X dX4_readsDigit_29 (by decide) ?_
      exact hE _ _ _ _ dX4_readsDigit_30 (Or.inl rfl) h
theorem dX4_signBefore_0 : decode cX4_signBefore 0 = .ok (.iload_n 0, 1) := by decide +kernel
theorem dX4_signBefore_1 : decode cX4_signBefore 1 = .ok (.bipush 8, 2) := by decide +kernel
theorem dX4_signBefore_3 : decode cX4_signBefore 3 = .ok (.if_icmp .ne 6, 3) := by decide +kernel
theorem dX4_signBefore_6 : decode cX4_signBefore 6 = .ok (.bipush 59, 2) := by decide +kernel
theorem dX4_signBefore_8 : decode cX4_signBefore 8 = .ok (.ireturn, 1) := by decide +kernel
theorem dX4_signBefore_9 : decode cX4_signBefore 9 = .ok (.iload_n 0, 1) := by decide +kernel
theorem dX4_signBefore_10 : decode cX4_signBefore 10 = .ok (.iconst 1, 1) := by decide +kernel
theorem dX4_signBefore_11 : decode cX4_signBefore 11 = .ok (.if_icmp .ne 8, 3) := by decide +kernel
theorem dX4_signBefore_14 : decode cX4_signBefore 14 = .ok (.bipush 62, 2) := by decide +kernel
theorem dX4_signBefore_16 : decode cX4_signBefore 16 = .ok (.goto 5, 3) := by decide +kernel
theorem dX4_signBefore_19 : decode cX4_signBefore 19 = .ok (.bipush 42, 2) := by decide +kernel
theorem dX4_signBefore_21 : decode cX4_signBefore 21 = .ok (.ireturn, 1) := by decide +kernel
def w_X4_signBefore (p0 : Int32) (mm : Mm) (Q9 : Int32 → Prop) : Prop :=
  ((¬ p0 = 8 → ((¬ p0 = 1 → Q9 42) ∧
  (p0 = 1 → Q9 62))) ∧
  (p0 = 8 → Q9 59))
def rm_X4_signBefore : Room := { frames := 0, cells := 0, slots := 0, locals := 0 }
theorem hy_X4_signBefore : yX4_signBefore.cls = RX4 ∧ yX4_signBefore.cls ≠ "java/lang/invoke/MethodHandle" ∧ yX4_signBefore.cls ≠ "java/lang/invoke/VarHandle" ∧ (parseMethodDescriptor yX4_signBefore.desc).map (fun d => d.parameters.length) = some 1 := by decide +kernel
set_option maxRecDepth 100000 in
set_option maxHeartbeats 4000000 in
theorem c_X4_signBefore {l : Launch} {D : va_G} {cA : Nat → ClassId} {ad : Nat → Nat → Nat} {A : Nat → Prop} (ax : Ax ad GC A) (p0 : Int32) (mm : Mm) (Q9 : Int32 → Prop) (h : w_X4_signBefore p0 mm Q9) : Met l yX4_signBefore (.code yX4_signBefore cX4_signBefore 1 (some .int) :: TG) rm_X4_signBefore (PcM TT D cA ad false GC (ZC ad A) [.int p0] mm) (AnsI TT D cA ad false GC A (fun r mm' => Q9 r ∧ mm = mm')) 0 0 A := by
  have zo := ZC_ok ad A
  unfold w_X4_signBefore at h
  refine enterI pl_X4 ⟨rfl, rfl⟩ rfl (Nat.le_of_ble_eq_true rfl) ?_
  intro p e s m args below meth c QQ X hK hZ hnm hE
  refine q_iload_n (j := 0) X dX4_signBefore_0 rfl rfl ?_
  refine q_bipush (v := 8) X dX4_signBefore_1 (by decide) ?_
  refine q_icmp_ne (tgt := 9) X dX4_signBefore_3 (by decide) (fun c_1 => ?_) (fun c_1 => ?_)
  · have h := h.1 c_1
    refine q_iload_n (j := 0) X dX4_signBefore_9 rfl rfl ?_
    refine q_iconst (v := 1) X dX4_signBefore_10 (by decide) ?_
    refine q_icmp_ne (tgt := 19) X dX4_signBefore_11 (by decide) (fun c_2 => ?_) (fun c_2 => ?_)
    · have h := h.1 c_2
      refine q_bipush (v := 42) X dX4_signBefore_19 (by decide) ?_
      exact hE _ _ _ _ dX4_signBefore_21 ⟨h, rfl⟩
    · have h := h.2 c_2
      refine q_bipush (v := 62) X dX4_signBefore_14 (by decide) ?_
      refine q_goto (tgt := 21) X dX4_signBefore_16 (by decide) ?_
      exact hE _ _ _ _ dX4_signBefore_21 ⟨h, rfl⟩
  · have h := h.2 c_1
    refine q_bipush (v := 59) X dX4_signBefore_6 (by decide) ?_
    exact hE _ _ _ _ dX4_signBefore_8 ⟨h, rfl⟩
theorem dX4_reads_0 : decode cX4_reads 0 = .ok (.aload_n 0, 1) := by decide +kernel
theorem dX4_reads_1 : decode cX4_reads 1 = .ok (.getfield 37, 3) := by decide +kernel
theorem dX4_reads_4 : decode cX4_reads 4 = .ok (.ifnonnull 29, 3) := by decide +kernel
theorem dX4_reads_7 : decode cX4_reads 7 = .ok (.aload_n 0, 1) := by decide +kernel
theorem dX4_reads_8 : decode cX4_reads 8 = .ok (.iload_n 1, 1) := by decide +kernel
theorem dX4_reads_9 : decode cX4_reads 9 = .ok (.putfield 51, 3) := by decide +kernel
theorem dX4_reads_12 : decode cX4_reads 12 = .ok (.aload_n 0, 1) := by decide +kernel
theorem dX4_reads_13 : decode cX4_reads 13 = .ok (.iload_n 1, 1) := by decide +kernel
theorem dX4_reads_14 : decode cX4_reads 14 = .ok (.invokestatic 54, 3) := by decide +kernel
theorem dX4_reads_17 : decode cX4_reads 17 = .ok (.putfield 37, 3) := by decide +kernel
theorem dX4_reads_20 : decode cX4_reads 20 = .ok (.aload_n 0, 1) := by decide +kernel
theorem dX4_reads_21 : decode cX4_reads 21 = .ok (.getfield 37, 3) := by decide +kernel
theorem dX4_reads_24 : decode cX4_reads 24 = .ok (.ifnull 7, 3) := by decide +kernel
theorem dX4_reads_27 : decode cX4_reads 27 = .ok (.iconst 1, 1) := by decide +kernel
theorem dX4_reads_28 : decode cX4_reads 28 = .ok (.goto 4, 3) := by decide +kernel
theorem dX4_reads_31 : decode cX4_reads 31 = .ok (.iconst 0, 1) := by decide +kernel
theorem dX4_reads_32 : decode cX4_reads 32 = .ok (.ireturn, 1) := by decide +kernel
theorem dX4_reads_33 : decode cX4_reads 33 = .ok (.iload_n 1, 1) := by decide +kernel
theorem dX4_reads_34 : decode cX4_reads 34 = .ok (.bipush 48, 2) := by decide +kernel
theorem dX4_reads_36 : decode cX4_reads 36 = .ok (.if_icmp .lt 18, 3) := by decide +kernel
theorem dX4_reads_39 : decode cX4_reads 39 = .ok (.iload_n 1, 1) := by decide +kernel
theorem dX4_reads_40 : decode cX4_reads 40 = .ok (.bipush 57, 2) := by decide +kernel
theorem dX4_reads_42 : decode cX4_reads 42 = .ok (.if_icmp .gt 12, 3) := by decide +kernel
theorem dX4_reads_45 : decode cX4_reads 45 = .ok (.aload_n 0, 1) := by decide +kernel
theorem dX4_reads_46 : decode cX4_reads 46 = .ok (.iload_n 1, 1) := by decide +kernel
theorem dX4_reads_47 : decode cX4_reads 47 = .ok (.bipush 48, 2) := by decide +kernel
theorem dX4_reads_49 : decode cX4_reads 49 = .ok (.isub, 1) := by decide +kernel
theorem dX4_reads_50 : decode cX4_reads 50 = .ok (.invokevirtual 58, 3) := by decide +kernel
theorem dX4_reads_53 : decode cX4_reads 53 = .ok (.ireturn, 1) := by decide +kernel
theorem dX4_reads_54 : decode cX4_reads 54 = .ok (.aload_n 0, 1) := by decide +kernel
theorem dX4_reads_55 : decode cX4_reads 55 = .ok (.getfield 15, 3) := by decide +kernel
theorem dX4_reads_58 : decode cX4_reads 58 = .ok (.aload_n 0, 1) := by decide +kernel
theorem dX4_reads_59 : decode cX4_reads 59 = .ok (.getfield 44, 3) := by decide +kernel
theorem dX4_reads_62 : decode cX4_reads 62 = .ok (.iaload, 1) := by decide +kernel
theorem dX4_reads_63 : decode cX4_reads 63 = .ok (.iconst (-1), 1) := by decide +kernel
theorem dX4_reads_64 : decode cX4_reads 64 = .ok (.if_icmp .eq 20, 3) := by decide +kernel
theorem dX4_reads_67 : decode cX4_reads 67 = .ok (.iload_n 1, 1) := by decide +kernel
theorem dX4_reads_68 : decode cX4_reads 68 = .ok (.aload_n 0, 1) := by decide +kernel
theorem dX4_reads_69 : decode cX4_reads 69 = .ok (.aload_n 0, 1) := by decide +kernel
theorem dX4_reads_70 : decode cX4_reads 70 = .ok (.getfield 44, 3) := by decide +kernel
theorem dX4_reads_73 : decode cX4_reads 73 = .ok (.iconst 1, 1) := by decide +kernel
theorem dX4_reads_74 : decode cX4_reads 74 = .ok (.iadd, 1) := by decide +kernel
theorem dX4_reads_75 : decode cX4_reads 75 = .ok (.invokevirtual 47, 3) := by decide +kernel
theorem dX4_reads_78 : decode cX4_reads 78 = .ok (.invokestatic 61, 3) := by decide +kernel
theorem dX4_reads_81 : decode cX4_reads 81 = .ok (.if_icmp .eq 5, 3) := by decide +kernel
theorem dX4_reads_84 : decode cX4_reads 84 = .ok (.iconst 0, 1) := by decide +kernel
theorem dX4_reads_85 : decode cX4_reads 85 = .ok (.ireturn, 1) := by decide +kernel
theorem dX4_reads_86 : decode cX4_reads 86 = .ok (.iload_n 1, 1) := by decide +kernel
theorem dX4_reads_87 : decode cX4_reads 87 = .ok (.bipush 59, 2) := by decide +kernel
theorem dX4_reads_89 : decode cX4_reads 89 = .ok (.if_icmp .ne 10, 3) := by decide +kernel
theorem dX4_reads_92 : decode cX4_reads 92 = .ok (.aload_n 0, 1) := by decide +kernel
theorem dX4_reads_93 : decode cX4_reads 93 = .ok (.invokevirtual 22, 3) := by decide +kernel
theorem dX4_reads_96 : decode cX4_reads 96 = .ok (.goto 13, 3) := by decide +kernel
theorem dX4_reads_99 : decode cX4_reads 99 = .ok (.aload_n 0, 1) := by decide +kernel
theorem dX4_reads_100 : decode cX4_reads 100 = .ok (.aload_n 0, 1) := by decide +kernel
theorem dX4_reads_101 : decode cX4_reads 101 = .ok (.getfield 44, 3) := by decide +kernel
theorem dX4_reads_104 : decode cX4_reads 104 = .ok (.iconst 1, 1) := by decide +kernel
theorem dX4_reads_105 : decode cX4_reads 105 = .ok (.iadd, 1) := by decide +kernel
theorem dX4_reads_106 : decode cX4_reads 106 = .ok (.invokevirtual 40, 3) := by decide +kernel
theorem dX4_reads_109 : decode cX4_reads 109 = .ok (.iconst 1, 1) := by decide +kernel
theorem dX4_reads_110 : decode cX4_reads 110 = .ok (.ireturn, 1) := by decide +kernel
def w_X4_reads_J54 (p0 : Int32) (mm : Mm) (Q9 : Int32 → Mm → Prop) : Prop :=
  vp_in (mm.1 17 1 4) 4 ∧ ((((mm.1 19 1 (mm.1 17 1 4).toNatClampNeg) = (-1) → Q9 0 mm) ∧
  (¬ (mm.1 19 1 (mm.1 17 1 4).toNatClampNeg) = (-1) → w_X4_sortAt ((mm.1 17 1 4) + 1) mm (fun (r_4 : Int32) => w_X4_signBefore r_4 mm (fun (r_6 : Int32) => ((p0 = r_6 → ((¬ p0 = 59 → w_X4_startNumber ((mm.1 17 1 4) + 1) mm (fun (m_11 : Mm) => Q9 1 m_11)) ∧
  (p0 = 59 → w_X4_startLine mm (fun (m_13 : Mm) => Q9 1 m_13)))) ∧
  (¬ p0 = r_6 → Q9 0 mm)))))))
def w_X4_reads (p0 : Int32) (mm : Mm) (Q9 : Int32 → Mm → Prop) : Prop :=
  ((¬ (mm.2 17 1 3) = 0 → ((p0 < 48 → w_X4_reads_J54 p0 mm Q9) ∧
  (¬ p0 < 48 → ((57 < p0 → w_X4_reads_J54 p0 mm Q9) ∧
  (¬ 57 < p0 → w_X4_readsDigit (p0 - 48) mm (fun (r_16 : Int32) (m_17 : Mm) => isB r_16 ∧ Q9 r_16 m_17)))))) ∧
  ((mm.2 17 1 3) = 0 → ∀ m_19 : Mm, m_19 = sI mm 17 1 2 p0 → (w_X4_formOf p0 m_19 (fun (r_20 : Nat) => ∀ m_22 : Mm, m_22 = sR m_19 17 1 3 r_20 → ((((m_22.2 17 1 3) = 0 → Q9 0 m_22) ∧
  (¬ (m_22.2 17 1 3) = 0 → Q9 1 m_22)))))))
def rm_X4_reads : Room := { frames := 2, cells := 0, slots := 0, locals := 46 }
theorem hy_X4_reads : yX4_reads.cls = RX4 ∧ yX4_reads.cls ≠ "java/lang/invoke/MethodHandle" ∧ yX4_reads.cls ≠ "java/lang/invoke/VarHandle" ∧ (parseMethodDescriptor yX4_reads.desc).map (fun d => d.parameters.length) = some 1 := by decide +kernel
set_option maxRecDepth 100000 in
set_option maxHeartbeats 4000000 in
theorem c_X4_reads {l : Launch} {D : va_G} {cA : Nat → ClassId} {ad : Nat → Nat → Nat} {A : Nat → Prop} (ax : Ax ad GC A) (p0 : Int32) (mm : Mm) (Q9 : Int32 → Mm → Prop) (h : w_X4_reads p0 mm Q9) : Met l yX4_reads (.code yX4_reads cX4_reads 2 (some .boolean) :: TG) rm_X4_reads (PcM TT D cA ad false GC (ZC ad A) [.ref (ad 17 1), .int p0] mm) (AnsI TT D cA ad false GC A Q9) 0 0 A := by
  have zo := ZC_ok ad A
  unfold w_X4_reads at h
  refine enterZ pl_X4 ⟨rfl, rfl⟩ rfl (Nat.le_of_ble_eq_true rfl) ?_
  intro p e s m args below meth c QQ X hK hZ hnm hE
  refine q_aload_n (j := 0) X dX4_reads_0 rfl rfl ?_
  refine q_get (k := 3) (v := rv (ad 20) (mm.2 17 1 3)) X hK rfl rfl (Nat.le_of_ble_eq_true rfl) inTX4 (gc (t := 17) (by decide) (ok1 (t := 17) (Nat.le_of_ble_eq_true rfl))) kw_2_94 rfl rfl dX4_reads_1 ?_
  refine q_ifnonnull (tgt := 33) X dX4_reads_4 (by decide) (fun c_1 => ?_) (fun c_1 => ?_)
  · have h := h.1 c_1
    refine q_iload_n (j := 1) X dX4_reads_33 rfl rfl ?_
    refine q_bipush (v := 48) X dX4_reads_34 (by decide) ?_
    have J54 : w_X4_reads_J54 p0 mm Q9  → V p l e rm_X4_reads s m args below meth c QQ 2 A 0 0 (Rep TT D cA ad false GC mm) 54 [(0, .ref (ad 17 1)), (1, .int p0)] [] := by
      intro  h
      unfold w_X4_reads_J54 at h
      refine q_aload_n (j := 0) X dX4_reads_54 rfl rfl ?_
      refine q_get (k := 5) (v := .ref (ad 19 1)) X hK rfl rfl (Nat.le_of_ble_eq_true rfl) inTX4 (gc (t := 17) (by decide) (ok1 (t := 17) (Nat.le_of_ble_eq_true rfl))) kw_2_96 rfl (rv_nn (a := ad 19) (r := 1) (ok1 (t := 19) (Nat.le_of_ble_eq_true rfl)).1) dX4_reads_55 ?_
      refine q_aload_n (j := 0) X dX4_reads_58 rfl rfl ?_
      refine q_get (k := 4) (v := .int (mm.1 17 1 4)) X hK rfl rfl (Nat.le_of_ble_eq_true rfl) inTX4 (gc (t := 17) (by decide) (ok1 (t := 17) (Nat.le_of_ble_eq_true rfl))) kw_2_95 rfl rfl dX4_reads_59 ?_
      obtain ⟨b_2, h⟩ := h
      refine q_iald (t := 19) (i := 1) (jn := (mm.1 17 1 4).toNatClampNeg) (v := .int (mm.1 19 1 (mm.1 17 1 4).toNatClampNeg)) X hK rfl rfl (gc (t := 19) (by decide) (ok1 (t := 19) (Nat.le_of_ble_eq_true rfl))) rfl b_2 rfl rfl dX4_reads_62 ?_
      refine q_iconst (v := (-1)) X dX4_reads_63 (by decide) ?_
      refine q_icmp_eq (tgt := 84) X dX4_reads_64 (by decide) (fun c_3 => ?_) (fun c_3 => ?_)
      · have h := h.1 c_3
        refine q_iconst (v := 0) X dX4_reads_84 (by decide) ?_
        exact hE _ _ _ _ dX4_reads_85 (Or.inl rfl) h
      · have h := h.2 c_3
        refine q_iload_n (j := 1) X dX4_reads_67 rfl rfl ?_
        refine q_aload_n (j := 0) X dX4_reads_68 rfl rfl ?_
        refine q_aload_n (j := 0) X dX4_reads_69 rfl rfl ?_
        refine q_get (k := 4) (v := .int (mm.1 17 1 4)) X hK rfl rfl (Nat.le_of_ble_eq_true rfl) inTX4 (gc (t := 17) (by decide) (ok1 (t := 17) (Nat.le_of_ble_eq_true rfl))) kw_2_95 rfl rfl dX4_reads_70 ?_
        refine q_iconst (v := 1) X dX4_reads_73 (by decide) ?_
        refine q_iadd X dX4_reads_74 ?_
        refine q_calli (q_runV X hK hZ zo (gc (t := 17) (by decide) (ok1 (t := 17) (Nat.le_of_ble_eq_true rfl))) rfl rfl [.int ((mm.1 17 1 4) + 1)] [.int p0] rfl rfl (Nat.le_of_ble_eq_true rfl) dX4_reads_75 ⟨Nat.le_of_ble_eq_true rfl, Nat.le_of_ble_eq_true rfl⟩ (c_X4_sortAt ax ((mm.1 17 1 4) + 1) mm _ h) rfl rfl (gV kw_6_51 kw_6_53 ks_76 kw_1_10 kw_6_54) hy_X4_sortAt ⟨Nat.le_of_ble_eq_true rfl, Nat.le_of_ble_eq_true rfl⟩) (fun r_4 m_5 h => ?_)
        obtain ⟨h, hm⟩ := h
        subst hm
        refine q_calli (q_runS X hK hZ zo [.int r_4] [.int p0] rfl rfl (Nat.le_of_ble_eq_true rfl) dX4_reads_78 ⟨Nat.le_of_ble_eq_true rfl, Nat.le_of_ble_eq_true rfl⟩ (c_X4_signBefore ax r_4 mm _ h) rfl rfl (gS kw_6_60 kw_6_61 kw_1_10 kw_6_62) hy_X4_signBefore.2 ⟨Nat.le_of_ble_eq_true rfl, Nat.le_of_ble_eq_true rfl⟩) (fun r_6 m_7 h => ?_)
        obtain ⟨h, hm⟩ := h
        subst hm
        refine q_icmp_eq (tgt := 86) X dX4_reads_81 (by decide) (fun c_8 => ?_) (fun c_8 => ?_)
        · have h := h.1 c_8
          refine q_iload_n (j := 1) X dX4_reads_86 rfl rfl ?_
          refine q_bipush (v := 59) X dX4_reads_87 (by decide) ?_
          refine q_icmp_ne (tgt := 99) X dX4_reads_89 (by decide) (fun c_9 => ?_) (fun c_9 => ?_)
          · have h := h.1 c_9
            refine q_aload_n (j := 0) X dX4_reads_99 rfl rfl ?_
            refine q_aload_n (j := 0) X dX4_reads_100 rfl rfl ?_
            refine q_get (k := 4) (v := .int (mm.1 17 1 4)) X hK rfl rfl (Nat.le_of_ble_eq_true rfl) inTX4 (gc (t := 17) (by decide) (ok1 (t := 17) (Nat.le_of_ble_eq_true rfl))) kw_2_95 rfl rfl dX4_reads_101 ?_
            refine q_iconst (v := 1) X dX4_reads_104 (by decide) ?_
            refine q_iadd X dX4_reads_105 ?_
            refine q_callv (q_runV X hK hZ zo (gc (t := 17) (by decide) (ok1 (t := 17) (Nat.le_of_ble_eq_true rfl))) rfl rfl [.int ((mm.1 17 1 4) + 1)] [] rfl rfl (Nat.le_of_ble_eq_true rfl) dX4_reads_106 ⟨Nat.le_of_ble_eq_true rfl, Nat.le_of_ble_eq_true rfl⟩ (c_X4_startNumber ax ((mm.1 17 1 4) + 1) mm _ h) rfl rfl (gV kw_6_22 kw_6_24 ks_73 kw_1_10 kw_6_25) hy_X4_startNumber ⟨Nat.le_of_ble_eq_true rfl, Nat.le_of_ble_eq_true rfl⟩) (fun m_11 h => ?_)
            refine q_iconst (v := 1) X dX4_reads_109 (by decide) ?_
            exact hE _ _ _ _ dX4_reads_110 (Or.inr rfl) h
          · have h := h.2 c_9
            refine q_aload_n (j := 0) X dX4_reads_92 rfl rfl ?_
            refine q_callv (q_runV X hK hZ zo (gc (t := 17) (by decide) (ok1 (t := 17) (Nat.le_of_ble_eq_true rfl))) rfl rfl [] [] rfl rfl (Nat.le_of_ble_eq_true rfl) dX4_reads_93 ⟨Nat.le_of_ble_eq_true rfl, Nat.le_of_ble_eq_true rfl⟩ (c_X4_startLine ax mm _ h) rfl rfl (gV kw_6_18 kw_6_20 ks_72 kw_1_10 kw_6_21) hy_X4_startLine ⟨Nat.le_of_ble_eq_true rfl, Nat.le_of_ble_eq_true rfl⟩) (fun m_13 h => ?_)
            refine q_goto (tgt := 109) X dX4_reads_96 (by decide) ?_
            refine q_iconst (v := 1) X dX4_reads_109 (by decide) ?_
            exact hE _ _ _ _ dX4_reads_110 (Or.inr rfl) h
        · have h := h.2 c_8
          refine q_iconst (v := 0) X dX4_reads_84 (by decide) ?_
          exact hE _ _ _ _ dX4_reads_85 (Or.inl rfl) h
    refine q_icmp_lt (tgt := 54) X dX4_reads_36 (by decide) (fun c_14 => ?_) (fun c_14 => ?_)
    · have h := h.1 c_14
      refine q_sub [0, 1] rfl ?_
      exact J54  h
    · have h := h.2 c_14
      refine q_iload_n (j := 1) X dX4_reads_39 rfl rfl ?_
      refine q_bipush (v := 57) X dX4_reads_40 (by decide) ?_
      refine q_icmp_gt (tgt := 54) X dX4_reads_42 (by decide) (fun c_15 => ?_) (fun c_15 => ?_)
      · have h := h.1 c_15
        refine q_sub [0, 1] rfl ?_
        exact J54  h
      · have h := h.2 c_15
        refine q_aload_n (j := 0) X dX4_reads_45 rfl rfl ?_
        refine q_iload_n (j := 1) X dX4_reads_46 rfl rfl ?_
        refine q_bipush (v := 48) X dX4_reads_47 (by decide) ?_
        refine q_isub X dX4_reads_49 ?_
        refine q_calli (q_runV X hK hZ zo (gc (t := 17) (by decide) (ok1 (t := 17) (Nat.le_of_ble_eq_true rfl))) rfl rfl [.int (p0 - 48)] [] rfl rfl (Nat.le_of_ble_eq_true rfl) dX4_reads_50 ⟨Nat.le_of_ble_eq_true rfl, Nat.le_of_ble_eq_true rfl⟩ (c_X4_readsDigit ax (p0 - 48) mm _ h) rfl rfl (gV kw_6_47 kw_6_49 ks_75 kw_1_10 kw_6_50) hy_X4_readsDigit ⟨Nat.le_of_ble_eq_true rfl, Nat.le_of_ble_eq_true rfl⟩) (fun r_16 m_17 h => ?_)
        obtain ⟨b_18, h⟩ := h
        exact hE _ _ _ _ dX4_reads_53 b_18 h
  · have h := h.2 c_1
    refine q_aload_n (j := 0) X dX4_reads_7 rfl rfl ?_
    refine q_iload_n (j := 1) X dX4_reads_8 rfl rfl ?_
    refine q_putI (k := 2) X ax hK rfl rfl (Nat.le_of_ble_eq_true rfl) inTX4 (gc (t := 17) (by decide) (ok1 (t := 17) (Nat.le_of_ble_eq_true rfl))) tyX4 tyX4_ok nmX4 kw_2_92 rfl rfl (tyX4_ok 2 (Nat.le_of_ble_eq_true rfl)) rfl dX4_reads_9 ?_
    refine q_nmP (fun m_19 em_19 => ?_)
    have h := h m_19 em_19
    refine q_aload_n (j := 0) X dX4_reads_12 rfl rfl ?_
    refine q_iload_n (j := 1) X dX4_reads_13 rfl rfl ?_
    refine q_callr (q_runS X hK hZ zo [.int p0] [.ref (ad 17 1)] rfl rfl (Nat.le_of_ble_eq_true rfl) dX4_reads_14 ⟨Nat.le_of_ble_eq_true rfl, Nat.le_of_ble_eq_true rfl⟩ (c_X4_formOf ax p0 m_19 _ h) rfl rfl (gS kw_6_30 kw_6_31 kw_1_10 kw_6_32) hy_X4_formOf.2 ⟨Nat.le_of_ble_eq_true rfl, Nat.le_of_ble_eq_true rfl⟩) (fun r_20 m_21 h => ?_)
    obtain ⟨h, hm⟩ := h
    subst hm
    refine q_putR (r := r_20) (k := 3) X ax hK rfl rfl (Nat.le_of_ble_eq_true rfl) inTX4 (gc (t := 17) (by decide) (ok1 (t := 17) (Nat.le_of_ble_eq_true rfl))) tyX4 tyX4_ok nmX4 kw_2_94 rfl rfl (tyX4_ok 3 (Nat.le_of_ble_eq_true rfl)) (Or.inr ⟨_, rfl⟩) rfl rfl rfl dX4_reads_17 ?_
    refine q_nmP (fun m_22 em_22 => ?_)
    have h := h m_22 em_22
    refine q_aload_n (j := 0) X dX4_reads_20 rfl rfl ?_
    refine q_get (k := 3) (v := rv (ad 20) (m_22.2 17 1 3)) X hK rfl rfl (Nat.le_of_ble_eq_true rfl) inTX4 (gc (t := 17) (by decide) (ok1 (t := 17) (Nat.le_of_ble_eq_true rfl))) kw_2_94 rfl rfl dX4_reads_21 ?_
    refine q_ifnull (tgt := 31) X dX4_reads_24 (by decide) (fun c_23 => ?_) (fun c_23 => ?_)
    · have h := h.1 c_23
      refine q_iconst (v := 0) X dX4_reads_31 (by decide) ?_
      exact hE _ _ _ _ dX4_reads_32 (Or.inl rfl) h
    · have h := h.2 c_23
      refine q_iconst (v := 1) X dX4_reads_27 (by decide) ?_
      refine q_goto (tgt := 32) X dX4_reads_28 (by decide) ?_
      exact hE _ _ _ _ dX4_reads_32 (Or.inr rfl) h
theorem dX4_firstWrong_0 : decode cX4_firstWrong 0 = .ok (.aload_n 0, 1) := by decide +kernel
theorem dX4_firstWrong_1 : decode cX4_firstWrong 1 = .ok (.invokevirtual 22, 3) := by decide +kernel
theorem dX4_firstWrong_4 : decode cX4_firstWrong 4 = .ok (.iconst 0, 1) := by decide +kernel
theorem dX4_firstWrong_5 : decode cX4_firstWrong 5 = .ok (.istore_n 1, 1) := by decide +kernel
theorem dX4_firstWrong_6 : decode cX4_firstWrong 6 = .ok (.iload_n 1, 1) := by decide +kernel
theorem dX4_firstWrong_7 : decode cX4_firstWrong 7 = .ok (.aload_n 0, 1) := by decide +kernel
theorem dX4_firstWrong_8 : decode cX4_firstWrong 8 = .ok (.getfield 18, 3) := by decide +kernel
theorem dX4_firstWrong_11 : decode cX4_firstWrong 11 = .ok (.if_icmp .ge 24, 3) := by decide +kernel
theorem dX4_firstWrong_14 : decode cX4_firstWrong 14 = .ok (.aload_n 0, 1) := by decide +kernel
theorem dX4_firstWrong_15 : decode cX4_firstWrong 15 = .ok (.aload_n 0, 1) := by decide +kernel
theorem dX4_firstWrong_16 : decode cX4_firstWrong 16 = .ok (.getfield 9, 3) := by decide +kernel
theorem dX4_firstWrong_19 : decode cX4_firstWrong 19 = .ok (.iload_n 1, 1) := by decide +kernel
theorem dX4_firstWrong_20 : decode cX4_firstWrong 20 = .ok (.iaload, 1) := by decide +kernel
theorem dX4_firstWrong_21 : decode cX4_firstWrong 21 = .ok (.invokevirtual 25, 3) := by decide +kernel
theorem dX4_firstWrong_24 : decode cX4_firstWrong 24 = .ok (.ifCond .ne 5, 3) := by decide +kernel
theorem dX4_firstWrong_27 : decode cX4_firstWrong 27 = .ok (.iload_n 1, 1) := by decide +kernel
theorem dX4_firstWrong_28 : decode cX4_firstWrong 28 = .ok (.ireturn, 1) := by decide +kernel
theorem dX4_firstWrong_29 : decode cX4_firstWrong 29 = .ok (.iinc 1 1, 3) := by decide +kernel
theorem dX4_firstWrong_32 : decode cX4_firstWrong 32 = .ok (.goto (-26), 3) := by decide +kernel
theorem dX4_firstWrong_35 : decode cX4_firstWrong 35 = .ok (.aload_n 0, 1) := by decide +kernel
theorem dX4_firstWrong_36 : decode cX4_firstWrong 36 = .ok (.getfield 18, 3) := by decide +kernel
theorem dX4_firstWrong_39 : decode cX4_firstWrong 39 = .ok (.ireturn, 1) := by decide +kernel
def w_X4_firstWrong_B6 (Q9 : Int32 → Mm → Prop) (K_5 : Int32 → Mm → Prop) (y_3 : Int32) (m_4 : Mm) : Prop :=
  (((m_4.1 17 1 1) ≤ y_3 → Q9 (m_4.1 17 1 1) m_4) ∧
  (¬ (m_4.1 17 1 1) ≤ y_3 → vp_in y_3 60 ∧ (w_X4_reads (m_4.1 18 1 y_3.toNatClampNeg) m_4 (fun (r_9 : Int32) (m_10 : Mm) => ((¬ r_9 = 0 → ∀ x_12 : Int32, x_12 = y_3 + 1 → (K_5 x_12 m_10)) ∧
  (r_9 = 0 → Q9 y_3 m_10))))))
def w_X4_firstWrong  (mm : Mm) (Q9 : Int32 → Mm → Prop) : Prop :=
  w_X4_startLine mm (fun (m_2 : Mm) => ∃ n, itr (α := Int32 × Mm) (fun K a => w_X4_firstWrong_B6 Q9 (fun z0 z1 => K (z0, z1)) a.1 a.2) n (0, m_2))
def rm_X4_firstWrong : Room := { frames := 3, cells := 0, slots := 0, locals := 67 }
theorem hy_X4_firstWrong : yX4_firstWrong.cls = RX4 ∧ yX4_firstWrong.cls ≠ "java/lang/invoke/MethodHandle" ∧ yX4_firstWrong.cls ≠ "java/lang/invoke/VarHandle" ∧ (parseMethodDescriptor yX4_firstWrong.desc).map (fun d => d.parameters.length) = some 0 := by decide +kernel
set_option maxRecDepth 100000 in
set_option maxHeartbeats 4000000 in
theorem c_X4_firstWrong {l : Launch} {D : va_G} {cA : Nat → ClassId} {ad : Nat → Nat → Nat} {A : Nat → Prop} (ax : Ax ad GC A)  (mm : Mm) (Q9 : Int32 → Mm → Prop) (h : w_X4_firstWrong mm Q9) : Met l yX4_firstWrong (.code yX4_firstWrong cX4_firstWrong 2 (some .int) :: TG) rm_X4_firstWrong (PcM TT D cA ad false GC (ZC ad A) [.ref (ad 17 1)] mm) (AnsI TT D cA ad false GC A Q9) 0 0 A := by
  have zo := ZC_ok ad A
  unfold w_X4_firstWrong at h
  refine enterI pl_X4 ⟨rfl, rfl⟩ rfl (Nat.le_of_ble_eq_true rfl) ?_
  intro p e s m args below meth c QQ X hK hZ hnm hE
  refine q_aload_n (j := 0) X dX4_firstWrong_0 rfl rfl ?_
  refine q_callv (q_runV X hK hZ zo (gc (t := 17) (by decide) (ok1 (t := 17) (Nat.le_of_ble_eq_true rfl))) rfl rfl [] [] rfl rfl (Nat.le_of_ble_eq_true rfl) dX4_firstWrong_1 ⟨Nat.le_of_ble_eq_true rfl, Nat.le_of_ble_eq_true rfl⟩ (c_X4_startLine ax mm _ h) rfl rfl (gV kw_6_18 kw_6_20 ks_72 kw_1_10 kw_6_21) hy_X4_startLine ⟨Nat.le_of_ble_eq_true rfl, Nat.le_of_ble_eq_true rfl⟩) (fun m_2 h => ?_)
  refine q_iconst (v := 0) X dX4_firstWrong_4 (by decide) ?_
  refine q_istore_n (lv' := [(1, .int 0), (0, .ref (ad 17 1))]) X dX4_firstWrong_5 rfl (by decide) rfl ?_
  refine q_sub [1, 0] rfl ?_
  have L6 : ∀ (n : Nat) (y_3 : Int32) (m_4 : Mm), itr (α := Int32 × Mm) (fun K a => w_X4_firstWrong_B6 Q9 (fun z0 z1 => K (z0, z1)) a.1 a.2) n (y_3, m_4) → V p l e rm_X4_firstWrong s m args below meth c QQ 2 A 0 0 (Rep TT D cA ad false GC m_4) 6 [(0, .ref (ad 17 1)), (1, .int y_3)] [] := by
    intro n
    induction n with
    | zero => intro y_3 m_4 h; exact h.elim
    | succ n ih_6 =>
      intro y_3 m_4 h
      have h : w_X4_firstWrong_B6 Q9 (fun z0 z1 => itr (α := Int32 × Mm) (fun K a => w_X4_firstWrong_B6 Q9 (fun z0 z1 => K (z0, z1)) a.1 a.2) n (z0, z1)) y_3 m_4 := h
      unfold w_X4_firstWrong_B6 at h
      refine q_iload_n (j := 1) X dX4_firstWrong_6 rfl rfl ?_
      refine q_aload_n (j := 0) X dX4_firstWrong_7 rfl rfl ?_
      refine q_get (k := 1) (v := .int (m_4.1 17 1 1)) X hK rfl rfl (Nat.le_of_ble_eq_true rfl) inTX4 (gc (t := 17) (by decide) (ok1 (t := 17) (Nat.le_of_ble_eq_true rfl))) kw_2_90 rfl rfl dX4_firstWrong_8 ?_
      refine q_icmp_ge (tgt := 35) X dX4_firstWrong_11 (by decide) (fun c_7 => ?_) (fun c_7 => ?_)
      · have h := h.1 c_7
        refine q_aload_n (j := 0) X dX4_firstWrong_35 rfl rfl ?_
        refine q_get (k := 1) (v := .int (m_4.1 17 1 1)) X hK rfl rfl (Nat.le_of_ble_eq_true rfl) inTX4 (gc (t := 17) (by decide) (ok1 (t := 17) (Nat.le_of_ble_eq_true rfl))) kw_2_90 rfl rfl dX4_firstWrong_36 ?_
        exact hE _ _ _ _ dX4_firstWrong_39 h
      · have h := h.2 c_7
        refine q_aload_n (j := 0) X dX4_firstWrong_14 rfl rfl ?_
        refine q_aload_n (j := 0) X dX4_firstWrong_15 rfl rfl ?_
        refine q_get (k := 0) (v := .ref (ad 18 1)) X hK rfl rfl (Nat.le_of_ble_eq_true rfl) inTX4 (gc (t := 17) (by decide) (ok1 (t := 17) (Nat.le_of_ble_eq_true rfl))) kw_2_88 rfl (rv_nn (a := ad 18) (r := 1) (ok1 (t := 18) (Nat.le_of_ble_eq_true rfl)).1) dX4_firstWrong_16 ?_
        refine q_iload_n (j := 1) X dX4_firstWrong_19 rfl rfl ?_
        obtain ⟨b_8, h⟩ := h
        refine q_iald (t := 18) (i := 1) (jn := y_3.toNatClampNeg) (v := .int (m_4.1 18 1 y_3.toNatClampNeg)) X hK rfl rfl (gc (t := 18) (by decide) (ok1 (t := 18) (Nat.le_of_ble_eq_true rfl))) rfl b_8 rfl rfl dX4_firstWrong_20 ?_
        refine q_calli (q_runV X hK hZ zo (gc (t := 17) (by decide) (ok1 (t := 17) (Nat.le_of_ble_eq_true rfl))) rfl rfl [.int (m_4.1 18 1 y_3.toNatClampNeg)] [] rfl rfl (Nat.le_of_ble_eq_true rfl) dX4_firstWrong_21 ⟨Nat.le_of_ble_eq_true rfl, Nat.le_of_ble_eq_true rfl⟩ (c_X4_reads ax (m_4.1 18 1 y_3.toNatClampNeg) m_4 _ h) rfl rfl (gV kw_6_26 kw_6_28 ks_74 kw_1_10 kw_6_29) hy_X4_reads ⟨Nat.le_of_ble_eq_true rfl, Nat.le_of_ble_eq_true rfl⟩) (fun r_9 m_10 h => ?_)
        refine q_if_ne (tgt := 29) X dX4_firstWrong_24 (by decide) (fun c_11 => ?_) (fun c_11 => ?_)
        · have h := h.1 c_11
          obtain ⟨x_12, ex_12⟩ : ∃ z : Int32, z = y_3 + 1 := ⟨_, rfl⟩
          have h := h x_12 ex_12
          refine q_iinc (j := 1) (v := x_12) (lv' := [(1, .int x_12), (0, .ref (ad 17 1))]) X dX4_firstWrong_29 rfl (by rw [ex_12]; rfl) (by decide) rfl ?_
          refine q_goto (tgt := 6) X dX4_firstWrong_32 (by decide) ?_
          refine q_sub [1, 0] rfl ?_
          exact ih_6 x_12 m_10 h
        · have h := h.2 c_11
          refine q_iload_n (j := 1) X dX4_firstWrong_27 rfl rfl ?_
          exact hE _ _ _ _ dX4_firstWrong_28 h
  obtain ⟨n_13, h⟩ := h
  exact L6 n_13 0 m_2 h
theorem dX4_isLineComplete_0 : decode cX4_isLineComplete 0 = .ok (.aload_n 0, 1) := by decide +kernel
theorem dX4_isLineComplete_1 : decode cX4_isLineComplete 1 = .ok (.getfield 37, 3) := by decide +kernel
theorem dX4_isLineComplete_4 : decode cX4_isLineComplete 4 = .ok (.ifnull 35, 3) := by decide +kernel
theorem dX4_isLineComplete_7 : decode cX4_isLineComplete 7 = .ok (.aload_n 0, 1) := by decide +kernel
theorem dX4_isLineComplete_8 : decode cX4_isLineComplete 8 = .ok (.getfield 15, 3) := by decide +kernel
theorem dX4_isLineComplete_11 : decode cX4_isLineComplete 11 = .ok (.aload_n 0, 1) := by decide +kernel
theorem dX4_isLineComplete_12 : decode cX4_isLineComplete 12 = .ok (.getfield 44, 3) := by decide +kernel
theorem dX4_isLineComplete_15 : decode cX4_isLineComplete 15 = .ok (.iaload, 1) := by decide +kernel
theorem dX4_isLineComplete_16 : decode cX4_isLineComplete 16 = .ok (.iconst (-1), 1) := by decide +kernel
theorem dX4_isLineComplete_17 : decode cX4_isLineComplete 17 = .ok (.if_icmp .eq 22, 3) := by decide +kernel
theorem dX4_isLineComplete_20 : decode cX4_isLineComplete 20 = .ok (.aload_n 0, 1) := by decide +kernel
theorem dX4_isLineComplete_21 : decode cX4_isLineComplete 21 = .ok (.aload_n 0, 1) := by decide +kernel
theorem dX4_isLineComplete_22 : decode cX4_isLineComplete 22 = .ok (.getfield 44, 3) := by decide +kernel
theorem dX4_isLineComplete_25 : decode cX4_isLineComplete 25 = .ok (.iconst 1, 1) := by decide +kernel
theorem dX4_isLineComplete_26 : decode cX4_isLineComplete 26 = .ok (.iadd, 1) := by decide +kernel
theorem dX4_isLineComplete_27 : decode cX4_isLineComplete 27 = .ok (.invokevirtual 47, 3) := by decide +kernel
theorem dX4_isLineComplete_30 : decode cX4_isLineComplete 30 = .ok (.bipush 8, 2) := by decide +kernel
theorem dX4_isLineComplete_32 : decode cX4_isLineComplete 32 = .ok (.if_icmp .ne 7, 3) := by decide +kernel
theorem dX4_isLineComplete_35 : decode cX4_isLineComplete 35 = .ok (.iconst 1, 1) := by decide +kernel
theorem dX4_isLineComplete_36 : decode cX4_isLineComplete 36 = .ok (.goto 4, 3) := by decide +kernel
theorem dX4_isLineComplete_39 : decode cX4_isLineComplete 39 = .ok (.iconst 0, 1) := by decide +kernel
theorem dX4_isLineComplete_40 : decode cX4_isLineComplete 40 = .ok (.ireturn, 1) := by decide +kernel
def w_X4_isLineComplete  (mm : Mm) (Q9 : Int32 → Prop) : Prop :=
  (((mm.2 17 1 3) = 0 → Q9 0) ∧
  (¬ (mm.2 17 1 3) = 0 → vp_in (mm.1 17 1 4) 4 ∧ ((((mm.1 19 1 (mm.1 17 1 4).toNatClampNeg) = (-1) → Q9 0) ∧
  (¬ (mm.1 19 1 (mm.1 17 1 4).toNatClampNeg) = (-1) → w_X4_sortAt ((mm.1 17 1 4) + 1) mm (fun (r_4 : Int32) => ((¬ r_4 = 8 → Q9 0) ∧
  (r_4 = 8 → Q9 1))))))))
def rm_X4_isLineComplete : Room := { frames := 1, cells := 0, slots := 0, locals := 21 }
theorem hy_X4_isLineComplete : yX4_isLineComplete.cls = RX4 ∧ yX4_isLineComplete.cls ≠ "java/lang/invoke/MethodHandle" ∧ yX4_isLineComplete.cls ≠ "java/lang/invoke/VarHandle" ∧ (parseMethodDescriptor yX4_isLineComplete.desc).map (fun d => d.parameters.length) = some 0 := by decide +kernel
set_option maxRecDepth 100000 in
set_option maxHeartbeats 4000000 in
theorem c_X4_isLineComplete {l : Launch} {D : va_G} {cA : Nat → ClassId} {ad : Nat → Nat → Nat} {A : Nat → Prop} (ax : Ax ad GC A)  (mm : Mm) (Q9 : Int32 → Prop) (h : w_X4_isLineComplete mm Q9) : Met l yX4_isLineComplete (.code yX4_isLineComplete cX4_isLineComplete 1 (some .boolean) :: TG) rm_X4_isLineComplete (PcM TT D cA ad false GC (ZC ad A) [.ref (ad 17 1)] mm) (AnsI TT D cA ad false GC A (fun r mm' => Q9 r ∧ mm = mm')) 0 0 A := by
  have zo := ZC_ok ad A
  unfold w_X4_isLineComplete at h
  refine enterZ pl_X4 ⟨rfl, rfl⟩ rfl (Nat.le_of_ble_eq_true rfl) ?_
  intro p e s m args below meth c QQ X hK hZ hnm hE
  refine q_aload_n (j := 0) X dX4_isLineComplete_0 rfl rfl ?_
  refine q_get (k := 3) (v := rv (ad 20) (mm.2 17 1 3)) X hK rfl rfl (Nat.le_of_ble_eq_true rfl) inTX4 (gc (t := 17) (by decide) (ok1 (t := 17) (Nat.le_of_ble_eq_true rfl))) kw_2_94 rfl rfl dX4_isLineComplete_1 ?_
  refine q_ifnull (tgt := 39) X dX4_isLineComplete_4 (by decide) (fun c_1 => ?_) (fun c_1 => ?_)
  · have h := h.1 c_1
    refine q_iconst (v := 0) X dX4_isLineComplete_39 (by decide) ?_
    exact hE _ _ _ _ dX4_isLineComplete_40 (Or.inl rfl) ⟨h, rfl⟩
  · have h := h.2 c_1
    refine q_aload_n (j := 0) X dX4_isLineComplete_7 rfl rfl ?_
    refine q_get (k := 5) (v := .ref (ad 19 1)) X hK rfl rfl (Nat.le_of_ble_eq_true rfl) inTX4 (gc (t := 17) (by decide) (ok1 (t := 17) (Nat.le_of_ble_eq_true rfl))) kw_2_96 rfl (rv_nn (a := ad 19) (r := 1) (ok1 (t := 19) (Nat.le_of_ble_eq_true rfl)).1) dX4_isLineComplete_8 ?_
    refine q_aload_n (j := 0) X dX4_isLineComplete_11 rfl rfl ?_
    refine q_get (k := 4) (v := .int (mm.1 17 1 4)) X hK rfl rfl (Nat.le_of_ble_eq_true rfl) inTX4 (gc (t := 17) (by decide) (ok1 (t := 17) (Nat.le_of_ble_eq_true rfl))) kw_2_95 rfl rfl dX4_isLineComplete_12 ?_
    obtain ⟨b_2, h⟩ := h
    refine q_iald (t := 19) (i := 1) (jn := (mm.1 17 1 4).toNatClampNeg) (v := .int (mm.1 19 1 (mm.1 17 1 4).toNatClampNeg)) X hK rfl rfl (gc (t := 19) (by decide) (ok1 (t := 19) (Nat.le_of_ble_eq_true rfl))) rfl b_2 rfl rfl dX4_isLineComplete_15 ?_
    refine q_iconst (v := (-1)) X dX4_isLineComplete_16 (by decide) ?_
    refine q_icmp_eq (tgt := 39) X dX4_isLineComplete_17 (by decide) (fun c_3 => ?_) (fun c_3 => ?_)
    · have h := h.1 c_3
      refine q_iconst (v := 0) X dX4_isLineComplete_39 (by decide) ?_
      exact hE _ _ _ _ dX4_isLineComplete_40 (Or.inl rfl) ⟨h, rfl⟩
    · have h := h.2 c_3
      refine q_aload_n (j := 0) X dX4_isLineComplete_20 rfl rfl ?_
      refine q_aload_n (j := 0) X dX4_isLineComplete_21 rfl rfl ?_
      refine q_get (k := 4) (v := .int (mm.1 17 1 4)) X hK rfl rfl (Nat.le_of_ble_eq_true rfl) inTX4 (gc (t := 17) (by decide) (ok1 (t := 17) (Nat.le_of_ble_eq_true rfl))) kw_2_95 rfl rfl dX4_isLineComplete_22 ?_
      refine q_iconst (v := 1) X dX4_isLineComplete_25 (by decide) ?_
      refine q_iadd X dX4_isLineComplete_26 ?_
      refine q_calli (q_runV X hK hZ zo (gc (t := 17) (by decide) (ok1 (t := 17) (Nat.le_of_ble_eq_true rfl))) rfl rfl [.int ((mm.1 17 1 4) + 1)] [] rfl rfl (Nat.le_of_ble_eq_true rfl) dX4_isLineComplete_27 ⟨Nat.le_of_ble_eq_true rfl, Nat.le_of_ble_eq_true rfl⟩ (c_X4_sortAt ax ((mm.1 17 1 4) + 1) mm _ h) rfl rfl (gV kw_6_51 kw_6_53 ks_76 kw_1_10 kw_6_54) hy_X4_sortAt ⟨Nat.le_of_ble_eq_true rfl, Nat.le_of_ble_eq_true rfl⟩) (fun r_4 m_5 h => ?_)
      obtain ⟨h, hm⟩ := h
      subst hm
      refine q_bipush (v := 8) X dX4_isLineComplete_30 (by decide) ?_
      refine q_icmp_ne (tgt := 39) X dX4_isLineComplete_32 (by decide) (fun c_6 => ?_) (fun c_6 => ?_)
      · have h := h.1 c_6
        refine q_iconst (v := 0) X dX4_isLineComplete_39 (by decide) ?_
        exact hE _ _ _ _ dX4_isLineComplete_40 (Or.inl rfl) ⟨h, rfl⟩
      · have h := h.2 c_6
        refine q_iconst (v := 1) X dX4_isLineComplete_35 (by decide) ?_
        refine q_goto (tgt := 40) X dX4_isLineComplete_36 (by decide) ?_
        exact hE _ _ _ _ dX4_isLineComplete_40 (Or.inr rfl) ⟨h, rfl⟩
theorem dX4_isComplete_0 : decode cX4_isComplete 0 = .ok (.aload_n 0, 1) := by decide +kernel
theorem dX4_isComplete_1 : decode cX4_isComplete 1 = .ok (.invokevirtual 29, 3) := by decide +kernel
theorem dX4_isComplete_4 : decode cX4_isComplete 4 = .ok (.aload_n 0, 1) := by decide +kernel
theorem dX4_isComplete_5 : decode cX4_isComplete 5 = .ok (.getfield 18, 3) := by decide +kernel
theorem dX4_isComplete_8 : decode cX4_isComplete 8 = .ok (.if_icmp .ne 14, 3) := by decide +kernel
theorem dX4_isComplete_11 : decode cX4_isComplete 11 = .ok (.aload_n 0, 1) := by decide +kernel
theorem dX4_isComplete_12 : decode cX4_isComplete 12 = .ok (.invokevirtual 33, 3) := by decide +kernel
theorem dX4_isComplete_15 : decode cX4_isComplete 15 = .ok (.ifCond .eq 7, 3) := by decide +kernel
theorem dX4_isComplete_18 : decode cX4_isComplete 18 = .ok (.iconst 1, 1) := by decide +kernel
theorem dX4_isComplete_19 : decode cX4_isComplete 19 = .ok (.goto 4, 3) := by decide +kernel
theorem dX4_isComplete_22 : decode cX4_isComplete 22 = .ok (.iconst 0, 1) := by decide +kernel
theorem dX4_isComplete_23 : decode cX4_isComplete 23 = .ok (.ireturn, 1) := by decide +kernel
def w_X4_isComplete  (mm : Mm) (Q9 : Int32 → Mm → Prop) : Prop :=
  w_X4_firstWrong mm (fun (r_1 : Int32) (m_2 : Mm) => ((¬ r_1 = (m_2.1 17 1 1) → Q9 0 m_2) ∧
  (r_1 = (m_2.1 17 1 1) → w_X4_isLineComplete m_2 (fun (r_4 : Int32) => ((r_4 = 0 → Q9 0 m_2) ∧
  (¬ r_4 = 0 → Q9 1 m_2))))))
def rm_X4_isComplete : Room := { frames := 4, cells := 0, slots := 0, locals := 88 }
theorem hy_X4_isComplete : yX4_isComplete.cls = RX4 ∧ yX4_isComplete.cls ≠ "java/lang/invoke/MethodHandle" ∧ yX4_isComplete.cls ≠ "java/lang/invoke/VarHandle" ∧ (parseMethodDescriptor yX4_isComplete.desc).map (fun d => d.parameters.length) = some 0 := by decide +kernel
set_option maxRecDepth 100000 in
set_option maxHeartbeats 4000000 in
theorem c_X4_isComplete {l : Launch} {D : va_G} {cA : Nat → ClassId} {ad : Nat → Nat → Nat} {A : Nat → Prop} (ax : Ax ad GC A)  (mm : Mm) (Q9 : Int32 → Mm → Prop) (h : w_X4_isComplete mm Q9) : Met l yX4_isComplete (.code yX4_isComplete cX4_isComplete 1 (some .boolean) :: TG) rm_X4_isComplete (PcM TT D cA ad false GC (ZC ad A) [.ref (ad 17 1)] mm) (AnsI TT D cA ad false GC A Q9) 0 0 A := by
  have zo := ZC_ok ad A
  unfold w_X4_isComplete at h
  refine enterZ pl_X4 ⟨rfl, rfl⟩ rfl (Nat.le_of_ble_eq_true rfl) ?_
  intro p e s m args below meth c QQ X hK hZ hnm hE
  refine q_aload_n (j := 0) X dX4_isComplete_0 rfl rfl ?_
  refine q_calli (q_runV X hK hZ zo (gc (t := 17) (by decide) (ok1 (t := 17) (Nat.le_of_ble_eq_true rfl))) rfl rfl [] [] rfl rfl (Nat.le_of_ble_eq_true rfl) dX4_isComplete_1 ⟨Nat.le_of_ble_eq_true rfl, Nat.le_of_ble_eq_true rfl⟩ (c_X4_firstWrong ax mm _ h) rfl rfl (gV kw_6_14 kw_6_16 ks_71 kw_1_10 kw_6_17) hy_X4_firstWrong ⟨Nat.le_of_ble_eq_true rfl, Nat.le_of_ble_eq_true rfl⟩) (fun r_1 m_2 h => ?_)
  refine q_aload_n (j := 0) X dX4_isComplete_4 rfl rfl ?_
  refine q_get (k := 1) (v := .int (m_2.1 17 1 1)) X hK rfl rfl (Nat.le_of_ble_eq_true rfl) inTX4 (gc (t := 17) (by decide) (ok1 (t := 17) (Nat.le_of_ble_eq_true rfl))) kw_2_90 rfl rfl dX4_isComplete_5 ?_
  refine q_icmp_ne (tgt := 22) X dX4_isComplete_8 (by decide) (fun c_3 => ?_) (fun c_3 => ?_)
  · have h := h.1 c_3
    refine q_iconst (v := 0) X dX4_isComplete_22 (by decide) ?_
    exact hE _ _ _ _ dX4_isComplete_23 (Or.inl rfl) h
  · have h := h.2 c_3
    refine q_aload_n (j := 0) X dX4_isComplete_11 rfl rfl ?_
    refine q_calli (q_runV X hK hZ zo (gc (t := 17) (by decide) (ok1 (t := 17) (Nat.le_of_ble_eq_true rfl))) rfl rfl [] [] rfl rfl (Nat.le_of_ble_eq_true rfl) dX4_isComplete_12 ⟨Nat.le_of_ble_eq_true rfl, Nat.le_of_ble_eq_true rfl⟩ (c_X4_isLineComplete ax m_2 _ h) rfl rfl (gV kw_6_63 kw_6_65 ks_77 kw_1_10 kw_6_66) hy_X4_isLineComplete ⟨Nat.le_of_ble_eq_true rfl, Nat.le_of_ble_eq_true rfl⟩) (fun r_4 m_5 h => ?_)
    obtain ⟨h, hm⟩ := h
    subst hm
    refine q_if_eq (tgt := 22) X dX4_isComplete_15 (by decide) (fun c_6 => ?_) (fun c_6 => ?_)
    · have h := h.1 c_6
      refine q_iconst (v := 0) X dX4_isComplete_22 (by decide) ?_
      exact hE _ _ _ _ dX4_isComplete_23 (Or.inl rfl) h
    · have h := h.2 c_6
      refine q_iconst (v := 1) X dX4_isComplete_18 (by decide) ?_
      refine q_goto (tgt := 23) X dX4_isComplete_19 (by decide) ?_
      exact hE _ _ _ _ dX4_isComplete_23 (Or.inr rfl) h
theorem dX4_isLastOfLine_0 : decode cX4_isLastOfLine 0 = .ok (.iload_n 1, 1) := by decide +kernel
theorem dX4_isLastOfLine_1 : decode cX4_isLastOfLine 1 = .ok (.iconst 1, 1) := by decide +kernel
theorem dX4_isLastOfLine_2 : decode cX4_isLastOfLine 2 = .ok (.iadd, 1) := by decide +kernel
theorem dX4_isLastOfLine_3 : decode cX4_isLastOfLine 3 = .ok (.aload_n 0, 1) := by decide +kernel
theorem dX4_isLastOfLine_4 : decode cX4_isLastOfLine 4 = .ok (.getfield 18, 3) := by decide +kernel
theorem dX4_isLastOfLine_7 : decode cX4_isLastOfLine 7 = .ok (.if_icmp .ge 16, 3) := by decide +kernel
theorem dX4_isLastOfLine_10 : decode cX4_isLastOfLine 10 = .ok (.aload_n 0, 1) := by decide +kernel
theorem dX4_isLastOfLine_11 : decode cX4_isLastOfLine 11 = .ok (.getfield 9, 3) := by decide +kernel
theorem dX4_isLastOfLine_14 : decode cX4_isLastOfLine 14 = .ok (.iload_n 1, 1) := by decide +kernel
theorem dX4_isLastOfLine_15 : decode cX4_isLastOfLine 15 = .ok (.iconst 1, 1) := by decide +kernel
theorem dX4_isLastOfLine_16 : decode cX4_isLastOfLine 16 = .ok (.iadd, 1) := by decide +kernel
theorem dX4_isLastOfLine_17 : decode cX4_isLastOfLine 17 = .ok (.iaload, 1) := by decide +kernel
theorem dX4_isLastOfLine_18 : decode cX4_isLastOfLine 18 = .ok (.bipush 59, 2) := by decide +kernel
theorem dX4_isLastOfLine_20 : decode cX4_isLastOfLine 20 = .ok (.if_icmp .ne 7, 3) := by decide +kernel
theorem dX4_isLastOfLine_23 : decode cX4_isLastOfLine 23 = .ok (.iconst 1, 1) := by decide +kernel
theorem dX4_isLastOfLine_24 : decode cX4_isLastOfLine 24 = .ok (.goto 4, 3) := by decide +kernel
theorem dX4_isLastOfLine_27 : decode cX4_isLastOfLine 27 = .ok (.iconst 0, 1) := by decide +kernel
theorem dX4_isLastOfLine_28 : decode cX4_isLastOfLine 28 = .ok (.ireturn, 1) := by decide +kernel
def w_X4_isLastOfLine (p0 : Int32) (mm : Mm) (Q9 : Int32 → Prop) : Prop :=
  (((mm.1 17 1 1) ≤ (p0 + 1) → Q9 1) ∧
  (¬ (mm.1 17 1 1) ≤ (p0 + 1) → vp_in (p0 + 1) 60 ∧ (((¬ (mm.1 18 1 (p0 + 1).toNatClampNeg) = 59 → Q9 0) ∧
  ((mm.1 18 1 (p0 + 1).toNatClampNeg) = 59 → Q9 1)))))
def rm_X4_isLastOfLine : Room := { frames := 0, cells := 0, slots := 0, locals := 0 }
theorem hy_X4_isLastOfLine : yX4_isLastOfLine.cls = RX4 ∧ yX4_isLastOfLine.cls ≠ "java/lang/invoke/MethodHandle" ∧ yX4_isLastOfLine.cls ≠ "java/lang/invoke/VarHandle" ∧ (parseMethodDescriptor yX4_isLastOfLine.desc).map (fun d => d.parameters.length) = some 1 := by decide +kernel
set_option maxRecDepth 100000 in
set_option maxHeartbeats 4000000 in
theorem c_X4_isLastOfLine {l : Launch} {D : va_G} {cA : Nat → ClassId} {ad : Nat → Nat → Nat} {A : Nat → Prop} (ax : Ax ad GC A) (p0 : Int32) (mm : Mm) (Q9 : Int32 → Prop) (h : w_X4_isLastOfLine p0 mm Q9) : Met l yX4_isLastOfLine (.code yX4_isLastOfLine cX4_isLastOfLine 2 (some .boolean) :: TG) rm_X4_isLastOfLine (PcM TT D cA ad false GC (ZC ad A) [.ref (ad 17 1), .int p0] mm) (AnsI TT D cA ad false GC A (fun r mm' => Q9 r ∧ mm = mm')) 0 0 A := by
  have zo := ZC_ok ad A
  unfold w_X4_isLastOfLine at h
  refine enterZ pl_X4 ⟨rfl, rfl⟩ rfl (Nat.le_of_ble_eq_true rfl) ?_
  intro p e s m args below meth c QQ X hK hZ hnm hE
  refine q_iload_n (j := 1) X dX4_isLastOfLine_0 rfl rfl ?_
  refine q_iconst (v := 1) X dX4_isLastOfLine_1 (by decide) ?_
  refine q_iadd X dX4_isLastOfLine_2 ?_
  refine q_aload_n (j := 0) X dX4_isLastOfLine_3 rfl rfl ?_
  refine q_get (k := 1) (v := .int (mm.1 17 1 1)) X hK rfl rfl (Nat.le_of_ble_eq_true rfl) inTX4 (gc (t := 17) (by decide) (ok1 (t := 17) (Nat.le_of_ble_eq_true rfl))) kw_2_90 rfl rfl dX4_isLastOfLine_4 ?_
  refine q_icmp_ge (tgt := 23) X dX4_isLastOfLine_7 (by decide) (fun c_1 => ?_) (fun c_1 => ?_)
  · have h := h.1 c_1
    refine q_iconst (v := 1) X dX4_isLastOfLine_23 (by decide) ?_
    refine q_goto (tgt := 28) X dX4_isLastOfLine_24 (by decide) ?_
    exact hE _ _ _ _ dX4_isLastOfLine_28 (Or.inr rfl) ⟨h, rfl⟩
  · have h := h.2 c_1
    refine q_aload_n (j := 0) X dX4_isLastOfLine_10 rfl rfl ?_
    refine q_get (k := 0) (v := .ref (ad 18 1)) X hK rfl rfl (Nat.le_of_ble_eq_true rfl) inTX4 (gc (t := 17) (by decide) (ok1 (t := 17) (Nat.le_of_ble_eq_true rfl))) kw_2_88 rfl (rv_nn (a := ad 18) (r := 1) (ok1 (t := 18) (Nat.le_of_ble_eq_true rfl)).1) dX4_isLastOfLine_11 ?_
    refine q_iload_n (j := 1) X dX4_isLastOfLine_14 rfl rfl ?_
    refine q_iconst (v := 1) X dX4_isLastOfLine_15 (by decide) ?_
    refine q_iadd X dX4_isLastOfLine_16 ?_
    obtain ⟨b_2, h⟩ := h
    refine q_iald (t := 18) (i := 1) (jn := (p0 + 1).toNatClampNeg) (v := .int (mm.1 18 1 (p0 + 1).toNatClampNeg)) X hK rfl rfl (gc (t := 18) (by decide) (ok1 (t := 18) (Nat.le_of_ble_eq_true rfl))) rfl b_2 rfl rfl dX4_isLastOfLine_17 ?_
    refine q_bipush (v := 59) X dX4_isLastOfLine_18 (by decide) ?_
    refine q_icmp_ne (tgt := 27) X dX4_isLastOfLine_20 (by decide) (fun c_3 => ?_) (fun c_3 => ?_)
    · have h := h.1 c_3
      refine q_iconst (v := 0) X dX4_isLastOfLine_27 (by decide) ?_
      exact hE _ _ _ _ dX4_isLastOfLine_28 (Or.inl rfl) ⟨h, rfl⟩
    · have h := h.2 c_3
      refine q_iconst (v := 1) X dX4_isLastOfLine_23 (by decide) ?_
      refine q_goto (tgt := 28) X dX4_isLastOfLine_24 (by decide) ?_
      exact hE _ _ _ _ dX4_isLastOfLine_28 (Or.inr rfl) ⟨h, rfl⟩
theorem dX1_carryOutLine_0 : decode cX1_carryOutLine 0 = .ok (.iload_n 1, 1) := by decide +kernel
theorem dX1_carryOutLine_1 : decode cX1_carryOutLine 1 = .ok (.tableswitch 208 98 120 #[184, 208, 192, 107, 208, 146, 208, 208, 208, 208, 168, 157, 208, 176, 208, 208, 208, 208, 200, 208, 208, 124, 135], 107) := by decide +kernel
theorem dX1_carryOutLine_108 : decode cX1_carryOutLine 108 = .ok (.aload_n 0, 1) := by decide +kernel
theorem dX1_carryOutLine_109 : decode cX1_carryOutLine 109 = .ok (.aload_n 2, 1) := by decide +kernel
theorem dX1_carryOutLine_110 : decode cX1_carryOutLine 110 = .ok (.iconst 0, 1) := by decide +kernel
theorem dX1_carryOutLine_111 : decode cX1_carryOutLine 111 = .ok (.iaload, 1) := by decide +kernel
theorem dX1_carryOutLine_112 : decode cX1_carryOutLine 112 = .ok (.aload_n 2, 1) := by decide +kernel
theorem dX1_carryOutLine_113 : decode cX1_carryOutLine 113 = .ok (.iconst 1, 1) := by decide +kernel
theorem dX1_carryOutLine_114 : decode cX1_carryOutLine 114 = .ok (.iaload, 1) := by decide +kernel
theorem dX1_carryOutLine_115 : decode cX1_carryOutLine 115 = .ok (.aload_n 2, 1) := by decide +kernel
theorem dX1_carryOutLine_116 : decode cX1_carryOutLine 116 = .ok (.iconst 2, 1) := by decide +kernel
theorem dX1_carryOutLine_117 : decode cX1_carryOutLine 117 = .ok (.iaload, 1) := by decide +kernel
theorem dX1_carryOutLine_118 : decode cX1_carryOutLine 118 = .ok (.aload_n 2, 1) := by decide +kernel
theorem dX1_carryOutLine_119 : decode cX1_carryOutLine 119 = .ok (.iconst 3, 1) := by decide +kernel
theorem dX1_carryOutLine_120 : decode cX1_carryOutLine 120 = .ok (.iaload, 1) := by decide +kernel
theorem dX1_carryOutLine_121 : decode cX1_carryOutLine 121 = .ok (.invokevirtual 249, 3) := by decide +kernel
theorem dX1_carryOutLine_124 : decode cX1_carryOutLine 124 = .ok (.ireturn, 1) := by decide +kernel
theorem dX1_carryOutLine_125 : decode cX1_carryOutLine 125 = .ok (.aload_n 0, 1) := by decide +kernel
theorem dX1_carryOutLine_126 : decode cX1_carryOutLine 126 = .ok (.aload_n 2, 1) := by decide +kernel
theorem dX1_carryOutLine_127 : decode cX1_carryOutLine 127 = .ok (.iconst 0, 1) := by decide +kernel
theorem dX1_carryOutLine_128 : decode cX1_carryOutLine 128 = .ok (.iaload, 1) := by decide +kernel
theorem dX1_carryOutLine_129 : decode cX1_carryOutLine 129 = .ok (.aload_n 2, 1) := by decide +kernel
theorem dX1_carryOutLine_130 : decode cX1_carryOutLine 130 = .ok (.iconst 1, 1) := by decide +kernel
theorem dX1_carryOutLine_131 : decode cX1_carryOutLine 131 = .ok (.iaload, 1) := by decide +kernel
theorem dX1_carryOutLine_132 : decode cX1_carryOutLine 132 = .ok (.invokevirtual 252, 3) := by decide +kernel
theorem dX1_carryOutLine_135 : decode cX1_carryOutLine 135 = .ok (.ireturn, 1) := by decide +kernel
theorem dX1_carryOutLine_136 : decode cX1_carryOutLine 136 = .ok (.aload_n 0, 1) := by decide +kernel
theorem dX1_carryOutLine_137 : decode cX1_carryOutLine 137 = .ok (.aload_n 2, 1) := by decide +kernel
theorem dX1_carryOutLine_138 : decode cX1_carryOutLine 138 = .ok (.iconst 0, 1) := by decide +kernel
theorem dX1_carryOutLine_139 : decode cX1_carryOutLine 139 = .ok (.iaload, 1) := by decide +kernel
theorem dX1_carryOutLine_140 : decode cX1_carryOutLine 140 = .ok (.aload_n 2, 1) := by decide +kernel
theorem dX1_carryOutLine_141 : decode cX1_carryOutLine 141 = .ok (.iconst 1, 1) := by decide +kernel
theorem dX1_carryOutLine_142 : decode cX1_carryOutLine 142 = .ok (.iaload, 1) := by decide +kernel
theorem dX1_carryOutLine_143 : decode cX1_carryOutLine 143 = .ok (.invokevirtual 256, 3) := by decide +kernel
theorem dX1_carryOutLine_146 : decode cX1_carryOutLine 146 = .ok (.ireturn, 1) := by decide +kernel
theorem dX1_carryOutLine_147 : decode cX1_carryOutLine 147 = .ok (.aload_n 0, 1) := by decide +kernel
theorem dX1_carryOutLine_148 : decode cX1_carryOutLine 148 = .ok (.aload_n 2, 1) := by decide +kernel
theorem dX1_carryOutLine_149 : decode cX1_carryOutLine 149 = .ok (.iconst 0, 1) := by decide +kernel
theorem dX1_carryOutLine_150 : decode cX1_carryOutLine 150 = .ok (.iaload, 1) := by decide +kernel
theorem dX1_carryOutLine_151 : decode cX1_carryOutLine 151 = .ok (.aload_n 2, 1) := by decide +kernel
theorem dX1_carryOutLine_152 : decode cX1_carryOutLine 152 = .ok (.iconst 1, 1) := by decide +kernel
theorem dX1_carryOutLine_153 : decode cX1_carryOutLine 153 = .ok (.iaload, 1) := by decide +kernel
theorem dX1_carryOutLine_154 : decode cX1_carryOutLine 154 = .ok (.invokevirtual 259, 3) := by decide +kernel
theorem dX1_carryOutLine_157 : decode cX1_carryOutLine 157 = .ok (.ireturn, 1) := by decide +kernel
theorem dX1_carryOutLine_158 : decode cX1_carryOutLine 158 = .ok (.aload_n 0, 1) := by decide +kernel
theorem dX1_carryOutLine_159 : decode cX1_carryOutLine 159 = .ok (.aload_n 2, 1) := by decide +kernel
theorem dX1_carryOutLine_160 : decode cX1_carryOutLine 160 = .ok (.iconst 0, 1) := by decide +kernel
theorem dX1_carryOutLine_161 : decode cX1_carryOutLine 161 = .ok (.iaload, 1) := by decide +kernel
theorem dX1_carryOutLine_162 : decode cX1_carryOutLine 162 = .ok (.aload_n 2, 1) := by decide +kernel
theorem dX1_carryOutLine_163 : decode cX1_carryOutLine 163 = .ok (.iconst 1, 1) := by decide +kernel
theorem dX1_carryOutLine_164 : decode cX1_carryOutLine 164 = .ok (.iaload, 1) := by decide +kernel
theorem dX1_carryOutLine_165 : decode cX1_carryOutLine 165 = .ok (.invokevirtual 262, 3) := by decide +kernel
theorem dX1_carryOutLine_168 : decode cX1_carryOutLine 168 = .ok (.ireturn, 1) := by decide +kernel
theorem dX1_carryOutLine_169 : decode cX1_carryOutLine 169 = .ok (.aload_n 0, 1) := by decide +kernel
theorem dX1_carryOutLine_170 : decode cX1_carryOutLine 170 = .ok (.aload_n 2, 1) := by decide +kernel
theorem dX1_carryOutLine_171 : decode cX1_carryOutLine 171 = .ok (.iconst 0, 1) := by decide +kernel
theorem dX1_carryOutLine_172 : decode cX1_carryOutLine 172 = .ok (.iaload, 1) := by decide +kernel
theorem dX1_carryOutLine_173 : decode cX1_carryOutLine 173 = .ok (.invokevirtual 265, 3) := by decide +kernel
theorem dX1_carryOutLine_176 : decode cX1_carryOutLine 176 = .ok (.ireturn, 1) := by decide +kernel
theorem dX1_carryOutLine_177 : decode cX1_carryOutLine 177 = .ok (.aload_n 0, 1) := by decide +kernel
theorem dX1_carryOutLine_178 : decode cX1_carryOutLine 178 = .ok (.aload_n 2, 1) := by decide +kernel
theorem dX1_carryOutLine_179 : decode cX1_carryOutLine 179 = .ok (.iconst 0, 1) := by decide +kernel
theorem dX1_carryOutLine_180 : decode cX1_carryOutLine 180 = .ok (.iaload, 1) := by decide +kernel
theorem dX1_carryOutLine_181 : decode cX1_carryOutLine 181 = .ok (.invokevirtual 268, 3) := by decide +kernel
theorem dX1_carryOutLine_184 : decode cX1_carryOutLine 184 = .ok (.ireturn, 1) := by decide +kernel
theorem dX1_carryOutLine_185 : decode cX1_carryOutLine 185 = .ok (.aload_n 0, 1) := by decide +kernel
theorem dX1_carryOutLine_186 : decode cX1_carryOutLine 186 = .ok (.aload_n 2, 1) := by decide +kernel
theorem dX1_carryOutLine_187 : decode cX1_carryOutLine 187 = .ok (.iconst 0, 1) := by decide +kernel
theorem dX1_carryOutLine_188 : decode cX1_carryOutLine 188 = .ok (.iaload, 1) := by decide +kernel
theorem dX1_carryOutLine_189 : decode cX1_carryOutLine 189 = .ok (.invokevirtual 271, 3) := by decide +kernel
theorem dX1_carryOutLine_192 : decode cX1_carryOutLine 192 = .ok (.ireturn, 1) := by decide +kernel
theorem dX1_carryOutLine_193 : decode cX1_carryOutLine 193 = .ok (.aload_n 0, 1) := by decide +kernel
theorem dX1_carryOutLine_194 : decode cX1_carryOutLine 194 = .ok (.aload_n 2, 1) := by decide +kernel
theorem dX1_carryOutLine_195 : decode cX1_carryOutLine 195 = .ok (.iconst 0, 1) := by decide +kernel
theorem dX1_carryOutLine_196 : decode cX1_carryOutLine 196 = .ok (.iaload, 1) := by decide +kernel
theorem dX1_carryOutLine_197 : decode cX1_carryOutLine 197 = .ok (.invokevirtual 274, 3) := by decide +kernel
theorem dX1_carryOutLine_200 : decode cX1_carryOutLine 200 = .ok (.ireturn, 1) := by decide +kernel
theorem dX1_carryOutLine_201 : decode cX1_carryOutLine 201 = .ok (.aload_n 0, 1) := by decide +kernel
theorem dX1_carryOutLine_202 : decode cX1_carryOutLine 202 = .ok (.aload_n 2, 1) := by decide +kernel
theorem dX1_carryOutLine_203 : decode cX1_carryOutLine 203 = .ok (.iconst 0, 1) := by decide +kernel
theorem dX1_carryOutLine_204 : decode cX1_carryOutLine 204 = .ok (.iaload, 1) := by decide +kernel
theorem dX1_carryOutLine_205 : decode cX1_carryOutLine 205 = .ok (.invokevirtual 277, 3) := by decide +kernel
theorem dX1_carryOutLine_208 : decode cX1_carryOutLine 208 = .ok (.ireturn, 1) := by decide +kernel
theorem dX1_carryOutLine_209 : decode cX1_carryOutLine 209 = .ok (.bipush (-2), 2) := by decide +kernel
theorem dX1_carryOutLine_211 : decode cX1_carryOutLine 211 = .ok (.ireturn, 1) := by decide +kernel
def w_X1_carryOutLine (p0 : Int32) (mm : Mm) (Q9 : Int32 → Mm → Prop) : Prop :=
  ((p0 = 98 → w_X1_damageSeal (mm.1 19 1 0) mm (fun (r_2 : Int32) (m_3 : Mm) => Q9 r_2 m_3)) ∧
  (p0 = 100 → w_X1_payIn (mm.1 19 1 0) mm (fun (r_4 : Int32) (m_5 : Mm) => Q9 r_4 m_5)) ∧
  (p0 = 101 → w_X1_bringIn (mm.1 19 1 0) (mm.1 19 1 1) (mm.1 19 1 2) (mm.1 19 1 3) mm (fun (r_6 : Int32) (m_7 : Mm) => Q9 r_6 m_7)) ∧
  (p0 = 103 → w_X1_putOnScales (mm.1 19 1 0) (mm.1 19 1 1) mm (fun (r_8 : Int32) (m_9 : Mm) => Q9 r_8 m_9)) ∧
  (p0 = 108 → w_X1_putSeal (mm.1 19 1 0) mm (fun (r_10 : Int32) (m_11 : Mm) => Q9 r_10 m_11)) ∧
  (p0 = 109 → w_X1_carryOver (mm.1 19 1 0) (mm.1 19 1 1) mm (fun (r_12 : Int32) (m_13 : Mm) => Q9 r_12 m_13)) ∧
  (p0 = 111 → w_X1_takeSealOff (mm.1 19 1 0) mm (fun (r_14 : Int32) (m_15 : Mm) => Q9 r_14 m_15)) ∧
  (p0 = 116 → w_X1_letPass (mm.1 19 1 0) mm (fun (r_16 : Int32) (m_17 : Mm) => Q9 r_16 m_17)) ∧
  (p0 = 119 → w_X1_takeIntoCountry (mm.1 19 1 0) (mm.1 19 1 1) mm (fun (r_18 : Int32) (m_19 : Mm) => Q9 r_18 m_19)) ∧
  (p0 = 120 → w_X1_takeAbroad (mm.1 19 1 0) (mm.1 19 1 1) mm (fun (r_20 : Int32) (m_21 : Mm) => Q9 r_20 m_21)) ∧
  (¬ p0 = 98 → ¬ p0 = 100 → ¬ p0 = 101 → ¬ p0 = 103 → ¬ p0 = 108 → ¬ p0 = 109 → ¬ p0 = 111 → ¬ p0 = 116 → ¬ p0 = 119 → ¬ p0 = 120 → Q9 (-2) mm))
def rm_X1_carryOutLine : Room := { frames := 5, cells := 0, slots := 0, locals := 117 }
theorem hy_X1_carryOutLine : yX1_carryOutLine.cls = RX1 ∧ yX1_carryOutLine.cls ≠ "java/lang/invoke/MethodHandle" ∧ yX1_carryOutLine.cls ≠ "java/lang/invoke/VarHandle" ∧ (parseMethodDescriptor yX1_carryOutLine.desc).map (fun d => d.parameters.length) = some 2 := by decide +kernel
set_option maxRecDepth 100000 in
set_option maxHeartbeats 4000000 in
theorem c_X1_carryOutLine {l : Launch} {D : va_G} {cA : Nat → ClassId} {ad : Nat → Nat → Nat} {A : Nat → Prop} (ax : Ax ad GC A) (p0 : Int32) (mm : Mm) (Q9 : Int32 → Mm → Prop) (h : w_X1_carryOutLine p0 mm Q9) : Met l yX1_carryOutLine (.code yX1_carryOutLine cX1_carryOutLine 3 (some .int) :: TG) rm_X1_carryOutLine (PcM TT D cA ad false GC (ZC ad A) [.ref (ad 16 1), .int p0, .ref (ad 19 1)] mm) (AnsI TT D cA ad false GC A Q9) 0 0 A := by
  have zo := ZC_ok ad A
  unfold w_X1_carryOutLine at h
  refine enterI pl_X1 ⟨rfl, rfl⟩ rfl (Nat.le_of_ble_eq_true rfl) ?_
  intro p e s m args below meth c QQ X hK hZ hnm hE
  refine q_iload_n (j := 1) X dX1_carryOutLine_0 rfl rfl ?_
  by_cases c_1 : p0 = 98
  · have h := h.1 c_1
    refine q_tabI (k := 98) (tgt := 185) X dX1_carryOutLine_1 c_1 (by decide) (by decide) rfl (by decide) ?_
    refine q_aload_n (j := 0) X dX1_carryOutLine_185 rfl rfl ?_
    refine q_aload_n (j := 2) X dX1_carryOutLine_186 rfl rfl ?_
    refine q_iconst (v := 0) X dX1_carryOutLine_187 (by decide) ?_
    refine q_iald (t := 19) (i := 1) (jn := 0) (v := .int (mm.1 19 1 0)) X hK rfl rfl (gc (t := 19) (by decide) (ok1 (t := 19) (Nat.le_of_ble_eq_true rfl))) rfl (vpl (by decide +kernel)) (by decide +kernel) rfl dX1_carryOutLine_188 ?_
    refine q_calli (q_runV X hK hZ zo (gc (t := 16) (by decide) (ok1 (t := 16) (Nat.le_of_ble_eq_true rfl))) rfl rfl [.int (mm.1 19 1 0)] [] rfl rfl (Nat.le_of_ble_eq_true rfl) dX1_carryOutLine_189 ⟨Nat.le_of_ble_eq_true rfl, Nat.le_of_ble_eq_true rfl⟩ (c_X1_damageSeal ax (mm.1 19 1 0) mm _ h) rfl rfl (gV kw_6_86 kw_4_72 ks_49 kw_1_9 kw_4_73) hy_X1_damageSeal ⟨Nat.le_of_ble_eq_true rfl, Nat.le_of_ble_eq_true rfl⟩) (fun r_2 m_3 h => ?_)
    exact hE _ _ _ _ dX1_carryOutLine_192 h
  have h := h.2
  have nc_1_98 := c_1
  by_cases c_1 : p0 = 100
  · have h := h.1 c_1
    refine q_tabI (k := 100) (tgt := 193) X dX1_carryOutLine_1 c_1 (by decide) (by decide) rfl (by decide) ?_
    refine q_aload_n (j := 0) X dX1_carryOutLine_193 rfl rfl ?_
    refine q_aload_n (j := 2) X dX1_carryOutLine_194 rfl rfl ?_
    refine q_iconst (v := 0) X dX1_carryOutLine_195 (by decide) ?_
    refine q_iald (t := 19) (i := 1) (jn := 0) (v := .int (mm.1 19 1 0)) X hK rfl rfl (gc (t := 19) (by decide) (ok1 (t := 19) (Nat.le_of_ble_eq_true rfl))) rfl (vpl (by decide +kernel)) (by decide +kernel) rfl dX1_carryOutLine_196 ?_
    refine q_calli (q_runV X hK hZ zo (gc (t := 16) (by decide) (ok1 (t := 16) (Nat.le_of_ble_eq_true rfl))) rfl rfl [.int (mm.1 19 1 0)] [] rfl rfl (Nat.le_of_ble_eq_true rfl) dX1_carryOutLine_197 ⟨Nat.le_of_ble_eq_true rfl, Nat.le_of_ble_eq_true rfl⟩ (c_X1_payIn ax (mm.1 19 1 0) mm _ h) rfl rfl (gV kw_6_87 kw_4_83 ks_50 kw_1_9 kw_4_84) hy_X1_payIn ⟨Nat.le_of_ble_eq_true rfl, Nat.le_of_ble_eq_true rfl⟩) (fun r_4 m_5 h => ?_)
    exact hE _ _ _ _ dX1_carryOutLine_200 h
  have h := h.2
  have nc_1_100 := c_1
  by_cases c_1 : p0 = 101
  · have h := h.1 c_1
    refine q_tabI (k := 101) (tgt := 108) X dX1_carryOutLine_1 c_1 (by decide) (by decide) rfl (by decide) ?_
    refine q_aload_n (j := 0) X dX1_carryOutLine_108 rfl rfl ?_
    refine q_aload_n (j := 2) X dX1_carryOutLine_109 rfl rfl ?_
    refine q_iconst (v := 0) X dX1_carryOutLine_110 (by decide) ?_
    refine q_iald (t := 19) (i := 1) (jn := 0) (v := .int (mm.1 19 1 0)) X hK rfl rfl (gc (t := 19) (by decide) (ok1 (t := 19) (Nat.le_of_ble_eq_true rfl))) rfl (vpl (by decide +kernel)) (by decide +kernel) rfl dX1_carryOutLine_111 ?_
    refine q_aload_n (j := 2) X dX1_carryOutLine_112 rfl rfl ?_
    refine q_iconst (v := 1) X dX1_carryOutLine_113 (by decide) ?_
    refine q_iald (t := 19) (i := 1) (jn := 1) (v := .int (mm.1 19 1 1)) X hK rfl rfl (gc (t := 19) (by decide) (ok1 (t := 19) (Nat.le_of_ble_eq_true rfl))) rfl (vpl (by decide +kernel)) (by decide +kernel) rfl dX1_carryOutLine_114 ?_
    refine q_aload_n (j := 2) X dX1_carryOutLine_115 rfl rfl ?_
    refine q_iconst (v := 2) X dX1_carryOutLine_116 (by decide) ?_
    refine q_iald (t := 19) (i := 1) (jn := 2) (v := .int (mm.1 19 1 2)) X hK rfl rfl (gc (t := 19) (by decide) (ok1 (t := 19) (Nat.le_of_ble_eq_true rfl))) rfl (vpl (by decide +kernel)) (by decide +kernel) rfl dX1_carryOutLine_117 ?_
    refine q_aload_n (j := 2) X dX1_carryOutLine_118 rfl rfl ?_
    refine q_iconst (v := 3) X dX1_carryOutLine_119 (by decide) ?_
    refine q_iald (t := 19) (i := 1) (jn := 3) (v := .int (mm.1 19 1 3)) X hK rfl rfl (gc (t := 19) (by decide) (ok1 (t := 19) (Nat.le_of_ble_eq_true rfl))) rfl (vpl (by decide +kernel)) (by decide +kernel) rfl dX1_carryOutLine_120 ?_
    refine q_calli (q_runV X hK hZ zo (gc (t := 16) (by decide) (ok1 (t := 16) (Nat.le_of_ble_eq_true rfl))) rfl rfl [.int (mm.1 19 1 0), .int (mm.1 19 1 1), .int (mm.1 19 1 2), .int (mm.1 19 1 3)] [] rfl rfl (Nat.le_of_ble_eq_true rfl) dX1_carryOutLine_121 ⟨Nat.le_of_ble_eq_true rfl, Nat.le_of_ble_eq_true rfl⟩ (c_X1_bringIn ax (mm.1 19 1 0) (mm.1 19 1 1) (mm.1 19 1 2) (mm.1 19 1 3) mm _ h) rfl rfl (gV kw_6_79 kw_2_151 ks_0 kw_1_9 kw_2_152) hy_X1_bringIn ⟨Nat.le_of_ble_eq_true rfl, Nat.le_of_ble_eq_true rfl⟩) (fun r_6 m_7 h => ?_)
    exact hE _ _ _ _ dX1_carryOutLine_124 h
  have h := h.2
  have nc_1_101 := c_1
  by_cases c_1 : p0 = 103
  · have h := h.1 c_1
    refine q_tabI (k := 103) (tgt := 147) X dX1_carryOutLine_1 c_1 (by decide) (by decide) rfl (by decide) ?_
    refine q_aload_n (j := 0) X dX1_carryOutLine_147 rfl rfl ?_
    refine q_aload_n (j := 2) X dX1_carryOutLine_148 rfl rfl ?_
    refine q_iconst (v := 0) X dX1_carryOutLine_149 (by decide) ?_
    refine q_iald (t := 19) (i := 1) (jn := 0) (v := .int (mm.1 19 1 0)) X hK rfl rfl (gc (t := 19) (by decide) (ok1 (t := 19) (Nat.le_of_ble_eq_true rfl))) rfl (vpl (by decide +kernel)) (by decide +kernel) rfl dX1_carryOutLine_150 ?_
    refine q_aload_n (j := 2) X dX1_carryOutLine_151 rfl rfl ?_
    refine q_iconst (v := 1) X dX1_carryOutLine_152 (by decide) ?_
    refine q_iald (t := 19) (i := 1) (jn := 1) (v := .int (mm.1 19 1 1)) X hK rfl rfl (gc (t := 19) (by decide) (ok1 (t := 19) (Nat.le_of_ble_eq_true rfl))) rfl (vpl (by decide +kernel)) (by decide +kernel) rfl dX1_carryOutLine_153 ?_
    refine q_calli (q_runV X hK hZ zo (gc (t := 16) (by decide) (ok1 (t := 16) (Nat.le_of_ble_eq_true rfl))) rfl rfl [.int (mm.1 19 1 0), .int (mm.1 19 1 1)] [] rfl rfl (Nat.le_of_ble_eq_true rfl) dX1_carryOutLine_154 ⟨Nat.le_of_ble_eq_true rfl, Nat.le_of_ble_eq_true rfl⟩ (c_X1_putOnScales ax (mm.1 19 1 0) (mm.1 19 1 1) mm _ h) rfl rfl (gV kw_6_82 kw_4_19 ks_42 kw_1_9 kw_4_20) hy_X1_putOnScales ⟨Nat.le_of_ble_eq_true rfl, Nat.le_of_ble_eq_true rfl⟩) (fun r_8 m_9 h => ?_)
    exact hE _ _ _ _ dX1_carryOutLine_157 h
  have h := h.2
  have nc_1_103 := c_1
  by_cases c_1 : p0 = 108
  · have h := h.1 c_1
    refine q_tabI (k := 108) (tgt := 169) X dX1_carryOutLine_1 c_1 (by decide) (by decide) rfl (by decide) ?_
    refine q_aload_n (j := 0) X dX1_carryOutLine_169 rfl rfl ?_
    refine q_aload_n (j := 2) X dX1_carryOutLine_170 rfl rfl ?_
    refine q_iconst (v := 0) X dX1_carryOutLine_171 (by decide) ?_
    refine q_iald (t := 19) (i := 1) (jn := 0) (v := .int (mm.1 19 1 0)) X hK rfl rfl (gc (t := 19) (by decide) (ok1 (t := 19) (Nat.le_of_ble_eq_true rfl))) rfl (vpl (by decide +kernel)) (by decide +kernel) rfl dX1_carryOutLine_172 ?_
    refine q_calli (q_runV X hK hZ zo (gc (t := 16) (by decide) (ok1 (t := 16) (Nat.le_of_ble_eq_true rfl))) rfl rfl [.int (mm.1 19 1 0)] [] rfl rfl (Nat.le_of_ble_eq_true rfl) dX1_carryOutLine_173 ⟨Nat.le_of_ble_eq_true rfl, Nat.le_of_ble_eq_true rfl⟩ (c_X1_putSeal ax (mm.1 19 1 0) mm _ h) rfl rfl (gV kw_6_84 kw_4_50 ks_47 kw_1_9 kw_4_51) hy_X1_putSeal ⟨Nat.le_of_ble_eq_true rfl, Nat.le_of_ble_eq_true rfl⟩) (fun r_10 m_11 h => ?_)
    exact hE _ _ _ _ dX1_carryOutLine_176 h
  have h := h.2
  have nc_1_108 := c_1
  by_cases c_1 : p0 = 109
  · have h := h.1 c_1
    refine q_tabI (k := 109) (tgt := 158) X dX1_carryOutLine_1 c_1 (by decide) (by decide) rfl (by decide) ?_
    refine q_aload_n (j := 0) X dX1_carryOutLine_158 rfl rfl ?_
    refine q_aload_n (j := 2) X dX1_carryOutLine_159 rfl rfl ?_
    refine q_iconst (v := 0) X dX1_carryOutLine_160 (by decide) ?_
    refine q_iald (t := 19) (i := 1) (jn := 0) (v := .int (mm.1 19 1 0)) X hK rfl rfl (gc (t := 19) (by decide) (ok1 (t := 19) (Nat.le_of_ble_eq_true rfl))) rfl (vpl (by decide +kernel)) (by decide +kernel) rfl dX1_carryOutLine_161 ?_
    refine q_aload_n (j := 2) X dX1_carryOutLine_162 rfl rfl ?_
    refine q_iconst (v := 1) X dX1_carryOutLine_163 (by decide) ?_
    refine q_iald (t := 19) (i := 1) (jn := 1) (v := .int (mm.1 19 1 1)) X hK rfl rfl (gc (t := 19) (by decide) (ok1 (t := 19) (Nat.le_of_ble_eq_true rfl))) rfl (vpl (by decide +kernel)) (by decide +kernel) rfl dX1_carryOutLine_164 ?_
    refine q_calli (q_runV X hK hZ zo (gc (t := 16) (by decide) (ok1 (t := 16) (Nat.le_of_ble_eq_true rfl))) rfl rfl [.int (mm.1 19 1 0), .int (mm.1 19 1 1)] [] rfl rfl (Nat.le_of_ble_eq_true rfl) dX1_carryOutLine_165 ⟨Nat.le_of_ble_eq_true rfl, Nat.le_of_ble_eq_true rfl⟩ (c_X1_carryOver ax (mm.1 19 1 0) (mm.1 19 1 1) mm _ h) rfl rfl (gV kw_6_83 kw_3_205 ks_36 kw_1_9 kw_3_206) hy_X1_carryOver ⟨Nat.le_of_ble_eq_true rfl, Nat.le_of_ble_eq_true rfl⟩) (fun r_12 m_13 h => ?_)
    exact hE _ _ _ _ dX1_carryOutLine_168 h
  have h := h.2
  have nc_1_109 := c_1
  by_cases c_1 : p0 = 111
  · have h := h.1 c_1
    refine q_tabI (k := 111) (tgt := 177) X dX1_carryOutLine_1 c_1 (by decide) (by decide) rfl (by decide) ?_
    refine q_aload_n (j := 0) X dX1_carryOutLine_177 rfl rfl ?_
    refine q_aload_n (j := 2) X dX1_carryOutLine_178 rfl rfl ?_
    refine q_iconst (v := 0) X dX1_carryOutLine_179 (by decide) ?_
    refine q_iald (t := 19) (i := 1) (jn := 0) (v := .int (mm.1 19 1 0)) X hK rfl rfl (gc (t := 19) (by decide) (ok1 (t := 19) (Nat.le_of_ble_eq_true rfl))) rfl (vpl (by decide +kernel)) (by decide +kernel) rfl dX1_carryOutLine_180 ?_
    refine q_calli (q_runV X hK hZ zo (gc (t := 16) (by decide) (ok1 (t := 16) (Nat.le_of_ble_eq_true rfl))) rfl rfl [.int (mm.1 19 1 0)] [] rfl rfl (Nat.le_of_ble_eq_true rfl) dX1_carryOutLine_181 ⟨Nat.le_of_ble_eq_true rfl, Nat.le_of_ble_eq_true rfl⟩ (c_X1_takeSealOff ax (mm.1 19 1 0) mm _ h) rfl rfl (gV kw_6_85 kw_4_61 ks_48 kw_1_9 kw_4_62) hy_X1_takeSealOff ⟨Nat.le_of_ble_eq_true rfl, Nat.le_of_ble_eq_true rfl⟩) (fun r_14 m_15 h => ?_)
    exact hE _ _ _ _ dX1_carryOutLine_184 h
  have h := h.2
  have nc_1_111 := c_1
  by_cases c_1 : p0 = 116
  · have h := h.1 c_1
    refine q_tabI (k := 116) (tgt := 201) X dX1_carryOutLine_1 c_1 (by decide) (by decide) rfl (by decide) ?_
    refine q_aload_n (j := 0) X dX1_carryOutLine_201 rfl rfl ?_
    refine q_aload_n (j := 2) X dX1_carryOutLine_202 rfl rfl ?_
    refine q_iconst (v := 0) X dX1_carryOutLine_203 (by decide) ?_
    refine q_iald (t := 19) (i := 1) (jn := 0) (v := .int (mm.1 19 1 0)) X hK rfl rfl (gc (t := 19) (by decide) (ok1 (t := 19) (Nat.le_of_ble_eq_true rfl))) rfl (vpl (by decide +kernel)) (by decide +kernel) rfl dX1_carryOutLine_204 ?_
    refine q_calli (q_runV X hK hZ zo (gc (t := 16) (by decide) (ok1 (t := 16) (Nat.le_of_ble_eq_true rfl))) rfl rfl [.int (mm.1 19 1 0)] [] rfl rfl (Nat.le_of_ble_eq_true rfl) dX1_carryOutLine_205 ⟨Nat.le_of_ble_eq_true rfl, Nat.le_of_ble_eq_true rfl⟩ (c_X1_letPass ax (mm.1 19 1 0) mm _ h) rfl rfl (gV kw_6_88 kw_4_139 ks_56 kw_1_9 kw_4_140) hy_X1_letPass ⟨Nat.le_of_ble_eq_true rfl, Nat.le_of_ble_eq_true rfl⟩) (fun r_16 m_17 h => ?_)
    exact hE _ _ _ _ dX1_carryOutLine_208 h
  have h := h.2
  have nc_1_116 := c_1
  by_cases c_1 : p0 = 119
  · have h := h.1 c_1
    refine q_tabI (k := 119) (tgt := 125) X dX1_carryOutLine_1 c_1 (by decide) (by decide) rfl (by decide) ?_
    refine q_aload_n (j := 0) X dX1_carryOutLine_125 rfl rfl ?_
    refine q_aload_n (j := 2) X dX1_carryOutLine_126 rfl rfl ?_
    refine q_iconst (v := 0) X dX1_carryOutLine_127 (by decide) ?_
    refine q_iald (t := 19) (i := 1) (jn := 0) (v := .int (mm.1 19 1 0)) X hK rfl rfl (gc (t := 19) (by decide) (ok1 (t := 19) (Nat.le_of_ble_eq_true rfl))) rfl (vpl (by decide +kernel)) (by decide +kernel) rfl dX1_carryOutLine_128 ?_
    refine q_aload_n (j := 2) X dX1_carryOutLine_129 rfl rfl ?_
    refine q_iconst (v := 1) X dX1_carryOutLine_130 (by decide) ?_
    refine q_iald (t := 19) (i := 1) (jn := 1) (v := .int (mm.1 19 1 1)) X hK rfl rfl (gc (t := 19) (by decide) (ok1 (t := 19) (Nat.le_of_ble_eq_true rfl))) rfl (vpl (by decide +kernel)) (by decide +kernel) rfl dX1_carryOutLine_131 ?_
    refine q_calli (q_runV X hK hZ zo (gc (t := 16) (by decide) (ok1 (t := 16) (Nat.le_of_ble_eq_true rfl))) rfl rfl [.int (mm.1 19 1 0), .int (mm.1 19 1 1)] [] rfl rfl (Nat.le_of_ble_eq_true rfl) dX1_carryOutLine_132 ⟨Nat.le_of_ble_eq_true rfl, Nat.le_of_ble_eq_true rfl⟩ (c_X1_takeIntoCountry ax (mm.1 19 1 0) (mm.1 19 1 1) mm _ h) rfl rfl (gV kw_6_80 kw_3_101 ks_18 kw_1_9 kw_3_102) hy_X1_takeIntoCountry ⟨Nat.le_of_ble_eq_true rfl, Nat.le_of_ble_eq_true rfl⟩) (fun r_18 m_19 h => ?_)
    exact hE _ _ _ _ dX1_carryOutLine_135 h
  have h := h.2
  have nc_1_119 := c_1
  by_cases c_1 : p0 = 120
  · have h := h.1 c_1
    refine q_tabI (k := 120) (tgt := 136) X dX1_carryOutLine_1 c_1 (by decide) (by decide) rfl (by decide) ?_
    refine q_aload_n (j := 0) X dX1_carryOutLine_136 rfl rfl ?_
    refine q_aload_n (j := 2) X dX1_carryOutLine_137 rfl rfl ?_
    refine q_iconst (v := 0) X dX1_carryOutLine_138 (by decide) ?_
    refine q_iald (t := 19) (i := 1) (jn := 0) (v := .int (mm.1 19 1 0)) X hK rfl rfl (gc (t := 19) (by decide) (ok1 (t := 19) (Nat.le_of_ble_eq_true rfl))) rfl (vpl (by decide +kernel)) (by decide +kernel) rfl dX1_carryOutLine_139 ?_
    refine q_aload_n (j := 2) X dX1_carryOutLine_140 rfl rfl ?_
    refine q_iconst (v := 1) X dX1_carryOutLine_141 (by decide) ?_
    refine q_iald (t := 19) (i := 1) (jn := 1) (v := .int (mm.1 19 1 1)) X hK rfl rfl (gc (t := 19) (by decide) (ok1 (t := 19) (Nat.le_of_ble_eq_true rfl))) rfl (vpl (by decide +kernel)) (by decide +kernel) rfl dX1_carryOutLine_142 ?_
    refine q_calli (q_runV X hK hZ zo (gc (t := 16) (by decide) (ok1 (t := 16) (Nat.le_of_ble_eq_true rfl))) rfl rfl [.int (mm.1 19 1 0), .int (mm.1 19 1 1)] [] rfl rfl (Nat.le_of_ble_eq_true rfl) dX1_carryOutLine_143 ⟨Nat.le_of_ble_eq_true rfl, Nat.le_of_ble_eq_true rfl⟩ (c_X1_takeAbroad ax (mm.1 19 1 0) (mm.1 19 1 1) mm _ h) rfl rfl (gV kw_6_81 kw_3_155 ks_28 kw_1_9 kw_3_156) hy_X1_takeAbroad ⟨Nat.le_of_ble_eq_true rfl, Nat.le_of_ble_eq_true rfl⟩) (fun r_20 m_21 h => ?_)
    exact hE _ _ _ _ dX1_carryOutLine_146 h
  have h := h.2
  have nc_1_120 := c_1
  have h := h nc_1_98 nc_1_100 nc_1_101 nc_1_103 nc_1_108 nc_1_109 nc_1_111 nc_1_116 nc_1_119 nc_1_120
  refine q_tabD (ks := [98, 100, 101, 103, 108, 109, 111, 116, 119, 120]) (tgt := 209) X dX1_carryOutLine_1 (by intro k hk; simp only [List.mem_cons, List.not_mem_nil, or_false] at hk; rcases hk with rfl | rfl | rfl | rfl | rfl | rfl | rfl | rfl | rfl | rfl <;> assumption) (by decide +kernel) (by decide) ?_
  refine q_bipush (v := (-2)) X dX1_carryOutLine_209 (by decide) ?_
  exact hE _ _ _ _ dX1_carryOutLine_211 h
theorem dX4_wipe_0 : decode cX4_wipe 0 = .ok (.aload_n 0, 1) := by decide +kernel
theorem dX4_wipe_1 : decode cX4_wipe 1 = .ok (.getfield 18, 3) := by decide +kernel
theorem dX4_wipe_4 : decode cX4_wipe 4 = .ok (.istore_n 1, 1) := by decide +kernel
theorem dX4_wipe_5 : decode cX4_wipe 5 = .ok (.aload_n 0, 1) := by decide +kernel
theorem dX4_wipe_6 : decode cX4_wipe 6 = .ok (.iconst 0, 1) := by decide +kernel
theorem dX4_wipe_7 : decode cX4_wipe 7 = .ok (.putfield 18, 3) := by decide +kernel
theorem dX4_wipe_10 : decode cX4_wipe 10 = .ok (.iload_n 1, 1) := by decide +kernel
theorem dX4_wipe_11 : decode cX4_wipe 11 = .ok (.ireturn, 1) := by decide +kernel
def w_X4_wipe  (mm : Mm) (Q9 : Int32 → Mm → Prop) : Prop :=
  ∀ x_1 : Int32, x_1 = (mm.1 17 1 1) → (∀ m_2 : Mm, m_2 = sI mm 17 1 1 0 → (Q9 x_1 m_2))
def rm_X4_wipe : Room := { frames := 0, cells := 0, slots := 0, locals := 0 }
theorem hy_X4_wipe : yX4_wipe.cls = RX4 ∧ yX4_wipe.cls ≠ "java/lang/invoke/MethodHandle" ∧ yX4_wipe.cls ≠ "java/lang/invoke/VarHandle" ∧ (parseMethodDescriptor yX4_wipe.desc).map (fun d => d.parameters.length) = some 0 := by decide +kernel
set_option maxRecDepth 100000 in
set_option maxHeartbeats 4000000 in
theorem c_X4_wipe {l : Launch} {D : va_G} {cA : Nat → ClassId} {ad : Nat → Nat → Nat} {A : Nat → Prop} (ax : Ax ad GC A)  (mm : Mm) (Q9 : Int32 → Mm → Prop) (h : w_X4_wipe mm Q9) : Met l yX4_wipe (.code yX4_wipe cX4_wipe 2 (some .int) :: TG) rm_X4_wipe (PcM TT D cA ad false GC (ZC ad A) [.ref (ad 17 1)] mm) (AnsI TT D cA ad false GC A Q9) 0 0 A := by
  have zo := ZC_ok ad A
  unfold w_X4_wipe at h
  refine enterI pl_X4 ⟨rfl, rfl⟩ rfl (Nat.le_of_ble_eq_true rfl) ?_
  intro p e s m args below meth c QQ X hK hZ hnm hE
  refine q_aload_n (j := 0) X dX4_wipe_0 rfl rfl ?_
  refine q_get (k := 1) (v := .int (mm.1 17 1 1)) X hK rfl rfl (Nat.le_of_ble_eq_true rfl) inTX4 (gc (t := 17) (by decide) (ok1 (t := 17) (Nat.le_of_ble_eq_true rfl))) kw_2_90 rfl rfl dX4_wipe_1 ?_
  refine q_topi (fun x_1 ex_1 => ?_)
  have h := h x_1 ex_1
  refine q_istore_n (lv' := [(1, .int x_1), (0, .ref (ad 17 1))]) X dX4_wipe_4 rfl (by decide) rfl ?_
  refine q_aload_n (j := 1) X dX4_wipe_5 rfl rfl ?_
  refine q_iconst (v := 0) X dX4_wipe_6 (by decide) ?_
  refine q_putI (k := 1) X ax hK rfl rfl (Nat.le_of_ble_eq_true rfl) inTX4 (gc (t := 17) (by decide) (ok1 (t := 17) (Nat.le_of_ble_eq_true rfl))) tyX4 tyX4_ok nmX4 kw_2_90 rfl rfl (tyX4_ok 1 (Nat.le_of_ble_eq_true rfl)) rfl dX4_wipe_7 ?_
  refine q_nmP (fun m_2 em_2 => ?_)
  have h := h m_2 em_2
  refine q_iload_n (j := 0) X dX4_wipe_10 rfl rfl ?_
  exact hE _ _ _ _ dX4_wipe_11 h
theorem dX3_restoreLast_0 : decode cX3_restoreLast 0 = .ok (.aload_n 0, 1) := by decide +kernel
theorem dX3_restoreLast_1 : decode cX3_restoreLast 1 = .ok (.aload_n 0, 1) := by decide +kernel
theorem dX3_restoreLast_2 : decode cX3_restoreLast 2 = .ok (.getfield 29, 3) := by decide +kernel
theorem dX3_restoreLast_5 : decode cX3_restoreLast 5 = .ok (.iconst 1, 1) := by decide +kernel
theorem dX3_restoreLast_6 : decode cX3_restoreLast 6 = .ok (.isub, 1) := by decide +kernel
theorem dX3_restoreLast_7 : decode cX3_restoreLast 7 = .ok (.putfield 29, 3) := by decide +kernel
theorem dX3_restoreLast_10 : decode cX3_restoreLast 10 = .ok (.aload_n 1, 1) := by decide +kernel
theorem dX3_restoreLast_11 : decode cX3_restoreLast 11 = .ok (.aload_n 0, 1) := by decide +kernel
theorem dX3_restoreLast_12 : decode cX3_restoreLast 12 = .ok (.getfield 11, 3) := by decide +kernel
theorem dX3_restoreLast_15 : decode cX3_restoreLast 15 = .ok (.aload_n 0, 1) := by decide +kernel
theorem dX3_restoreLast_16 : decode cX3_restoreLast 16 = .ok (.getfield 33, 3) := by decide +kernel
theorem dX3_restoreLast_19 : decode cX3_restoreLast 19 = .ok (.aload_n 0, 1) := by decide +kernel
theorem dX3_restoreLast_20 : decode cX3_restoreLast 20 = .ok (.getfield 29, 3) := by decide +kernel
theorem dX3_restoreLast_23 : decode cX3_restoreLast 23 = .ok (.iadd, 1) := by decide +kernel
theorem dX3_restoreLast_24 : decode cX3_restoreLast 24 = .ok (.bipush 6, 2) := by decide +kernel
theorem dX3_restoreLast_26 : decode cX3_restoreLast 26 = .ok (.irem, 1) := by decide +kernel
theorem dX3_restoreLast_27 : decode cX3_restoreLast 27 = .ok (.aaload, 1) := by decide +kernel
theorem dX3_restoreLast_28 : decode cX3_restoreLast 28 = .ok (.invokevirtual 36, 3) := by decide +kernel
theorem dX3_restoreLast_31 : decode cX3_restoreLast 31 = .ok (.return_, 1) := by decide +kernel
def w_X3_restoreLast (p0 : Nat) (mm : Mm) (Q9 : Mm → Prop) : Prop :=
  ∀ m_1 : Mm, m_1 = sI mm 12 1 2 ((mm.1 12 1 2) - 1) → (vp_in (((m_1.1 12 1 1) + (m_1.1 12 1 2)) - ((m_1.1 12 1 1) + (m_1.1 12 1 2)) / 6 * 6) 6 ∧ (w_X8_copyFrom p0 ((((m_1.1 12 1 1) + (m_1.1 12 1 2)) - ((m_1.1 12 1 1) + (m_1.1 12 1 2)) / 6 * 6).toNatClampNeg + 2) m_1 (fun (m_4 : Mm) => Q9 m_4)))
def rm_X3_restoreLast : Room := { frames := 2, cells := 0, slots := 0, locals := 43 }
theorem hy_X3_restoreLast : yX3_restoreLast.cls = RX3 ∧ yX3_restoreLast.cls ≠ "java/lang/invoke/MethodHandle" ∧ yX3_restoreLast.cls ≠ "java/lang/invoke/VarHandle" ∧ (parseMethodDescriptor yX3_restoreLast.desc).map (fun d => d.parameters.length) = some 1 := by decide +kernel
set_option maxRecDepth 100000 in
set_option maxHeartbeats 4000000 in
theorem c_X3_restoreLast {l : Launch} {D : va_G} {cA : Nat → ClassId} {ad : Nat → Nat → Nat} {A : Nat → Prop} (ax : Ax ad GC A) (p0 : Nat) (hp0 : ok 1 p0) (mm : Mm) (Q9 : Mm → Prop) (h : w_X3_restoreLast p0 mm Q9) : Met l yX3_restoreLast (.code yX3_restoreLast cX3_restoreLast 2 none :: TG) rm_X3_restoreLast (PcM TT D cA ad false GC (ZC ad A) [.ref (ad 12 1), .ref (ad 1 p0)] mm) (AnsV TT D cA ad false GC A Q9) 0 0 A := by
  have zo := ZC_ok ad A
  unfold w_X3_restoreLast at h
  refine enterV pl_X3 ⟨rfl, rfl⟩ rfl (Nat.le_of_ble_eq_true rfl) ?_
  intro p e s m args below meth c QQ X hK hZ hnm hE
  refine q_aload_n (j := 0) X dX3_restoreLast_0 rfl rfl ?_
  refine q_aload_n (j := 0) X dX3_restoreLast_1 rfl rfl ?_
  refine q_get (k := 2) (v := .int (mm.1 12 1 2)) X hK rfl rfl (Nat.le_of_ble_eq_true rfl) inTX3 (gc (t := 12) (by decide) (ok1 (t := 12) (Nat.le_of_ble_eq_true rfl))) kw_2_47 rfl rfl dX3_restoreLast_2 ?_
  refine q_iconst (v := 1) X dX3_restoreLast_5 (by decide) ?_
  refine q_isub X dX3_restoreLast_6 ?_
  refine q_putI (k := 2) X ax hK rfl rfl (Nat.le_of_ble_eq_true rfl) inTX3 (gc (t := 12) (by decide) (ok1 (t := 12) (Nat.le_of_ble_eq_true rfl))) tyX3 tyX3_ok nmX3 kw_2_47 rfl rfl (tyX3_ok 2 (Nat.le_of_ble_eq_true rfl)) rfl dX3_restoreLast_7 ?_
  refine q_nmP (fun m_1 em_1 => ?_)
  have h := h m_1 em_1
  refine q_aload_n (j := 1) X dX3_restoreLast_10 rfl rfl ?_
  refine q_aload_n (j := 0) X dX3_restoreLast_11 rfl rfl ?_
  refine q_get (k := 0) (v := .ref (ad 13 1)) X hK rfl rfl (Nat.le_of_ble_eq_true rfl) inTX3 (gc (t := 12) (by decide) (ok1 (t := 12) (Nat.le_of_ble_eq_true rfl))) kw_2_45 rfl (rv_nn (a := ad 13) (r := 1) (ok1 (t := 13) (Nat.le_of_ble_eq_true rfl)).1) dX3_restoreLast_12 ?_
  refine q_aload_n (j := 0) X dX3_restoreLast_15 rfl rfl ?_
  refine q_get (k := 1) (v := .int (m_1.1 12 1 1)) X hK rfl rfl (Nat.le_of_ble_eq_true rfl) inTX3 (gc (t := 12) (by decide) (ok1 (t := 12) (Nat.le_of_ble_eq_true rfl))) kw_2_46 rfl rfl dX3_restoreLast_16 ?_
  refine q_aload_n (j := 0) X dX3_restoreLast_19 rfl rfl ?_
  refine q_get (k := 2) (v := .int (m_1.1 12 1 2)) X hK rfl rfl (Nat.le_of_ble_eq_true rfl) inTX3 (gc (t := 12) (by decide) (ok1 (t := 12) (Nat.le_of_ble_eq_true rfl))) kw_2_47 rfl rfl dX3_restoreLast_20 ?_
  refine q_iadd X dX3_restoreLast_23 ?_
  refine q_bipush (v := 6) X dX3_restoreLast_24 (by decide) ?_
  refine q_irem X dX3_restoreLast_26 (by decide) ?_
  obtain ⟨b_2, h⟩ := h
  refine q_aald (t := 13) (i := 1) (jn := (((m_1.1 12 1 1) + (m_1.1 12 1 2)) - ((m_1.1 12 1 1) + (m_1.1 12 1 2)) / 6 * 6).toNatClampNeg) (v := .ref (ad 1 ((((m_1.1 12 1 1) + (m_1.1 12 1 2)) - ((m_1.1 12 1 1) + (m_1.1 12 1 2)) / 6 * 6).toNatClampNeg + 2))) X hK rfl rfl (gc (t := 13) (by decide) (ok1 (t := 13) (Nat.le_of_ble_eq_true rfl))) rfl b_2 rfl (rv_nn (a := ad 1) (r := ((((m_1.1 12 1 1) + (m_1.1 12 1 2)) - ((m_1.1 12 1 1) + (m_1.1 12 1 2)) / 6 * 6).toNatClampNeg + 2)) (ok_sv (ok1 (t := 13) (Nat.le_of_ble_eq_true rfl)) b_2).1) dX3_restoreLast_27 ?_
  refine q_callv (q_runVN X hK hZ zo (gc (t := 1) (by decide) hp0) rfl rfl [.ref (ad 1 ((((m_1.1 12 1 1) + (m_1.1 12 1 2)) - ((m_1.1 12 1 1) + (m_1.1 12 1 2)) / 6 * 6).toNatClampNeg + 2))] [] rfl rfl (Nat.le_of_ble_eq_true rfl) dX3_restoreLast_28 ⟨Nat.le_of_ble_eq_true rfl, Nat.le_of_ble_eq_true rfl⟩ (c_X8_copyFrom ax p0 hp0 ((((m_1.1 12 1 1) + (m_1.1 12 1 2)) - ((m_1.1 12 1 1) + (m_1.1 12 1 2)) / 6 * 6).toNatClampNeg + 2) (ok_sv (ok1 (t := 13) (Nat.le_of_ble_eq_true rfl)) b_2) m_1 _ h) rfl rfl (List.mem_of_getElem? (i := 16) rfl) kw_1_2 kw_2_198 kw_2_197 ks_10 hy_X8_copyFrom.2 ⟨Nat.le_of_ble_eq_true rfl, Nat.le_of_ble_eq_true rfl⟩) (fun m_4 h => ?_)
  exact hE _ _ _ dX3_restoreLast_31 h
theorem dX9_savedStates_0 : decode cX9_savedStates 0 = .ok (.aload_n 0, 1) := by decide +kernel
theorem dX9_savedStates_1 : decode cX9_savedStates 1 = .ok (.getfield 19, 3) := by decide +kernel
theorem dX9_savedStates_4 : decode cX9_savedStates 4 = .ok (.getfield 388, 3) := by decide +kernel
theorem dX9_savedStates_7 : decode cX9_savedStates 7 = .ok (.ireturn, 1) := by decide +kernel
def w_X9_savedStates  (mm : Mm) (Q9 : Int32 → Prop) : Prop :=
  Q9 (mm.1 12 1 2)
def rm_X9_savedStates : Room := { frames := 0, cells := 0, slots := 0, locals := 0 }
theorem hy_X9_savedStates : yX9_savedStates.cls = RX9 ∧ yX9_savedStates.cls ≠ "java/lang/invoke/MethodHandle" ∧ yX9_savedStates.cls ≠ "java/lang/invoke/VarHandle" ∧ (parseMethodDescriptor yX9_savedStates.desc).map (fun d => d.parameters.length) = some 0 := by decide +kernel
set_option maxRecDepth 100000 in
set_option maxHeartbeats 4000000 in
theorem c_X9_savedStates {l : Launch} {D : va_G} {cA : Nat → ClassId} {ad : Nat → Nat → Nat} {A : Nat → Prop} (ax : Ax ad GC A)  (mm : Mm) (Q9 : Int32 → Prop) (h : w_X9_savedStates mm Q9) : Met l yX9_savedStates (.code yX9_savedStates cX9_savedStates 1 (some .int) :: TG) rm_X9_savedStates (PcM TT D cA ad false GC (ZC ad A) [.ref (ad 0 1)] mm) (AnsI TT D cA ad false GC A (fun r mm' => Q9 r ∧ mm = mm')) 0 0 A := by
  have zo := ZC_ok ad A
  unfold w_X9_savedStates at h
  refine enterI pl_X9 ⟨rfl, rfl⟩ rfl (Nat.le_of_ble_eq_true rfl) ?_
  intro p e s m args below meth c QQ X hK hZ hnm hE
  refine q_aload_n (j := 0) X dX9_savedStates_0 rfl rfl ?_
  refine q_get (k := 1) (v := .ref (ad 12 1)) X hK rfl rfl (Nat.le_of_ble_eq_true rfl) inTX9 (gc (t := 0) (by decide) (ok1 (t := 0) (Nat.le_of_ble_eq_true rfl))) kw_2_112 rfl (rv_nn (a := ad 12) (r := 1) (ok1 (t := 12) (Nat.le_of_ble_eq_true rfl)).1) dX9_savedStates_1 ?_
  refine q_getN (k := 2) (v := .int (mm.1 12 1 2)) X hK rfl rfl (Nat.le_of_ble_eq_true rfl) inTX3 (gc (t := 12) (by decide) (ok1 (t := 12) (Nat.le_of_ble_eq_true rfl))) (List.mem_of_getElem? (i := 81) rfl) rfl rfl dX9_savedStates_4 ?_
  exact hE _ _ _ _ dX9_savedStates_7 ⟨h, rfl⟩
theorem dX3_fillSlot_0 : decode cX3_fillSlot 0 = .ok (.aload_n 0, 1) := by decide +kernel
theorem dX3_fillSlot_1 : decode cX3_fillSlot 1 = .ok (.getfield 17, 3) := by decide +kernel
theorem dX3_fillSlot_4 : decode cX3_fillSlot 4 = .ok (.iload_n 1, 1) := by decide +kernel
theorem dX3_fillSlot_5 : decode cX3_fillSlot 5 = .ok (.aaload, 1) := by decide +kernel
theorem dX3_fillSlot_6 : decode cX3_fillSlot 6 = .ok (.aload_n 2, 1) := by decide +kernel
theorem dX3_fillSlot_7 : decode cX3_fillSlot 7 = .ok (.invokevirtual 36, 3) := by decide +kernel
theorem dX3_fillSlot_10 : decode cX3_fillSlot 10 = .ok (.aload_n 0, 1) := by decide +kernel
theorem dX3_fillSlot_11 : decode cX3_fillSlot 11 = .ok (.getfield 20, 3) := by decide +kernel
theorem dX3_fillSlot_14 : decode cX3_fillSlot 14 = .ok (.iload_n 1, 1) := by decide +kernel
theorem dX3_fillSlot_15 : decode cX3_fillSlot 15 = .ok (.iconst 1, 1) := by decide +kernel
theorem dX3_fillSlot_16 : decode cX3_fillSlot 16 = .ok (.bastore, 1) := by decide +kernel
theorem dX3_fillSlot_17 : decode cX3_fillSlot 17 = .ok (.return_, 1) := by decide +kernel
def w_X3_fillSlot (p0 : Int32) (p1 : Nat) (mm : Mm) (Q9 : Mm → Prop) : Prop :=
  vp_in p0 2 ∧ (w_X8_copyFrom (p0.toNatClampNeg + 8) p1 mm (fun (m_3 : Mm) => ∀ m_4 : Mm, m_4 = sI m_3 15 1 p0.toNatClampNeg 1 → (Q9 m_4)))
def rm_X3_fillSlot : Room := { frames := 2, cells := 0, slots := 0, locals := 43 }
theorem hy_X3_fillSlot : yX3_fillSlot.cls = RX3 ∧ yX3_fillSlot.cls ≠ "java/lang/invoke/MethodHandle" ∧ yX3_fillSlot.cls ≠ "java/lang/invoke/VarHandle" ∧ (parseMethodDescriptor yX3_fillSlot.desc).map (fun d => d.parameters.length) = some 2 := by decide +kernel
set_option maxRecDepth 100000 in
set_option maxHeartbeats 4000000 in
theorem c_X3_fillSlot {l : Launch} {D : va_G} {cA : Nat → ClassId} {ad : Nat → Nat → Nat} {A : Nat → Prop} (ax : Ax ad GC A) (p0 : Int32) (p1 : Nat) (hp1 : ok 1 p1) (mm : Mm) (Q9 : Mm → Prop) (h : w_X3_fillSlot p0 p1 mm Q9) : Met l yX3_fillSlot (.code yX3_fillSlot cX3_fillSlot 3 none :: TG) rm_X3_fillSlot (PcM TT D cA ad false GC (ZC ad A) [.ref (ad 12 1), .int p0, .ref (ad 1 p1)] mm) (AnsV TT D cA ad false GC A Q9) 0 0 A := by
  have zo := ZC_ok ad A
  unfold w_X3_fillSlot at h
  refine enterV pl_X3 ⟨rfl, rfl⟩ rfl (Nat.le_of_ble_eq_true rfl) ?_
  intro p e s m args below meth c QQ X hK hZ hnm hE
  refine q_aload_n (j := 0) X dX3_fillSlot_0 rfl rfl ?_
  refine q_get (k := 3) (v := .ref (ad 14 1)) X hK rfl rfl (Nat.le_of_ble_eq_true rfl) inTX3 (gc (t := 12) (by decide) (ok1 (t := 12) (Nat.le_of_ble_eq_true rfl))) kw_2_49 rfl (rv_nn (a := ad 14) (r := 1) (ok1 (t := 14) (Nat.le_of_ble_eq_true rfl)).1) dX3_fillSlot_1 ?_
  refine q_iload_n (j := 1) X dX3_fillSlot_4 rfl rfl ?_
  obtain ⟨b_1, h⟩ := h
  refine q_aald (t := 14) (i := 1) (jn := p0.toNatClampNeg) (v := .ref (ad 1 (p0.toNatClampNeg + 8))) X hK rfl rfl (gc (t := 14) (by decide) (ok1 (t := 14) (Nat.le_of_ble_eq_true rfl))) rfl b_1 rfl (rv_nn (a := ad 1) (r := (p0.toNatClampNeg + 8)) (ok_sl (ok1 (t := 14) (Nat.le_of_ble_eq_true rfl)) b_1).1) dX3_fillSlot_5 ?_
  refine q_aload_n (j := 2) X dX3_fillSlot_6 rfl rfl ?_
  refine q_callv (q_runVN X hK hZ zo (gc (t := 1) (by decide) (ok_sl (ok1 (t := 14) (Nat.le_of_ble_eq_true rfl)) b_1)) rfl rfl [.ref (ad 1 p1)] [] rfl rfl (Nat.le_of_ble_eq_true rfl) dX3_fillSlot_7 ⟨Nat.le_of_ble_eq_true rfl, Nat.le_of_ble_eq_true rfl⟩ (c_X8_copyFrom ax (p0.toNatClampNeg + 8) (ok_sl (ok1 (t := 14) (Nat.le_of_ble_eq_true rfl)) b_1) p1 hp1 mm _ h) rfl rfl (List.mem_of_getElem? (i := 16) rfl) kw_1_2 kw_2_198 kw_2_197 ks_10 hy_X8_copyFrom.2 ⟨Nat.le_of_ble_eq_true rfl, Nat.le_of_ble_eq_true rfl⟩) (fun m_3 h => ?_)
  refine q_aload_n (j := 0) X dX3_fillSlot_10 rfl rfl ?_
  refine q_get (k := 4) (v := .ref (ad 15 1)) X hK rfl rfl (Nat.le_of_ble_eq_true rfl) inTX3 (gc (t := 12) (by decide) (ok1 (t := 12) (Nat.le_of_ble_eq_true rfl))) kw_2_51 rfl (rv_nn (a := ad 15) (r := 1) (ok1 (t := 15) (Nat.le_of_ble_eq_true rfl)).1) dX3_fillSlot_11 ?_
  refine q_iload_n (j := 1) X dX3_fillSlot_14 rfl rfl ?_
  refine q_iconst (v := 1) X dX3_fillSlot_15 (by decide) ?_
  refine q_zast (t := 15) (i := 1) (jn := p0.toNatClampNeg) X ax hK rfl rfl (gc (t := 15) (by decide) (ok1 (t := 15) (Nat.le_of_ble_eq_true rfl))) rfl b_1 rfl (Or.inr rfl) rfl dX3_fillSlot_16 ?_
  refine q_nmP (fun m_4 em_4 => ?_)
  have h := h m_4 em_4
  exact hE _ _ _ dX3_fillSlot_17 h
