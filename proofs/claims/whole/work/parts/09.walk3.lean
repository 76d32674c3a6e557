theorem dX8_cheapestBehind_0 : decode cX8_cheapestBehind 0 = .ok (.iconst (-1), 1) := by decide +kernel
theorem dX8_cheapestBehind_1 : decode cX8_cheapestBehind 1 = .ok (.istore_n 3, 1) := by decide +kernel
theorem dX8_cheapestBehind_2 : decode cX8_cheapestBehind 2 = .ok (.iconst 0, 1) := by decide +kernel
theorem dX8_cheapestBehind_3 : decode cX8_cheapestBehind 3 = .ok (.istore 4, 2) := by decide +kernel
theorem dX8_cheapestBehind_5 : decode cX8_cheapestBehind 5 = .ok (.iload 4, 2) := by decide +kernel
theorem dX8_cheapestBehind_7 : decode cX8_cheapestBehind 7 = .ok (.aload_n 0, 1) := by decide +kernel
theorem dX8_cheapestBehind_8 : decode cX8_cheapestBehind 8 = .ok (.getfield 62, 3) := by decide +kernel
theorem dX8_cheapestBehind_11 : decode cX8_cheapestBehind 11 = .ok (.if_icmp .ge 56, 3) := by decide +kernel
theorem dX8_cheapestBehind_14 : decode cX8_cheapestBehind 14 = .ok (.aload_n 0, 1) := by decide +kernel
theorem dX8_cheapestBehind_15 : decode cX8_cheapestBehind 15 = .ok (.getfield 20, 3) := by decide +kernel
theorem dX8_cheapestBehind_18 : decode cX8_cheapestBehind 18 = .ok (.iload 4, 2) := by decide +kernel
theorem dX8_cheapestBehind_20 : decode cX8_cheapestBehind 20 = .ok (.aaload, 1) := by decide +kernel
theorem dX8_cheapestBehind_21 : decode cX8_cheapestBehind 21 = .ok (.getfield 113, 3) := by decide +kernel
theorem dX8_cheapestBehind_24 : decode cX8_cheapestBehind 24 = .ok (.iload_n 2, 1) := by decide +kernel
theorem dX8_cheapestBehind_25 : decode cX8_cheapestBehind 25 = .ok (.if_icmp .ne 36, 3) := by decide +kernel
theorem dX8_cheapestBehind_28 : decode cX8_cheapestBehind 28 = .ok (.iload_n 1, 1) := by decide +kernel
theorem dX8_cheapestBehind_29 : decode cX8_cheapestBehind 29 = .ok (.iconst (-1), 1) := by decide +kernel
theorem dX8_cheapestBehind_30 : decode cX8_cheapestBehind 30 = .ok (.if_icmp .eq 13, 3) := by decide +kernel
theorem dX8_cheapestBehind_33 : decode cX8_cheapestBehind 33 = .ok (.aload_n 0, 1) := by decide +kernel
theorem dX8_cheapestBehind_34 : decode cX8_cheapestBehind 34 = .ok (.iload_n 1, 1) := by decide +kernel
theorem dX8_cheapestBehind_35 : decode cX8_cheapestBehind 35 = .ok (.iload 4, 2) := by decide +kernel
theorem dX8_cheapestBehind_37 : decode cX8_cheapestBehind 37 = .ok (.invokevirtual 190, 3) := by decide +kernel
theorem dX8_cheapestBehind_40 : decode cX8_cheapestBehind 40 = .ok (.ifCond .eq 21, 3) := by decide +kernel
theorem dX8_cheapestBehind_43 : decode cX8_cheapestBehind 43 = .ok (.iload_n 3, 1) := by decide +kernel
theorem dX8_cheapestBehind_44 : decode cX8_cheapestBehind 44 = .ok (.iconst (-1), 1) := by decide +kernel
theorem dX8_cheapestBehind_45 : decode cX8_cheapestBehind 45 = .ok (.if_icmp .eq 13, 3) := by decide +kernel
theorem dX8_cheapestBehind_48 : decode cX8_cheapestBehind 48 = .ok (.aload_n 0, 1) := by decide +kernel
theorem dX8_cheapestBehind_49 : decode cX8_cheapestBehind 49 = .ok (.iload 4, 2) := by decide +kernel
theorem dX8_cheapestBehind_51 : decode cX8_cheapestBehind 51 = .ok (.iload_n 3, 1) := by decide +kernel
theorem dX8_cheapestBehind_52 : decode cX8_cheapestBehind 52 = .ok (.invokevirtual 190, 3) := by decide +kernel
theorem dX8_cheapestBehind_55 : decode cX8_cheapestBehind 55 = .ok (.ifCond .eq 6, 3) := by decide +kernel
theorem dX8_cheapestBehind_58 : decode cX8_cheapestBehind 58 = .ok (.iload 4, 2) := by decide +kernel
theorem dX8_cheapestBehind_60 : decode cX8_cheapestBehind 60 = .ok (.istore_n 3, 1) := by decide +kernel
theorem dX8_cheapestBehind_61 : decode cX8_cheapestBehind 61 = .ok (.iinc 4 1, 3) := by decide +kernel
theorem dX8_cheapestBehind_64 : decode cX8_cheapestBehind 64 = .ok (.goto (-59), 3) := by decide +kernel
theorem dX8_cheapestBehind_67 : decode cX8_cheapestBehind 67 = .ok (.iload_n 3, 1) := by decide +kernel
theorem dX8_cheapestBehind_68 : decode cX8_cheapestBehind 68 = .ok (.ireturn, 1) := by decide +kernel
def w_X8_cheapestBehind_J43 (i : Nat) (mm : Mm) (y_1 : Int32) (y_2 : Int32) (K_3 : Int32 → Int32 → Prop) : Prop :=
  ((y_1 = (-1) → ∀ x_11 : Int32, x_11 = y_2 + 1 → (K_3 y_2 x_11)) ∧
  (¬ y_1 = (-1) → w_X8_isCheaper i y_2 y_1 mm (fun (r_12 : Int32) => ((r_12 = 0 → ∀ x_15 : Int32, x_15 = y_2 + 1 → (K_3 y_1 x_15)) ∧
  (¬ r_12 = 0 → ∀ x_16 : Int32, x_16 = y_2 + 1 → (K_3 y_2 x_16))))))
def w_X8_cheapestBehind_B5 (i : Nat) (p0 : Int32) (p1 : Int32) (mm : Mm) (Q9 : Int32 → Prop) (K_3 : Int32 → Int32 → Prop) (y_1 : Int32) (y_2 : Int32) : Prop :=
  (((mm.1 1 i 1) ≤ y_2 → Q9 y_1) ∧
  (¬ (mm.1 1 i 1) ≤ y_2 → vp_in y_2 16 ∧ (ok 3 (mm.2 7 i y_2.toNatClampNeg) ∧ (((¬ (mm.1 3 (mm.2 7 i y_2.toNatClampNeg) 1) = p1 → ∀ x_9 : Int32, x_9 = y_2 + 1 → (K_3 y_1 x_9)) ∧
  ((mm.1 3 (mm.2 7 i y_2.toNatClampNeg) 1) = p1 → ((p0 = (-1) → w_X8_cheapestBehind_J43 i mm y_1 y_2 K_3) ∧
  (¬ p0 = (-1) → w_X8_isCheaper i p0 y_2 mm (fun (r_18 : Int32) => ((r_18 = 0 → ∀ x_21 : Int32, x_21 = y_2 + 1 → (K_3 y_1 x_21)) ∧
  (¬ r_18 = 0 → w_X8_cheapestBehind_J43 i mm y_1 y_2 K_3)))))))))))
def w_X8_cheapestBehind (i : Nat) (p0 : Int32) (p1 : Int32) (mm : Mm) (Q9 : Int32 → Prop) : Prop :=
  ∃ n, itr (α := Int32 × Int32) (fun K a => w_X8_cheapestBehind_B5 i p0 p1 mm Q9 (fun z0 z1 => K (z0, z1)) a.1 a.2) n ((-1), 0)
def rm_X8_cheapestBehind : Room := { frames := 1, cells := 0, slots := 0, locals := 26 }
theorem hy_X8_cheapestBehind : yX8_cheapestBehind.cls = RX8 ∧ yX8_cheapestBehind.cls ≠ "java/lang/invoke/MethodHandle" ∧ yX8_cheapestBehind.cls ≠ "java/lang/invoke/VarHandle" ∧ (parseMethodDescriptor yX8_cheapestBehind.desc).map (fun d => d.parameters.length) = some 2 := by decide +kernel
set_option maxRecDepth 100000 in
set_option maxHeartbeats 4000000 in
theorem c_X8_cheapestBehind {l : Launch} {D : va_G} {cA : Nat → ClassId} {ad : Nat → Nat → Nat} {A : Nat → Prop} (ax : Ax ad GC A) (i : Nat) (hi : ok 1 i) (p0 : Int32) (p1 : Int32) (mm : Mm) (Q9 : Int32 → Prop) (h : w_X8_cheapestBehind i p0 p1 mm Q9) : Met l yX8_cheapestBehind (.code yX8_cheapestBehind cX8_cheapestBehind 5 (some .int) :: TG) rm_X8_cheapestBehind (PcM TT D cA ad false GC (ZC ad A) [.ref (ad 1 i), .int p0, .int p1] mm) (AnsI TT D cA ad false GC A (fun r mm' => Q9 r ∧ mm = mm')) 0 0 A := by
  have zo := ZC_ok ad A
  unfold w_X8_cheapestBehind at h
  refine enterI pl_X8 ⟨rfl, rfl⟩ rfl (Nat.le_of_ble_eq_true rfl) ?_
  intro p e s m args below meth c QQ X hK hZ hnm hE
  refine q_iconst (v := (-1)) X dX8_cheapestBehind_0 (by decide) ?_
  refine q_istore_n (lv' := [(3, .int (-1)), (0, .ref (ad 1 i)), (1, .int p0), (2, .int p1)]) X dX8_cheapestBehind_1 rfl (by decide) rfl ?_
  refine q_iconst (v := 0) X dX8_cheapestBehind_2 (by decide) ?_
  refine q_istore (lv' := [(4, .int 0), (3, .int (-1)), (0, .ref (ad 1 i)), (1, .int p0), (2, .int p1)]) X dX8_cheapestBehind_3 (by decide) rfl ?_
  refine q_sub [2, 3, 4, 1, 0] rfl ?_
  have L5 : ∀ (n : Nat) (y_1 : Int32) (y_2 : Int32), itr (α := Int32 × Int32) (fun K a => w_X8_cheapestBehind_B5 i p0 p1 mm Q9 (fun z0 z1 => K (z0, z1)) a.1 a.2) n (y_1, y_2) → V p l e rm_X8_cheapestBehind s m args below meth c QQ 5 A 0 0 (Rep TT D cA ad false GC mm) 5 [(0, .ref (ad 1 i)), (1, .int p0), (2, .int p1), (3, .int y_1), (4, .int y_2)] [] := by
    intro n
    induction n with
    | zero => intro y_1 y_2 h; exact h.elim
    | succ n ih_4 =>
      intro y_1 y_2 h
      have h : w_X8_cheapestBehind_B5 i p0 p1 mm Q9 (fun z0 z1 => itr (α := Int32 × Int32) (fun K a => w_X8_cheapestBehind_B5 i p0 p1 mm Q9 (fun z0 z1 => K (z0, z1)) a.1 a.2) n (z0, z1)) y_1 y_2 := h
      generalize hKe : (fun z0 z1 => itr (α := Int32 × Int32) (fun K a => w_X8_cheapestBehind_B5 i p0 p1 mm Q9 (fun z0 z1 => K (z0, z1)) a.1 a.2) n (z0, z1)) = K_3 at h
      have ih_4k : ∀ (y_1 : Int32) (y_2 : Int32), K_3 y_1 y_2 → V p l e rm_X8_cheapestBehind s m args below meth c QQ 5 A 0 0 (Rep TT D cA ad false GC mm) 5 [(0, .ref (ad 1 i)), (1, .int p0), (2, .int p1), (3, .int y_1), (4, .int y_2)] [] := fun y_1 y_2 h => ih_4 y_1 y_2 (by rw [← hKe] at h; exact h)
      unfold w_X8_cheapestBehind_B5 at h
      refine q_iload (j := 4) X dX8_cheapestBehind_5 rfl ?_
      refine q_aload_n (j := 0) X dX8_cheapestBehind_7 rfl rfl ?_
      refine q_get (k := 1) (v := .int (mm.1 1 i 1)) X hK rfl rfl (Nat.le_of_ble_eq_true rfl) inTX8 (gc (t := 1) (by decide) hi) kw_1_231 rfl rfl dX8_cheapestBehind_8 ?_
      refine q_icmp_ge (tgt := 67) X dX8_cheapestBehind_11 (by decide) (fun c_5 => ?_) (fun c_5 => ?_)
      · have h := h.1 c_5
        refine q_iload_n (j := 3) X dX8_cheapestBehind_67 rfl rfl ?_
        exact hE _ _ _ _ dX8_cheapestBehind_68 ⟨h, rfl⟩
      · have h := h.2 c_5
        refine q_aload_n (j := 0) X dX8_cheapestBehind_14 rfl rfl ?_
        refine q_get (k := 6) (v := .ref (ad 7 i)) X hK rfl rfl (Nat.le_of_ble_eq_true rfl) inTX8 (gc (t := 1) (by decide) hi) kw_2_3 rfl (rv_nn (a := ad 7) (r := i) hi.1) dX8_cheapestBehind_15 ?_
        refine q_iload (j := 4) X dX8_cheapestBehind_18 rfl ?_
        obtain ⟨b_6, h⟩ := h
        refine q_aald (t := 7) (i := i) (jn := y_2.toNatClampNeg) (v := rv (ad 3) (mm.2 7 i y_2.toNatClampNeg)) X hK rfl rfl (gc (t := 7) (by decide) hi) rfl b_6 rfl rfl dX8_cheapestBehind_20 ?_
        obtain ⟨k_7, h⟩ := h
        rw [rv_nn (a := ad 3) (r := (mm.2 7 i y_2.toNatClampNeg)) k_7.1]
        refine q_getN (k := 1) (v := .int (mm.1 3 (mm.2 7 i y_2.toNatClampNeg) 1)) X hK rfl rfl (Nat.le_of_ble_eq_true rfl) inTX2 (gc (t := 3) (by decide) k_7) (List.mem_of_getElem? (i := 16) rfl) rfl rfl dX8_cheapestBehind_21 ?_
        refine q_iload_n (j := 2) X dX8_cheapestBehind_24 rfl rfl ?_
        refine q_icmp_ne (tgt := 61) X dX8_cheapestBehind_25 (by decide) (fun c_8 => ?_) (fun c_8 => ?_)
        · have h := h.1 c_8
          obtain ⟨x_9, ex_9⟩ : ∃ z : Int32, z = y_2 + 1 := ⟨_, rfl⟩
          have h := h x_9 ex_9
          refine q_iinc (j := 4) (v := x_9) (lv' := [(4, .int x_9), (0, .ref (ad 1 i)), (1, .int p0), (2, .int p1), (3, .int y_1)]) X dX8_cheapestBehind_61 rfl (by rw [ex_9]; rfl) (by decide) rfl ?_
          refine q_goto (tgt := 5) X dX8_cheapestBehind_64 (by decide) ?_
          refine q_sub [1, 2, 3, 4, 0] rfl ?_
          exact ih_4k y_1 x_9 h
        · have h := h.2 c_8
          refine q_iload_n (j := 1) X dX8_cheapestBehind_28 rfl rfl ?_
          refine q_iconst (v := (-1)) X dX8_cheapestBehind_29 (by decide) ?_
          have J43 : w_X8_cheapestBehind_J43 i mm y_1 y_2 K_3  → V p l e rm_X8_cheapestBehind s m args below meth c QQ 5 A 0 0 (Rep TT D cA ad false GC mm) 43 [(0, .ref (ad 1 i)), (1, .int p0), (2, .int p1), (3, .int y_1), (4, .int y_2)] [] := by
            intro  h
            unfold w_X8_cheapestBehind_J43 at h
            refine q_iload_n (j := 3) X dX8_cheapestBehind_43 rfl rfl ?_
            refine q_iconst (v := (-1)) X dX8_cheapestBehind_44 (by decide) ?_
            refine q_icmp_eq (tgt := 58) X dX8_cheapestBehind_45 (by decide) (fun c_10 => ?_) (fun c_10 => ?_)
            · have h := h.1 c_10
              refine q_iload (j := 4) X dX8_cheapestBehind_58 rfl ?_
              refine q_istore_n (lv' := [(3, .int y_2), (0, .ref (ad 1 i)), (1, .int p0), (2, .int p1), (4, .int y_2)]) X dX8_cheapestBehind_60 rfl (by decide) rfl ?_
              obtain ⟨x_11, ex_11⟩ : ∃ z : Int32, z = y_2 + 1 := ⟨_, rfl⟩
              have h := h x_11 ex_11
              refine q_iinc (j := 4) (v := x_11) (lv' := [(4, .int x_11), (3, .int y_2), (0, .ref (ad 1 i)), (1, .int p0), (2, .int p1)]) X dX8_cheapestBehind_61 rfl (by rw [ex_11]; rfl) (by decide) rfl ?_
              refine q_goto (tgt := 5) X dX8_cheapestBehind_64 (by decide) ?_
              refine q_sub [2, 3, 4, 1, 0] rfl ?_
              exact ih_4k y_2 x_11 h
            · have h := h.2 c_10
              refine q_aload_n (j := 0) X dX8_cheapestBehind_48 rfl rfl ?_
              refine q_iload (j := 4) X dX8_cheapestBehind_49 rfl ?_
              refine q_iload_n (j := 3) X dX8_cheapestBehind_51 rfl rfl ?_
              refine q_calli (q_runV X hK hZ zo (gc (t := 1) (by decide) hi) rfl rfl [.int y_2, .int y_1] [] rfl rfl (Nat.le_of_ble_eq_true rfl) dX8_cheapestBehind_52 ⟨Nat.le_of_ble_eq_true rfl, Nat.le_of_ble_eq_true rfl⟩ (c_X8_isCheaper ax i hi y_2 y_1 mm _ h) rfl rfl (gV kw_6_138 kw_6_140 ks_76 kw_1_2 kw_6_141) hy_X8_isCheaper ⟨Nat.le_of_ble_eq_true rfl, Nat.le_of_ble_eq_true rfl⟩) (fun r_12 m_13 h => ?_)
              obtain ⟨h, hm⟩ := h
              subst hm
              refine q_if_eq (tgt := 61) X dX8_cheapestBehind_55 (by decide) (fun c_14 => ?_) (fun c_14 => ?_)
              · have h := h.1 c_14
                obtain ⟨x_15, ex_15⟩ : ∃ z : Int32, z = y_2 + 1 := ⟨_, rfl⟩
                have h := h x_15 ex_15
                refine q_iinc (j := 4) (v := x_15) (lv' := [(4, .int x_15), (0, .ref (ad 1 i)), (1, .int p0), (2, .int p1), (3, .int y_1)]) X dX8_cheapestBehind_61 rfl (by rw [ex_15]; rfl) (by decide) rfl ?_
                refine q_goto (tgt := 5) X dX8_cheapestBehind_64 (by decide) ?_
                refine q_sub [1, 2, 3, 4, 0] rfl ?_
                exact ih_4k y_1 x_15 h
              · have h := h.2 c_14
                refine q_iload (j := 4) X dX8_cheapestBehind_58 rfl ?_
                refine q_istore_n (lv' := [(3, .int y_2), (0, .ref (ad 1 i)), (1, .int p0), (2, .int p1), (4, .int y_2)]) X dX8_cheapestBehind_60 rfl (by decide) rfl ?_
                obtain ⟨x_16, ex_16⟩ : ∃ z : Int32, z = y_2 + 1 := ⟨_, rfl⟩
                have h := h x_16 ex_16
                refine q_iinc (j := 4) (v := x_16) (lv' := [(4, .int x_16), (3, .int y_2), (0, .ref (ad 1 i)), (1, .int p0), (2, .int p1)]) X dX8_cheapestBehind_61 rfl (by rw [ex_16]; rfl) (by decide) rfl ?_
                refine q_goto (tgt := 5) X dX8_cheapestBehind_64 (by decide) ?_
                refine q_sub [2, 3, 4, 1, 0] rfl ?_
                exact ih_4k y_2 x_16 h
          refine q_icmp_eq (tgt := 43) X dX8_cheapestBehind_30 (by decide) (fun c_17 => ?_) (fun c_17 => ?_)
          · have h := h.1 c_17
            refine q_sub [0, 1, 2, 3, 4] rfl ?_
            exact J43  h
          · have h := h.2 c_17
            refine q_aload_n (j := 0) X dX8_cheapestBehind_33 rfl rfl ?_
            refine q_iload_n (j := 1) X dX8_cheapestBehind_34 rfl rfl ?_
            refine q_iload (j := 4) X dX8_cheapestBehind_35 rfl ?_
            refine q_calli (q_runV X hK hZ zo (gc (t := 1) (by decide) hi) rfl rfl [.int p0, .int y_2] [] rfl rfl (Nat.le_of_ble_eq_true rfl) dX8_cheapestBehind_37 ⟨Nat.le_of_ble_eq_true rfl, Nat.le_of_ble_eq_true rfl⟩ (c_X8_isCheaper ax i hi p0 y_2 mm _ h) rfl rfl (gV kw_6_138 kw_6_140 ks_76 kw_1_2 kw_6_141) hy_X8_isCheaper ⟨Nat.le_of_ble_eq_true rfl, Nat.le_of_ble_eq_true rfl⟩) (fun r_18 m_19 h => ?_)
            obtain ⟨h, hm⟩ := h
            subst hm
            refine q_if_eq (tgt := 61) X dX8_cheapestBehind_40 (by decide) (fun c_20 => ?_) (fun c_20 => ?_)
            · have h := h.1 c_20
              obtain ⟨x_21, ex_21⟩ : ∃ z : Int32, z = y_2 + 1 := ⟨_, rfl⟩
              have h := h x_21 ex_21
              refine q_iinc (j := 4) (v := x_21) (lv' := [(4, .int x_21), (0, .ref (ad 1 i)), (1, .int p0), (2, .int p1), (3, .int y_1)]) X dX8_cheapestBehind_61 rfl (by rw [ex_21]; rfl) (by decide) rfl ?_
              refine q_goto (tgt := 5) X dX8_cheapestBehind_64 (by decide) ?_
              refine q_sub [1, 2, 3, 4, 0] rfl ?_
              exact ih_4k y_1 x_21 h
            · have h := h.2 c_20
              refine q_sub [0, 1, 2, 3, 4] rfl ?_
              exact J43  h
  obtain ⟨n_22, h⟩ := h
  exact L5 n_22 (-1) 0 h
theorem dX8_dutyOfCheapest_0 : decode cX8_dutyOfCheapest 0 = .ok (.aload_n 0, 1) := by decide +kernel
theorem dX8_dutyOfCheapest_1 : decode cX8_dutyOfCheapest 1 = .ok (.iload_n 1, 1) := by decide +kernel
theorem dX8_dutyOfCheapest_2 : decode cX8_dutyOfCheapest 2 = .ok (.invokevirtual 194, 3) := by decide +kernel
theorem dX8_dutyOfCheapest_5 : decode cX8_dutyOfCheapest 5 = .ok (.iload_n 2, 1) := by decide +kernel
theorem dX8_dutyOfCheapest_6 : decode cX8_dutyOfCheapest 6 = .ok (.if_icmp .ge 5, 3) := by decide +kernel
theorem dX8_dutyOfCheapest_9 : decode cX8_dutyOfCheapest 9 = .ok (.iconst (-1), 1) := by decide +kernel
theorem dX8_dutyOfCheapest_10 : decode cX8_dutyOfCheapest 10 = .ok (.ireturn, 1) := by decide +kernel
theorem dX8_dutyOfCheapest_11 : decode cX8_dutyOfCheapest 11 = .ok (.aload_n 0, 1) := by decide +kernel
theorem dX8_dutyOfCheapest_12 : decode cX8_dutyOfCheapest 12 = .ok (.invokevirtual 187, 3) := by decide +kernel
theorem dX8_dutyOfCheapest_15 : decode cX8_dutyOfCheapest 15 = .ok (.iconst 0, 1) := by decide +kernel
theorem dX8_dutyOfCheapest_16 : decode cX8_dutyOfCheapest 16 = .ok (.istore_n 3, 1) := by decide +kernel
theorem dX8_dutyOfCheapest_17 : decode cX8_dutyOfCheapest 17 = .ok (.iload_n 2, 1) := by decide +kernel
theorem dX8_dutyOfCheapest_18 : decode cX8_dutyOfCheapest 18 = .ok (.istore 4, 2) := by decide +kernel
theorem dX8_dutyOfCheapest_20 : decode cX8_dutyOfCheapest 20 = .ok (.aload_n 0, 1) := by decide +kernel
theorem dX8_dutyOfCheapest_21 : decode cX8_dutyOfCheapest 21 = .ok (.iconst (-1), 1) := by decide +kernel
theorem dX8_dutyOfCheapest_22 : decode cX8_dutyOfCheapest 22 = .ok (.iload_n 1, 1) := by decide +kernel
theorem dX8_dutyOfCheapest_23 : decode cX8_dutyOfCheapest 23 = .ok (.invokevirtual 197, 3) := by decide +kernel
theorem dX8_dutyOfCheapest_26 : decode cX8_dutyOfCheapest 26 = .ok (.istore 5, 2) := by decide +kernel
theorem dX8_dutyOfCheapest_28 : decode cX8_dutyOfCheapest 28 = .ok (.iconst 0, 1) := by decide +kernel
theorem dX8_dutyOfCheapest_29 : decode cX8_dutyOfCheapest 29 = .ok (.istore 6, 2) := by decide +kernel
theorem dX8_dutyOfCheapest_31 : decode cX8_dutyOfCheapest 31 = .ok (.iload 6, 2) := by decide +kernel
theorem dX8_dutyOfCheapest_33 : decode cX8_dutyOfCheapest 33 = .ok (.aload_n 0, 1) := by decide +kernel
theorem dX8_dutyOfCheapest_34 : decode cX8_dutyOfCheapest 34 = .ok (.getfield 62, 3) := by decide +kernel
theorem dX8_dutyOfCheapest_37 : decode cX8_dutyOfCheapest 37 = .ok (.if_icmp .ge 69, 3) := by decide +kernel
theorem dX8_dutyOfCheapest_40 : decode cX8_dutyOfCheapest 40 = .ok (.iload 4, 2) := by decide +kernel
theorem dX8_dutyOfCheapest_42 : decode cX8_dutyOfCheapest 42 = .ok (.ifCond .le 64, 3) := by decide +kernel
theorem dX8_dutyOfCheapest_45 : decode cX8_dutyOfCheapest 45 = .ok (.iload 5, 2) := by decide +kernel
theorem dX8_dutyOfCheapest_47 : decode cX8_dutyOfCheapest 47 = .ok (.iconst (-1), 1) := by decide +kernel
theorem dX8_dutyOfCheapest_48 : decode cX8_dutyOfCheapest 48 = .ok (.if_icmp .eq 58, 3) := by decide +kernel
theorem dX8_dutyOfCheapest_51 : decode cX8_dutyOfCheapest 51 = .ok (.iload 4, 2) := by decide +kernel
theorem dX8_dutyOfCheapest_53 : decode cX8_dutyOfCheapest 53 = .ok (.aload_n 0, 1) := by decide +kernel
theorem dX8_dutyOfCheapest_54 : decode cX8_dutyOfCheapest 54 = .ok (.getfield 20, 3) := by decide +kernel
theorem dX8_dutyOfCheapest_57 : decode cX8_dutyOfCheapest 57 = .ok (.iload 5, 2) := by decide +kernel
theorem dX8_dutyOfCheapest_59 : decode cX8_dutyOfCheapest 59 = .ok (.aaload, 1) := by decide +kernel
theorem dX8_dutyOfCheapest_60 : decode cX8_dutyOfCheapest 60 = .ok (.getfield 97, 3) := by decide +kernel
theorem dX8_dutyOfCheapest_63 : decode cX8_dutyOfCheapest 63 = .ok (.invokestatic 100, 3) := by decide +kernel
theorem dX8_dutyOfCheapest_66 : decode cX8_dutyOfCheapest 66 = .ok (.istore 7, 2) := by decide +kernel
theorem dX8_dutyOfCheapest_68 : decode cX8_dutyOfCheapest 68 = .ok (.iload_n 3, 1) := by decide +kernel
theorem dX8_dutyOfCheapest_69 : decode cX8_dutyOfCheapest 69 = .ok (.aload_n 0, 1) := by decide +kernel
theorem dX8_dutyOfCheapest_70 : decode cX8_dutyOfCheapest 70 = .ok (.aload_n 0, 1) := by decide +kernel
theorem dX8_dutyOfCheapest_71 : decode cX8_dutyOfCheapest 71 = .ok (.getfield 20, 3) := by decide +kernel
theorem dX8_dutyOfCheapest_74 : decode cX8_dutyOfCheapest 74 = .ok (.iload 5, 2) := by decide +kernel
theorem dX8_dutyOfCheapest_76 : decode cX8_dutyOfCheapest 76 = .ok (.aaload, 1) := by decide +kernel
theorem dX8_dutyOfCheapest_77 : decode cX8_dutyOfCheapest 77 = .ok (.iload 7, 2) := by decide +kernel
theorem dX8_dutyOfCheapest_79 : decode cX8_dutyOfCheapest 79 = .ok (.invokevirtual 143, 3) := by decide +kernel
theorem dX8_dutyOfCheapest_82 : decode cX8_dutyOfCheapest 82 = .ok (.iadd, 1) := by decide +kernel
theorem dX8_dutyOfCheapest_83 : decode cX8_dutyOfCheapest 83 = .ok (.istore_n 3, 1) := by decide +kernel
theorem dX8_dutyOfCheapest_84 : decode cX8_dutyOfCheapest 84 = .ok (.iload 4, 2) := by decide +kernel
theorem dX8_dutyOfCheapest_86 : decode cX8_dutyOfCheapest 86 = .ok (.iload 7, 2) := by decide +kernel
theorem dX8_dutyOfCheapest_88 : decode cX8_dutyOfCheapest 88 = .ok (.isub, 1) := by decide +kernel
theorem dX8_dutyOfCheapest_89 : decode cX8_dutyOfCheapest 89 = .ok (.istore 4, 2) := by decide +kernel
theorem dX8_dutyOfCheapest_91 : decode cX8_dutyOfCheapest 91 = .ok (.aload_n 0, 1) := by decide +kernel
theorem dX8_dutyOfCheapest_92 : decode cX8_dutyOfCheapest 92 = .ok (.iload 5, 2) := by decide +kernel
theorem dX8_dutyOfCheapest_94 : decode cX8_dutyOfCheapest 94 = .ok (.iload_n 1, 1) := by decide +kernel
theorem dX8_dutyOfCheapest_95 : decode cX8_dutyOfCheapest 95 = .ok (.invokevirtual 197, 3) := by decide +kernel
theorem dX8_dutyOfCheapest_98 : decode cX8_dutyOfCheapest 98 = .ok (.istore 5, 2) := by decide +kernel
theorem dX8_dutyOfCheapest_100 : decode cX8_dutyOfCheapest 100 = .ok (.iinc 6 1, 3) := by decide +kernel
theorem dX8_dutyOfCheapest_103 : decode cX8_dutyOfCheapest 103 = .ok (.goto (-72), 3) := by decide +kernel
theorem dX8_dutyOfCheapest_106 : decode cX8_dutyOfCheapest 106 = .ok (.iload_n 3, 1) := by decide +kernel
theorem dX8_dutyOfCheapest_107 : decode cX8_dutyOfCheapest 107 = .ok (.ireturn, 1) := by decide +kernel
def w_X8_dutyOfCheapest_B31 (i : Nat) (p0 : Int32) (Q9 : Int32 → Mm → Prop) (m_5 : Mm) (K_12 : Int32 → Int32 → Int32 → Int32 → Prop) (y_8 : Int32) (y_9 : Int32) (y_10 : Int32) (y_11 : Int32) : Prop :=
  (((m_5.1 1 i 1) ≤ y_11 → Q9 y_8 m_5) ∧
  (¬ (m_5.1 1 i 1) ≤ y_11 → ((y_9 ≤ 0 → Q9 y_8 m_5) ∧
  (¬ y_9 ≤ 0 → ((y_10 = (-1) → Q9 y_8 m_5) ∧
  (¬ y_10 = (-1) → vp_in y_10 16 ∧ (ok 3 (m_5.2 7 i y_10.toNatClampNeg) ∧ (∀ x_19 : Int32, x_19 = (if (m_5.1 3 (m_5.2 7 i y_10.toNatClampNeg) 2) < y_9 then (m_5.1 3 (m_5.2 7 i y_10.toNatClampNeg) 2) else y_9) → (w_X8_dutyNow i (m_5.2 7 i y_10.toNatClampNeg) x_19 m_5 (fun (r_20 : Int32) => ∀ x_22 : Int32, x_22 = (y_8 + r_20) → (∀ x_23 : Int32, x_23 = (y_9 - x_19) → (w_X8_cheapestBehind i y_10 p0 m_5 (fun (r_24 : Int32) => ∀ x_26 : Int32, x_26 = y_11 + 1 → (K_12 x_22 x_23 r_24 x_26))))))))))))))
def w_X8_dutyOfCheapest (i : Nat) (p0 : Int32) (p1 : Int32) (mm : Mm) (Q9 : Int32 → Mm → Prop) : Prop :=
  w_X8_stockOf i p0 mm (fun (r_1 : Int32) => ((p1 ≤ r_1 → w_X8_tellDuties i mm (fun (m_5 : Mm) => w_X8_cheapestBehind i (-1) p0 m_5 (fun (r_6 : Int32) => ∃ n, itr (α := Int32 × Int32 × Int32 × Int32) (fun K a => w_X8_dutyOfCheapest_B31 i p0 Q9 m_5 (fun z0 z1 z2 z3 => K (z0, z1, z2, z3)) a.1 a.2.1 a.2.2.1 a.2.2.2) n (0, p1, r_6, 0)))) ∧
  (¬ p1 ≤ r_1 → Q9 (-1) mm)))
def rm_X8_dutyOfCheapest : Room := { frames := 3, cells := 0, slots := 0, locals := 67 }
theorem hy_X8_dutyOfCheapest : yX8_dutyOfCheapest.cls = RX8 ∧ yX8_dutyOfCheapest.cls ≠ "java/lang/invoke/MethodHandle" ∧ yX8_dutyOfCheapest.cls ≠ "java/lang/invoke/VarHandle" ∧ (parseMethodDescriptor yX8_dutyOfCheapest.desc).map (fun d => d.parameters.length) = some 2 := by decide +kernel
set_option maxRecDepth 100000 in
set_option maxHeartbeats 4000000 in
theorem c_X8_dutyOfCheapest {l : Launch} {D : va_G} {cA : Nat → ClassId} {ad : Nat → Nat → Nat} {A : Nat → Prop} (ax : Ax ad GC A) (i : Nat) (hi : ok 1 i) (p0 : Int32) (p1 : Int32) (mm : Mm) (Q9 : Int32 → Mm → Prop) (h : w_X8_dutyOfCheapest i p0 p1 mm Q9) : Met l yX8_dutyOfCheapest (.code yX8_dutyOfCheapest cX8_dutyOfCheapest 8 (some .int) :: TG) rm_X8_dutyOfCheapest (PcM TT D cA ad false GC (ZC ad A) [.ref (ad 1 i), .int p0, .int p1] mm) (AnsI TT D cA ad false GC A Q9) 0 0 A := by
  have zo := ZC_ok ad A
  unfold w_X8_dutyOfCheapest at h
  refine enterI pl_X8 ⟨rfl, rfl⟩ rfl (Nat.le_of_ble_eq_true rfl) ?_
  intro p e s m args below meth c QQ X hK hZ hnm hE
  refine q_aload_n (j := 0) X dX8_dutyOfCheapest_0 rfl rfl ?_
  refine q_iload_n (j := 1) X dX8_dutyOfCheapest_1 rfl rfl ?_
  refine q_calli (q_runV X hK hZ zo (gc (t := 1) (by decide) hi) rfl rfl [.int p0] [] rfl rfl (Nat.le_of_ble_eq_true rfl) dX8_dutyOfCheapest_2 ⟨Nat.le_of_ble_eq_true rfl, Nat.le_of_ble_eq_true rfl⟩ (c_X8_stockOf ax i hi p0 mm _ h) rfl rfl (gV kw_6_153 kw_6_43 ks_74 kw_1_2 kw_6_44) hy_X8_stockOf ⟨Nat.le_of_ble_eq_true rfl, Nat.le_of_ble_eq_true rfl⟩) (fun r_1 m_2 h => ?_)
  obtain ⟨h, hm⟩ := h
  subst hm
  refine q_iload_n (j := 2) X dX8_dutyOfCheapest_5 rfl rfl ?_
  refine q_icmp_ge (tgt := 11) X dX8_dutyOfCheapest_6 (by decide) (fun c_3 => ?_) (fun c_3 => ?_)
  · have h := h.1 c_3
    refine q_aload_n (j := 0) X dX8_dutyOfCheapest_11 rfl rfl ?_
    refine q_callv (q_runV X hK hZ zo (gc (t := 1) (by decide) hi) rfl rfl [] [] rfl rfl (Nat.le_of_ble_eq_true rfl) dX8_dutyOfCheapest_12 ⟨Nat.le_of_ble_eq_true rfl, Nat.le_of_ble_eq_true rfl⟩ (c_X8_tellDuties ax i hi mm _ h) rfl rfl (gV kw_2_236 kw_2_238 ks_9 kw_1_2 kw_2_239) hy_X8_tellDuties ⟨Nat.le_of_ble_eq_true rfl, Nat.le_of_ble_eq_true rfl⟩) (fun m_5 h => ?_)
    refine q_iconst (v := 0) X dX8_dutyOfCheapest_15 (by decide) ?_
    refine q_istore_n (lv' := [(3, .int 0), (0, .ref (ad 1 i)), (1, .int p0), (2, .int p1)]) X dX8_dutyOfCheapest_16 rfl (by decide) rfl ?_
    refine q_iload_n (j := 3) X dX8_dutyOfCheapest_17 rfl rfl ?_
    refine q_istore (lv' := [(4, .int p1), (3, .int 0), (0, .ref (ad 1 i)), (1, .int p0), (2, .int p1)]) X dX8_dutyOfCheapest_18 (by decide) rfl ?_
    refine q_aload_n (j := 2) X dX8_dutyOfCheapest_20 rfl rfl ?_
    refine q_iconst (v := (-1)) X dX8_dutyOfCheapest_21 (by decide) ?_
    refine q_iload_n (j := 3) X dX8_dutyOfCheapest_22 rfl rfl ?_
    refine q_calli (q_runV X hK hZ zo (gc (t := 1) (by decide) hi) rfl rfl [.int (-1), .int p0] [] rfl rfl (Nat.le_of_ble_eq_true rfl) dX8_dutyOfCheapest_23 ⟨Nat.le_of_ble_eq_true rfl, Nat.le_of_ble_eq_true rfl⟩ (c_X8_cheapestBehind ax i hi (-1) p0 m_5 _ h) rfl rfl (gV kw_6_154 kw_6_136 ks_75 kw_1_2 kw_6_137) hy_X8_cheapestBehind ⟨Nat.le_of_ble_eq_true rfl, Nat.le_of_ble_eq_true rfl⟩) (fun r_6 m_7 h => ?_)
    obtain ⟨h, hm⟩ := h
    subst hm
    refine q_istore (lv' := [(5, .int r_6), (4, .int p1), (3, .int 0), (0, .ref (ad 1 i)), (1, .int p0), (2, .int p1)]) X dX8_dutyOfCheapest_26 (by decide) rfl ?_
    refine q_iconst (v := 0) X dX8_dutyOfCheapest_28 (by decide) ?_
    refine q_istore (lv' := [(6, .int 0), (5, .int r_6), (4, .int p1), (3, .int 0), (0, .ref (ad 1 i)), (1, .int p0), (2, .int p1)]) X dX8_dutyOfCheapest_29 (by decide) rfl ?_
    refine q_sub [4, 5, 3, 2, 1, 0] rfl ?_
    have L31 : ∀ (n : Nat) (y_8 : Int32) (y_9 : Int32) (y_10 : Int32) (y_11 : Int32), itr (α := Int32 × Int32 × Int32 × Int32) (fun K a => w_X8_dutyOfCheapest_B31 i p0 Q9 m_5 (fun z0 z1 z2 z3 => K (z0, z1, z2, z3)) a.1 a.2.1 a.2.2.1 a.2.2.2) n (y_8, y_9, y_10, y_11) → V p l e rm_X8_dutyOfCheapest s m args below meth c QQ 8 A 0 0 (Rep TT D cA ad false GC m_5) 31 [(0, .ref (ad 1 i)), (1, .int p0), (3, .int y_8), (4, .int y_9), (5, .int y_10), (6, .int y_11)] [] := by
      intro n
      induction n with
      | zero => intro y_8 y_9 y_10 y_11 h; exact h.elim
      | succ n ih_13 =>
        intro y_8 y_9 y_10 y_11 h
        have h : w_X8_dutyOfCheapest_B31 i p0 Q9 m_5 (fun z0 z1 z2 z3 => itr (α := Int32 × Int32 × Int32 × Int32) (fun K a => w_X8_dutyOfCheapest_B31 i p0 Q9 m_5 (fun z0 z1 z2 z3 => K (z0, z1, z2, z3)) a.1 a.2.1 a.2.2.1 a.2.2.2) n (z0, z1, z2, z3)) y_8 y_9 y_10 y_11 := h
        unfold w_X8_dutyOfCheapest_B31 at h
        refine q_iload (j := 5) X dX8_dutyOfCheapest_31 rfl ?_
        refine q_aload_n (j := 0) X dX8_dutyOfCheapest_33 rfl rfl ?_
        refine q_get (k := 1) (v := .int (m_5.1 1 i 1)) X hK rfl rfl (Nat.le_of_ble_eq_true rfl) inTX8 (gc (t := 1) (by decide) hi) kw_1_231 rfl rfl dX8_dutyOfCheapest_34 ?_
        refine q_icmp_ge (tgt := 106) X dX8_dutyOfCheapest_37 (by decide) (fun c_14 => ?_) (fun c_14 => ?_)
        · have h := h.1 c_14
          refine q_iload_n (j := 2) X dX8_dutyOfCheapest_106 rfl rfl ?_
          exact hE _ _ _ _ dX8_dutyOfCheapest_107 h
        · have h := h.2 c_14
          refine q_iload (j := 3) X dX8_dutyOfCheapest_40 rfl ?_
          refine q_if_le (tgt := 106) X dX8_dutyOfCheapest_42 (by decide) (fun c_15 => ?_) (fun c_15 => ?_)
          · have h := h.1 c_15
            refine q_iload_n (j := 2) X dX8_dutyOfCheapest_106 rfl rfl ?_
            exact hE _ _ _ _ dX8_dutyOfCheapest_107 h
          · have h := h.2 c_15
            refine q_iload (j := 4) X dX8_dutyOfCheapest_45 rfl ?_
            refine q_iconst (v := (-1)) X dX8_dutyOfCheapest_47 (by decide) ?_
            refine q_icmp_eq (tgt := 106) X dX8_dutyOfCheapest_48 (by decide) (fun c_16 => ?_) (fun c_16 => ?_)
            · have h := h.1 c_16
              refine q_iload_n (j := 2) X dX8_dutyOfCheapest_106 rfl rfl ?_
              exact hE _ _ _ _ dX8_dutyOfCheapest_107 h
            · have h := h.2 c_16
              refine q_iload (j := 3) X dX8_dutyOfCheapest_51 rfl ?_
              refine q_aload_n (j := 0) X dX8_dutyOfCheapest_53 rfl rfl ?_
              refine q_get (k := 6) (v := .ref (ad 7 i)) X hK rfl rfl (Nat.le_of_ble_eq_true rfl) inTX8 (gc (t := 1) (by decide) hi) kw_2_3 rfl (rv_nn (a := ad 7) (r := i) hi.1) dX8_dutyOfCheapest_54 ?_
              refine q_iload (j := 4) X dX8_dutyOfCheapest_57 rfl ?_
              obtain ⟨b_17, h⟩ := h
              refine q_aald (t := 7) (i := i) (jn := y_10.toNatClampNeg) (v := rv (ad 3) (m_5.2 7 i y_10.toNatClampNeg)) X hK rfl rfl (gc (t := 7) (by decide) hi) rfl b_17 rfl rfl dX8_dutyOfCheapest_59 ?_
              obtain ⟨k_18, h⟩ := h
              rw [rv_nn (a := ad 3) (r := (m_5.2 7 i y_10.toNatClampNeg)) k_18.1]
              refine q_getN (k := 2) (v := .int (m_5.1 3 (m_5.2 7 i y_10.toNatClampNeg) 2)) X hK rfl rfl (Nat.le_of_ble_eq_true rfl) inTX2 (gc (t := 3) (by decide) k_18) (List.mem_of_getElem? (i := 19) rfl) rfl rfl dX8_dutyOfCheapest_60 ?_
              refine q_min X kw_4_33 kw_4_34 kw_1_18 kw_4_35 (Nat.le_of_ble_eq_true rfl) (Nat.le_of_ble_eq_true rfl) ⟨Nat.le_of_ble_eq_true rfl, Nat.le_of_ble_eq_true rfl⟩ dX8_dutyOfCheapest_63 ?_
              refine q_topi (fun x_19 ex_19 => ?_)
              have h := h x_19 ex_19
              refine q_istore (lv' := [(7, .int x_19), (0, .ref (ad 1 i)), (1, .int p0), (3, .int y_8), (4, .int y_9), (5, .int y_10), (6, .int y_11)]) X dX8_dutyOfCheapest_66 (by decide) rfl ?_
              refine q_iload_n (j := 3) X dX8_dutyOfCheapest_68 rfl rfl ?_
              refine q_aload_n (j := 1) X dX8_dutyOfCheapest_69 rfl rfl ?_
              refine q_aload_n (j := 1) X dX8_dutyOfCheapest_70 rfl rfl ?_
              refine q_get (k := 6) (v := .ref (ad 7 i)) X hK rfl rfl (Nat.le_of_ble_eq_true rfl) inTX8 (gc (t := 1) (by decide) hi) kw_2_3 rfl (rv_nn (a := ad 7) (r := i) hi.1) dX8_dutyOfCheapest_71 ?_
              refine q_iload (j := 5) X dX8_dutyOfCheapest_74 rfl ?_
              refine q_aald (t := 7) (i := i) (jn := y_10.toNatClampNeg) (v := rv (ad 3) (m_5.2 7 i y_10.toNatClampNeg)) X hK rfl rfl (gc (t := 7) (by decide) hi) rfl b_17 rfl rfl dX8_dutyOfCheapest_76 ?_
              refine q_iload (j := 0) X dX8_dutyOfCheapest_77 rfl ?_
              rw [rv_nn (a := ad 3) (r := (m_5.2 7 i y_10.toNatClampNeg)) k_18.1]
              refine q_calli (q_runV X hK hZ zo (gc (t := 1) (by decide) hi) rfl rfl [.ref (ad 3 (m_5.2 7 i y_10.toNatClampNeg)), .int x_19] [.int y_8] rfl rfl (Nat.le_of_ble_eq_true rfl) dX8_dutyOfCheapest_79 ⟨Nat.le_of_ble_eq_true rfl, Nat.le_of_ble_eq_true rfl⟩ (c_X8_dutyNow ax i hi (m_5.2 7 i y_10.toNatClampNeg) k_18 x_19 m_5 _ h) rfl rfl (gV kw_4_16 kw_4_18 ks_34 kw_1_2 kw_4_19) hy_X8_dutyNow ⟨Nat.le_of_ble_eq_true rfl, Nat.le_of_ble_eq_true rfl⟩) (fun r_20 m_21 h => ?_)
              obtain ⟨h, hm⟩ := h
              subst hm
              refine q_iadd X dX8_dutyOfCheapest_82 ?_
              refine q_topi (fun x_22 ex_22 => ?_)
              have h := h x_22 ex_22
              refine q_istore_n (lv' := [(3, .int x_22), (7, .int x_19), (0, .ref (ad 1 i)), (1, .int p0), (4, .int y_9), (5, .int y_10), (6, .int y_11)]) X dX8_dutyOfCheapest_83 rfl (by decide) rfl ?_
              refine q_iload (j := 4) X dX8_dutyOfCheapest_84 rfl ?_
              refine q_iload (j := 1) X dX8_dutyOfCheapest_86 rfl ?_
              refine q_isub X dX8_dutyOfCheapest_88 ?_
              refine q_topi (fun x_23 ex_23 => ?_)
              have h := h x_23 ex_23
              refine q_istore (lv' := [(4, .int x_23), (3, .int x_22), (7, .int x_19), (0, .ref (ad 1 i)), (1, .int p0), (5, .int y_10), (6, .int y_11)]) X dX8_dutyOfCheapest_89 (by decide) rfl ?_
              refine q_aload_n (j := 3) X dX8_dutyOfCheapest_91 rfl rfl ?_
              refine q_iload (j := 5) X dX8_dutyOfCheapest_92 rfl ?_
              refine q_iload_n (j := 4) X dX8_dutyOfCheapest_94 rfl rfl ?_
              refine q_calli (q_runV X hK hZ zo (gc (t := 1) (by decide) hi) rfl rfl [.int y_10, .int p0] [] rfl rfl (Nat.le_of_ble_eq_true rfl) dX8_dutyOfCheapest_95 ⟨Nat.le_of_ble_eq_true rfl, Nat.le_of_ble_eq_true rfl⟩ (c_X8_cheapestBehind ax i hi y_10 p0 m_5 _ h) rfl rfl (gV kw_6_154 kw_6_136 ks_75 kw_1_2 kw_6_137) hy_X8_cheapestBehind ⟨Nat.le_of_ble_eq_true rfl, Nat.le_of_ble_eq_true rfl⟩) (fun r_24 m_25 h => ?_)
              obtain ⟨h, hm⟩ := h
              subst hm
              refine q_istore (lv' := [(5, .int r_24), (4, .int x_23), (3, .int x_22), (7, .int x_19), (0, .ref (ad 1 i)), (1, .int p0), (6, .int y_11)]) X dX8_dutyOfCheapest_98 (by decide) rfl ?_
              obtain ⟨x_26, ex_26⟩ : ∃ z : Int32, z = y_11 + 1 := ⟨_, rfl⟩
              have h := h x_26 ex_26
              refine q_iinc (j := 6) (v := x_26) (lv' := [(6, .int x_26), (5, .int r_24), (4, .int x_23), (3, .int x_22), (7, .int x_19), (0, .ref (ad 1 i)), (1, .int p0)]) X dX8_dutyOfCheapest_100 rfl (by rw [ex_26]; rfl) (by decide) rfl ?_
              refine q_goto (tgt := 31) X dX8_dutyOfCheapest_103 (by decide) ?_
              refine q_sub [5, 6, 3, 2, 1, 0] rfl ?_
              exact ih_13 x_22 x_23 r_24 x_26 h
    obtain ⟨n_27, h⟩ := h
    exact L31 n_27 0 p1 r_6 0 h
  · have h := h.2 c_3
    refine q_iconst (v := (-1)) X dX8_dutyOfCheapest_9 (by decide) ?_
    exact hE _ _ _ _ dX8_dutyOfCheapest_10 h
theorem dX8_dearest_0 : decode cX8_dearest 0 = .ok (.aload_n 0, 1) := by decide +kernel
theorem dX8_dearest_1 : decode cX8_dearest 1 = .ok (.invokevirtual 187, 3) := by decide +kernel
theorem dX8_dearest_4 : decode cX8_dearest 4 = .ok (.iconst (-1), 1) := by decide +kernel
theorem dX8_dearest_5 : decode cX8_dearest 5 = .ok (.istore_n 1, 1) := by decide +kernel
theorem dX8_dearest_6 : decode cX8_dearest 6 = .ok (.iconst 0, 1) := by decide +kernel
theorem dX8_dearest_7 : decode cX8_dearest 7 = .ok (.istore_n 2, 1) := by decide +kernel
theorem dX8_dearest_8 : decode cX8_dearest 8 = .ok (.iload_n 2, 1) := by decide +kernel
theorem dX8_dearest_9 : decode cX8_dearest 9 = .ok (.aload_n 0, 1) := by decide +kernel
theorem dX8_dearest_10 : decode cX8_dearest 10 = .ok (.getfield 62, 3) := by decide +kernel
theorem dX8_dearest_13 : decode cX8_dearest 13 = .ok (.if_icmp .ge 31, 3) := by decide +kernel
theorem dX8_dearest_16 : decode cX8_dearest 16 = .ok (.iload_n 1, 1) := by decide +kernel
theorem dX8_dearest_17 : decode cX8_dearest 17 = .ok (.iconst (-1), 1) := by decide +kernel
theorem dX8_dearest_18 : decode cX8_dearest 18 = .ok (.if_icmp .eq 18, 3) := by decide +kernel
theorem dX8_dearest_21 : decode cX8_dearest 21 = .ok (.aload_n 0, 1) := by decide +kernel
theorem dX8_dearest_22 : decode cX8_dearest 22 = .ok (.getfield 42, 3) := by decide +kernel
theorem dX8_dearest_25 : decode cX8_dearest 25 = .ok (.iload_n 2, 1) := by decide +kernel
theorem dX8_dearest_26 : decode cX8_dearest 26 = .ok (.iaload, 1) := by decide +kernel
theorem dX8_dearest_27 : decode cX8_dearest 27 = .ok (.aload_n 0, 1) := by decide +kernel
theorem dX8_dearest_28 : decode cX8_dearest 28 = .ok (.getfield 42, 3) := by decide +kernel
theorem dX8_dearest_31 : decode cX8_dearest 31 = .ok (.iload_n 1, 1) := by decide +kernel
theorem dX8_dearest_32 : decode cX8_dearest 32 = .ok (.iaload, 1) := by decide +kernel
theorem dX8_dearest_33 : decode cX8_dearest 33 = .ok (.if_icmp .le 5, 3) := by decide +kernel
theorem dX8_dearest_36 : decode cX8_dearest 36 = .ok (.iload_n 2, 1) := by decide +kernel
theorem dX8_dearest_37 : decode cX8_dearest 37 = .ok (.istore_n 1, 1) := by decide +kernel
theorem dX8_dearest_38 : decode cX8_dearest 38 = .ok (.iinc 2 1, 3) := by decide +kernel
theorem dX8_dearest_41 : decode cX8_dearest 41 = .ok (.goto (-33), 3) := by decide +kernel
theorem dX8_dearest_44 : decode cX8_dearest 44 = .ok (.iload_n 1, 1) := by decide +kernel
theorem dX8_dearest_45 : decode cX8_dearest 45 = .ok (.ireturn, 1) := by decide +kernel
def w_X8_dearest_B8 (i : Nat) (Q9 : Int32 → Mm → Prop) (m_2 : Mm) (K_5 : Int32 → Int32 → Prop) (y_3 : Int32) (y_4 : Int32) : Prop :=
  (((m_2.1 1 i 1) ≤ y_4 → Q9 y_3 m_2) ∧
  (¬ (m_2.1 1 i 1) ≤ y_4 → ((y_3 = (-1) → ∀ x_9 : Int32, x_9 = y_4 + 1 → (K_5 y_4 x_9)) ∧
  (¬ y_3 = (-1) → vp_in y_4 16 ∧ (vp_in y_3 16 ∧ ((((m_2.1 11 i y_4.toNatClampNeg) ≤ (m_2.1 11 i y_3.toNatClampNeg) → ∀ x_13 : Int32, x_13 = y_4 + 1 → (K_5 y_3 x_13)) ∧
  (¬ (m_2.1 11 i y_4.toNatClampNeg) ≤ (m_2.1 11 i y_3.toNatClampNeg) → ∀ x_14 : Int32, x_14 = y_4 + 1 → (K_5 y_4 x_14)))))))))
def w_X8_dearest (i : Nat) (mm : Mm) (Q9 : Int32 → Mm → Prop) : Prop :=
  w_X8_tellDuties i mm (fun (m_2 : Mm) => ∃ n, itr (α := Int32 × Int32) (fun K a => w_X8_dearest_B8 i Q9 m_2 (fun z0 z1 => K (z0, z1)) a.1 a.2) n ((-1), 0))
def rm_X8_dearest : Room := { frames := 3, cells := 0, slots := 0, locals := 67 }
theorem hy_X8_dearest : yX8_dearest.cls = RX8 ∧ yX8_dearest.cls ≠ "java/lang/invoke/MethodHandle" ∧ yX8_dearest.cls ≠ "java/lang/invoke/VarHandle" ∧ (parseMethodDescriptor yX8_dearest.desc).map (fun d => d.parameters.length) = some 0 := by decide +kernel
set_option maxRecDepth 100000 in
set_option maxHeartbeats 4000000 in
theorem c_X8_dearest {l : Launch} {D : va_G} {cA : Nat → ClassId} {ad : Nat → Nat → Nat} {A : Nat → Prop} (ax : Ax ad GC A) (i : Nat) (hi : ok 1 i) (mm : Mm) (Q9 : Int32 → Mm → Prop) (h : w_X8_dearest i mm Q9) : Met l yX8_dearest (.code yX8_dearest cX8_dearest 3 (some .int) :: TG) rm_X8_dearest (PcM TT D cA ad false GC (ZC ad A) [.ref (ad 1 i)] mm) (AnsI TT D cA ad false GC A Q9) 0 0 A := by
  have zo := ZC_ok ad A
  unfold w_X8_dearest at h
  refine enterI pl_X8 ⟨rfl, rfl⟩ rfl (Nat.le_of_ble_eq_true rfl) ?_
  intro p e s m args below meth c QQ X hK hZ hnm hE
  refine q_aload_n (j := 0) X dX8_dearest_0 rfl rfl ?_
  refine q_callv (q_runV X hK hZ zo (gc (t := 1) (by decide) hi) rfl rfl [] [] rfl rfl (Nat.le_of_ble_eq_true rfl) dX8_dearest_1 ⟨Nat.le_of_ble_eq_true rfl, Nat.le_of_ble_eq_true rfl⟩ (c_X8_tellDuties ax i hi mm _ h) rfl rfl (gV kw_2_236 kw_2_238 ks_9 kw_1_2 kw_2_239) hy_X8_tellDuties ⟨Nat.le_of_ble_eq_true rfl, Nat.le_of_ble_eq_true rfl⟩) (fun m_2 h => ?_)
  refine q_iconst (v := (-1)) X dX8_dearest_4 (by decide) ?_
  refine q_istore_n (lv' := [(1, .int (-1)), (0, .ref (ad 1 i))]) X dX8_dearest_5 rfl (by decide) rfl ?_
  refine q_iconst (v := 0) X dX8_dearest_6 (by decide) ?_
  refine q_istore_n (lv' := [(2, .int 0), (1, .int (-1)), (0, .ref (ad 1 i))]) X dX8_dearest_7 rfl (by decide) rfl ?_
  refine q_sub [2, 1, 0] rfl ?_
  have L8 : ∀ (n : Nat) (y_3 : Int32) (y_4 : Int32), itr (α := Int32 × Int32) (fun K a => w_X8_dearest_B8 i Q9 m_2 (fun z0 z1 => K (z0, z1)) a.1 a.2) n (y_3, y_4) → V p l e rm_X8_dearest s m args below meth c QQ 3 A 0 0 (Rep TT D cA ad false GC m_2) 8 [(0, .ref (ad 1 i)), (1, .int y_3), (2, .int y_4)] [] := by
    intro n
    induction n with
    | zero => intro y_3 y_4 h; exact h.elim
    | succ n ih_6 =>
      intro y_3 y_4 h
      have h : w_X8_dearest_B8 i Q9 m_2 (fun z0 z1 => itr (α := Int32 × Int32) (fun K a => w_X8_dearest_B8 i Q9 m_2 (fun z0 z1 => K (z0, z1)) a.1 a.2) n (z0, z1)) y_3 y_4 := h
      unfold w_X8_dearest_B8 at h
      refine q_iload_n (j := 2) X dX8_dearest_8 rfl rfl ?_
      refine q_aload_n (j := 0) X dX8_dearest_9 rfl rfl ?_
      refine q_get (k := 1) (v := .int (m_2.1 1 i 1)) X hK rfl rfl (Nat.le_of_ble_eq_true rfl) inTX8 (gc (t := 1) (by decide) hi) kw_1_231 rfl rfl dX8_dearest_10 ?_
      refine q_icmp_ge (tgt := 44) X dX8_dearest_13 (by decide) (fun c_7 => ?_) (fun c_7 => ?_)
      · have h := h.1 c_7
        refine q_iload_n (j := 1) X dX8_dearest_44 rfl rfl ?_
        exact hE _ _ _ _ dX8_dearest_45 h
      · have h := h.2 c_7
        refine q_iload_n (j := 1) X dX8_dearest_16 rfl rfl ?_
        refine q_iconst (v := (-1)) X dX8_dearest_17 (by decide) ?_
        refine q_icmp_eq (tgt := 36) X dX8_dearest_18 (by decide) (fun c_8 => ?_) (fun c_8 => ?_)
        · have h := h.1 c_8
          refine q_iload_n (j := 2) X dX8_dearest_36 rfl rfl ?_
          refine q_istore_n (lv' := [(1, .int y_4), (0, .ref (ad 1 i)), (2, .int y_4)]) X dX8_dearest_37 rfl (by decide) rfl ?_
          obtain ⟨x_9, ex_9⟩ : ∃ z : Int32, z = y_4 + 1 := ⟨_, rfl⟩
          have h := h x_9 ex_9
          refine q_iinc (j := 2) (v := x_9) (lv' := [(2, .int x_9), (1, .int y_4), (0, .ref (ad 1 i))]) X dX8_dearest_38 rfl (by rw [ex_9]; rfl) (by decide) rfl ?_
          refine q_goto (tgt := 8) X dX8_dearest_41 (by decide) ?_
          refine q_sub [2, 1, 0] rfl ?_
          exact ih_6 y_4 x_9 h
        · have h := h.2 c_8
          refine q_aload_n (j := 0) X dX8_dearest_21 rfl rfl ?_
          refine q_get (k := 10) (v := .ref (ad 11 i)) X hK rfl rfl (Nat.le_of_ble_eq_true rfl) inTX8 (gc (t := 1) (by decide) hi) kw_2_13 rfl (rv_nn (a := ad 11) (r := i) hi.1) dX8_dearest_22 ?_
          refine q_iload_n (j := 2) X dX8_dearest_25 rfl rfl ?_
          obtain ⟨b_10, h⟩ := h
          refine q_iald (t := 11) (i := i) (jn := y_4.toNatClampNeg) (v := .int (m_2.1 11 i y_4.toNatClampNeg)) X hK rfl rfl (gc (t := 11) (by decide) hi) rfl b_10 rfl rfl dX8_dearest_26 ?_
          refine q_aload_n (j := 0) X dX8_dearest_27 rfl rfl ?_
          refine q_get (k := 10) (v := .ref (ad 11 i)) X hK rfl rfl (Nat.le_of_ble_eq_true rfl) inTX8 (gc (t := 1) (by decide) hi) kw_2_13 rfl (rv_nn (a := ad 11) (r := i) hi.1) dX8_dearest_28 ?_
          refine q_iload_n (j := 1) X dX8_dearest_31 rfl rfl ?_
          obtain ⟨b_11, h⟩ := h
          refine q_iald (t := 11) (i := i) (jn := y_3.toNatClampNeg) (v := .int (m_2.1 11 i y_3.toNatClampNeg)) X hK rfl rfl (gc (t := 11) (by decide) hi) rfl b_11 rfl rfl dX8_dearest_32 ?_
          refine q_icmp_le (tgt := 38) X dX8_dearest_33 (by decide) (fun c_12 => ?_) (fun c_12 => ?_)
          · have h := h.1 c_12
            obtain ⟨x_13, ex_13⟩ : ∃ z : Int32, z = y_4 + 1 := ⟨_, rfl⟩
            have h := h x_13 ex_13
            refine q_iinc (j := 2) (v := x_13) (lv' := [(2, .int x_13), (0, .ref (ad 1 i)), (1, .int y_3)]) X dX8_dearest_38 rfl (by rw [ex_13]; rfl) (by decide) rfl ?_
            refine q_goto (tgt := 8) X dX8_dearest_41 (by decide) ?_
            refine q_sub [1, 2, 0] rfl ?_
            exact ih_6 y_3 x_13 h
          · have h := h.2 c_12
            refine q_iload_n (j := 2) X dX8_dearest_36 rfl rfl ?_
            refine q_istore_n (lv' := [(1, .int y_4), (0, .ref (ad 1 i)), (2, .int y_4)]) X dX8_dearest_37 rfl (by decide) rfl ?_
            obtain ⟨x_14, ex_14⟩ : ∃ z : Int32, z = y_4 + 1 := ⟨_, rfl⟩
            have h := h x_14 ex_14
            refine q_iinc (j := 2) (v := x_14) (lv' := [(2, .int x_14), (1, .int y_4), (0, .ref (ad 1 i))]) X dX8_dearest_38 rfl (by rw [ex_14]; rfl) (by decide) rfl ?_
            refine q_goto (tgt := 8) X dX8_dearest_41 (by decide) ?_
            refine q_sub [2, 1, 0] rfl ?_
            exact ih_6 y_4 x_14 h
  obtain ⟨n_15, h⟩ := h
  exact L8 n_15 (-1) 0 h
theorem dX9_dearestEntry_0 : decode cX9_dearestEntry 0 = .ok (.aload_n 0, 1) := by decide +kernel
theorem dX9_dearestEntry_1 : decode cX9_dearestEntry 1 = .ok (.getfield 10, 3) := by decide +kernel
theorem dX9_dearestEntry_4 : decode cX9_dearestEntry 4 = .ok (.aload_n 0, 1) := by decide +kernel
theorem dX9_dearestEntry_5 : decode cX9_dearestEntry 5 = .ok (.getfield 10, 3) := by decide +kernel
theorem dX9_dearestEntry_8 : decode cX9_dearestEntry 8 = .ok (.invokevirtual 332, 3) := by decide +kernel
theorem dX9_dearestEntry_11 : decode cX9_dearestEntry 11 = .ok (.invokevirtual 320, 3) := by decide +kernel
theorem dX9_dearestEntry_14 : decode cX9_dearestEntry 14 = .ok (.ireturn, 1) := by decide +kernel
def w_X9_dearestEntry  (mm : Mm) (Q9 : Int32 → Mm → Prop) : Prop :=
  w_X8_dearest 1 mm (fun (r_1 : Int32) (m_2 : Mm) => w_X8_numberAt 1 r_1 m_2 (fun (r_3 : Int32) => Q9 r_3 m_2))
def rm_X9_dearestEntry : Room := { frames := 4, cells := 0, slots := 0, locals := 89 }
theorem hy_X9_dearestEntry : yX9_dearestEntry.cls = RX9 ∧ yX9_dearestEntry.cls ≠ "java/lang/invoke/MethodHandle" ∧ yX9_dearestEntry.cls ≠ "java/lang/invoke/VarHandle" ∧ (parseMethodDescriptor yX9_dearestEntry.desc).map (fun d => d.parameters.length) = some 0 := by decide +kernel
set_option maxRecDepth 100000 in
set_option maxHeartbeats 4000000 in
theorem c_X9_dearestEntry {l : Launch} {D : va_G} {cA : Nat → ClassId} {ad : Nat → Nat → Nat} {A : Nat → Prop} (ax : Ax ad GC A)  (mm : Mm) (Q9 : Int32 → Mm → Prop) (h : w_X9_dearestEntry mm Q9) : Met l yX9_dearestEntry (.code yX9_dearestEntry cX9_dearestEntry 1 (some .int) :: TG) rm_X9_dearestEntry (PcM TT D cA ad false GC (ZC ad A) [.ref (ad 0 1)] mm) (AnsI TT D cA ad false GC A Q9) 0 0 A := by
  have zo := ZC_ok ad A
  unfold w_X9_dearestEntry at h
  refine enterI pl_X9 ⟨rfl, rfl⟩ rfl (Nat.le_of_ble_eq_true rfl) ?_
  intro p e s m args below meth c QQ X hK hZ hnm hE
  refine q_aload_n (j := 0) X dX9_dearestEntry_0 rfl rfl ?_
  refine q_get (k := 0) (v := .ref (ad 1 1)) X hK rfl rfl (Nat.le_of_ble_eq_true rfl) inTX9 (gc (t := 0) (by decide) (ok1 (t := 0) (Nat.le_of_ble_eq_true rfl))) kw_2_112 rfl (rv_nn (a := ad 1) (r := 1) (ok1 (t := 1) (Nat.le_of_ble_eq_true rfl)).1) dX9_dearestEntry_1 ?_
  refine q_aload_n (j := 0) X dX9_dearestEntry_4 rfl rfl ?_
  refine q_get (k := 0) (v := .ref (ad 1 1)) X hK rfl rfl (Nat.le_of_ble_eq_true rfl) inTX9 (gc (t := 0) (by decide) (ok1 (t := 0) (Nat.le_of_ble_eq_true rfl))) kw_2_112 rfl (rv_nn (a := ad 1) (r := 1) (ok1 (t := 1) (Nat.le_of_ble_eq_true rfl)).1) dX9_dearestEntry_5 ?_
  refine q_calli (q_runVN X hK hZ zo (gc (t := 1) (by decide) (ok1 (t := 1) (Nat.le_of_ble_eq_true rfl))) rfl rfl [] [.ref (ad 1 1)] rfl rfl (Nat.le_of_ble_eq_true rfl) dX9_dearestEntry_8 ⟨Nat.le_of_ble_eq_true rfl, Nat.le_of_ble_eq_true rfl⟩ (c_X8_dearest ax 1 (ok1 (t := 1) (Nat.le_of_ble_eq_true rfl)) mm _ h) rfl rfl (List.mem_of_getElem? (i := 16) rfl) kw_1_2 kw_2_235 kw_2_234 ks_8 hy_X8_dearest.2 ⟨Nat.le_of_ble_eq_true rfl, Nat.le_of_ble_eq_true rfl⟩) (fun r_1 m_2 h => ?_)
  refine q_calli (q_runVN X hK hZ zo (gc (t := 1) (by decide) (ok1 (t := 1) (Nat.le_of_ble_eq_true rfl))) rfl rfl [.int r_1] [] rfl rfl (Nat.le_of_ble_eq_true rfl) dX9_dearestEntry_11 ⟨Nat.le_of_ble_eq_true rfl, Nat.le_of_ble_eq_true rfl⟩ (c_X8_numberAt ax 1 (ok1 (t := 1) (Nat.le_of_ble_eq_true rfl)) r_1 m_2 _ h) rfl rfl (List.mem_of_getElem? (i := 14) rfl) kw_1_2 kw_2_224 kw_2_223 ks_7 hy_X8_numberAt.2 ⟨Nat.le_of_ble_eq_true rfl, Nat.le_of_ble_eq_true rfl⟩) (fun r_3 m_4 h => ?_)
  obtain ⟨h, hm⟩ := h
  subst hm
  exact hE _ _ _ _ dX9_dearestEntry_14 h
theorem dX4_add_0 : decode cX4_add 0 = .ok (.aload_n 0, 1) := by decide +kernel
theorem dX4_add_1 : decode cX4_add 1 = .ok (.getfield 9, 3) := by decide +kernel
theorem dX4_add_4 : decode cX4_add 4 = .ok (.aload_n 0, 1) := by decide +kernel
theorem dX4_add_5 : decode cX4_add 5 = .ok (.getfield 18, 3) := by decide +kernel
theorem dX4_add_8 : decode cX4_add 8 = .ok (.iload_n 1, 1) := by decide +kernel
theorem dX4_add_9 : decode cX4_add 9 = .ok (.iastore, 1) := by decide +kernel
theorem dX4_add_10 : decode cX4_add 10 = .ok (.aload_n 0, 1) := by decide +kernel
theorem dX4_add_11 : decode cX4_add 11 = .ok (.aload_n 0, 1) := by decide +kernel
theorem dX4_add_12 : decode cX4_add 12 = .ok (.getfield 18, 3) := by decide +kernel
theorem dX4_add_15 : decode cX4_add 15 = .ok (.iconst 1, 1) := by decide +kernel
theorem dX4_add_16 : decode cX4_add 16 = .ok (.iadd, 1) := by decide +kernel
theorem dX4_add_17 : decode cX4_add 17 = .ok (.putfield 18, 3) := by decide +kernel
theorem dX4_add_20 : decode cX4_add 20 = .ok (.aload_n 0, 1) := by decide +kernel
theorem dX4_add_21 : decode cX4_add 21 = .ok (.getfield 18, 3) := by decide +kernel
theorem dX4_add_24 : decode cX4_add 24 = .ok (.ireturn, 1) := by decide +kernel
def w_X4_add (p0 : Int32) (mm : Mm) (Q9 : Int32 → Mm → Prop) : Prop :=
  vp_in (mm.1 17 1 1) 60 ∧ ∀ m_2 : Mm, m_2 = sI mm 18 1 (mm.1 17 1 1).toNatClampNeg p0 → (∀ m_3 : Mm, m_3 = sI m_2 17 1 1 ((m_2.1 17 1 1) + 1) → (Q9 (m_3.1 17 1 1) m_3))
def rm_X4_add : Room := { frames := 0, cells := 0, slots := 0, locals := 0 }
theorem hy_X4_add : yX4_add.cls = RX4 ∧ yX4_add.cls ≠ "java/lang/invoke/MethodHandle" ∧ yX4_add.cls ≠ "java/lang/invoke/VarHandle" ∧ (parseMethodDescriptor yX4_add.desc).map (fun d => d.parameters.length) = some 1 := by decide +kernel
set_option maxRecDepth 100000 in
set_option maxHeartbeats 4000000 in
theorem c_X4_add {l : Launch} {D : va_G} {cA : Nat → ClassId} {ad : Nat → Nat → Nat} {A : Nat → Prop} (ax : Ax ad GC A) (p0 : Int32) (mm : Mm) (Q9 : Int32 → Mm → Prop) (h : w_X4_add p0 mm Q9) : Met l yX4_add (.code yX4_add cX4_add 2 (some .int) :: TG) rm_X4_add (PcM TT D cA ad false GC (ZC ad A) [.ref (ad 17 1), .int p0] mm) (AnsI TT D cA ad false GC A Q9) 0 0 A := by
  have zo := ZC_ok ad A
  unfold w_X4_add at h
  refine enterI pl_X4 ⟨rfl, rfl⟩ rfl (Nat.le_of_ble_eq_true rfl) ?_
  intro p e s m args below meth c QQ X hK hZ hnm hE
  refine q_aload_n (j := 0) X dX4_add_0 rfl rfl ?_
  refine q_get (k := 0) (v := .ref (ad 18 1)) X hK rfl rfl (Nat.le_of_ble_eq_true rfl) inTX4 (gc (t := 17) (by decide) (ok1 (t := 17) (Nat.le_of_ble_eq_true rfl))) kw_2_89 rfl (rv_nn (a := ad 18) (r := 1) (ok1 (t := 18) (Nat.le_of_ble_eq_true rfl)).1) dX4_add_1 ?_
  refine q_aload_n (j := 0) X dX4_add_4 rfl rfl ?_
  refine q_get (k := 1) (v := .int (mm.1 17 1 1)) X hK rfl rfl (Nat.le_of_ble_eq_true rfl) inTX4 (gc (t := 17) (by decide) (ok1 (t := 17) (Nat.le_of_ble_eq_true rfl))) kw_2_91 rfl rfl dX4_add_5 ?_
  refine q_iload_n (j := 1) X dX4_add_8 rfl rfl ?_
  obtain ⟨b_1, h⟩ := h
  refine q_iast (t := 18) (i := 1) (jn := (mm.1 17 1 1).toNatClampNeg) X ax hK rfl rfl (gc (t := 18) (by decide) (ok1 (t := 18) (Nat.le_of_ble_eq_true rfl))) rfl b_1 rfl rfl dX4_add_9 ?_
  refine q_nmP (fun m_2 em_2 => ?_)
  have h := h m_2 em_2
  refine q_aload_n (j := 0) X dX4_add_10 rfl rfl ?_
  refine q_aload_n (j := 0) X dX4_add_11 rfl rfl ?_
  refine q_get (k := 1) (v := .int (m_2.1 17 1 1)) X hK rfl rfl (Nat.le_of_ble_eq_true rfl) inTX4 (gc (t := 17) (by decide) (ok1 (t := 17) (Nat.le_of_ble_eq_true rfl))) kw_2_91 rfl rfl dX4_add_12 ?_
  refine q_iconst (v := 1) X dX4_add_15 (by decide) ?_
  refine q_iadd X dX4_add_16 ?_
  refine q_putI (k := 1) X ax hK rfl rfl (Nat.le_of_ble_eq_true rfl) inTX4 (gc (t := 17) (by decide) (ok1 (t := 17) (Nat.le_of_ble_eq_true rfl))) tyX4 tyX4_ok nmX4 kw_2_91 rfl rfl (tyX4_ok 1 (Nat.le_of_ble_eq_true rfl)) rfl dX4_add_17 ?_
  refine q_nmP (fun m_3 em_3 => ?_)
  have h := h m_3 em_3
  refine q_aload_n (j := 0) X dX4_add_20 rfl rfl ?_
  refine q_get (k := 1) (v := .int (m_3.1 17 1 1)) X hK rfl rfl (Nat.le_of_ble_eq_true rfl) inTX4 (gc (t := 17) (by decide) (ok1 (t := 17) (Nat.le_of_ble_eq_true rfl))) kw_2_91 rfl rfl dX4_add_21 ?_
  exact hE _ _ _ _ dX4_add_24 h
theorem dX4_wipe_0 : decode cX4_wipe 0 = .ok (.aload_n 0, 1) := by decide +kernel
theorem dX4_wipe_1 : decode cX4_wipe 1 = .ok (.getfield 18, 3) := by decide +kernel
theorem dX4_wipe_4 : decode cX4_wipe 4 = .ok (.istore_n 1, 1) := by decide +kernel
theorem dX4_wipe_5 : decode cX4_wipe 5 = .ok (.aload_n 0, 1) := by decide +kernel
theorem dX4_wipe_6 : decode cX4_wipe 6 = .ok (.iconst 0, 1) := by decide +kernel
theorem dX4_wipe_7 : decode cX4_wipe 7 = .ok (.putfield 18, 3) := by decide +kernel
theorem dX4_wipe_10 : decode cX4_wipe 10 = .ok (.iload_n 1, 1) := by decide +kernel
theorem dX4_wipe_11 : decode cX4_wipe 11 = .ok (.ireturn, 1) := by decide +kernel
def w_X4_wipe  (mm : Mm) (Q9 : Int32 → Mm → Prop) : Prop :=
  ∀ x_1 : Int32, x_1 = (mm.1 17 1 1) → (∀ m_2 : Mm, m_2 = sI mm 17 1 1 0 → (Q9 x_1 m_2))
def rm_X4_wipe : Room := { frames := 0, cells := 0, slots := 0, locals := 0 }
theorem hy_X4_wipe : yX4_wipe.cls = RX4 ∧ yX4_wipe.cls ≠ "java/lang/invoke/MethodHandle" ∧ yX4_wipe.cls ≠ "java/lang/invoke/VarHandle" ∧ (parseMethodDescriptor yX4_wipe.desc).map (fun d => d.parameters.length) = some 0 := by decide +kernel
set_option maxRecDepth 100000 in
set_option maxHeartbeats 4000000 in
theorem c_X4_wipe {l : Launch} {D : va_G} {cA : Nat → ClassId} {ad : Nat → Nat → Nat} {A : Nat → Prop} (ax : Ax ad GC A)  (mm : Mm) (Q9 : Int32 → Mm → Prop) (h : w_X4_wipe mm Q9) : Met l yX4_wipe (.code yX4_wipe cX4_wipe 2 (some .int) :: TG) rm_X4_wipe (PcM TT D cA ad false GC (ZC ad A) [.ref (ad 17 1)] mm) (AnsI TT D cA ad false GC A Q9) 0 0 A := by
  have zo := ZC_ok ad A
  unfold w_X4_wipe at h
  refine enterI pl_X4 ⟨rfl, rfl⟩ rfl (Nat.le_of_ble_eq_true rfl) ?_
  intro p e s m args below meth c QQ X hK hZ hnm hE
  refine q_aload_n (j := 0) X dX4_wipe_0 rfl rfl ?_
  refine q_get (k := 1) (v := .int (mm.1 17 1 1)) X hK rfl rfl (Nat.le_of_ble_eq_true rfl) inTX4 (gc (t := 17) (by decide) (ok1 (t := 17) (Nat.le_of_ble_eq_true rfl))) kw_2_91 rfl rfl dX4_wipe_1 ?_
  refine q_topi (fun x_1 ex_1 => ?_)
  have h := h x_1 ex_1
  refine q_istore_n (lv' := [(1, .int x_1), (0, .ref (ad 17 1))]) X dX4_wipe_4 rfl (by decide) rfl ?_
  refine q_aload_n (j := 1) X dX4_wipe_5 rfl rfl ?_
  refine q_iconst (v := 0) X dX4_wipe_6 (by decide) ?_
  refine q_putI (k := 1) X ax hK rfl rfl (Nat.le_of_ble_eq_true rfl) inTX4 (gc (t := 17) (by decide) (ok1 (t := 17) (Nat.le_of_ble_eq_true rfl))) tyX4 tyX4_ok nmX4 kw_2_91 rfl rfl (tyX4_ok 1 (Nat.le_of_ble_eq_true rfl)) rfl dX4_wipe_7 ?_
  refine q_nmP (fun m_2 em_2 => ?_)
  have h := h m_2 em_2
  refine q_iload_n (j := 0) X dX4_wipe_10 rfl rfl ?_
  exact hE _ _ _ _ dX4_wipe_11 h
theorem dX9_clearText_0 : decode cX9_clearText 0 = .ok (.aload_n 0, 1) := by decide +kernel
theorem dX9_clearText_1 : decode cX9_clearText 1 = .ok (.getfield 35, 3) := by decide +kernel
theorem dX9_clearText_4 : decode cX9_clearText 4 = .ok (.invokevirtual 346, 3) := by decide +kernel
theorem dX9_clearText_7 : decode cX9_clearText 7 = .ok (.ireturn, 1) := by decide +kernel
def w_X9_clearText  (mm : Mm) (Q9 : Int32 → Mm → Prop) : Prop :=
  w_X4_wipe mm (fun (r_1 : Int32) (m_2 : Mm) => Q9 r_1 m_2)
def rm_X9_clearText : Room := { frames := 1, cells := 0, slots := 0, locals := 21 }
theorem hy_X9_clearText : yX9_clearText.cls = RX9 ∧ yX9_clearText.cls ≠ "java/lang/invoke/MethodHandle" ∧ yX9_clearText.cls ≠ "java/lang/invoke/VarHandle" ∧ (parseMethodDescriptor yX9_clearText.desc).map (fun d => d.parameters.length) = some 0 := by decide +kernel
set_option maxRecDepth 100000 in
set_option maxHeartbeats 4000000 in
theorem c_X9_clearText {l : Launch} {D : va_G} {cA : Nat → ClassId} {ad : Nat → Nat → Nat} {A : Nat → Prop} (ax : Ax ad GC A)  (mm : Mm) (Q9 : Int32 → Mm → Prop) (h : w_X9_clearText mm Q9) : Met l yX9_clearText (.code yX9_clearText cX9_clearText 1 (some .int) :: TG) rm_X9_clearText (PcM TT D cA ad false GC (ZC ad A) [.ref (ad 0 1)] mm) (AnsI TT D cA ad false GC A Q9) 0 0 A := by
  have zo := ZC_ok ad A
  unfold w_X9_clearText at h
  refine enterI pl_X9 ⟨rfl, rfl⟩ rfl (Nat.le_of_ble_eq_true rfl) ?_
  intro p e s m args below meth c QQ X hK hZ hnm hE
  refine q_aload_n (j := 0) X dX9_clearText_0 rfl rfl ?_
  refine q_get (k := 3) (v := .ref (ad 17 1)) X hK rfl rfl (Nat.le_of_ble_eq_true rfl) inTX9 (gc (t := 0) (by decide) (ok1 (t := 0) (Nat.le_of_ble_eq_true rfl))) kw_2_115 rfl (rv_nn (a := ad 17) (r := 1) (ok1 (t := 17) (Nat.le_of_ble_eq_true rfl)).1) dX9_clearText_1 ?_
  refine q_calli (q_runVN X hK hZ zo (gc (t := 17) (by decide) (ok1 (t := 17) (Nat.le_of_ble_eq_true rfl))) rfl rfl [] [] rfl rfl (Nat.le_of_ble_eq_true rfl) dX9_clearText_4 ⟨Nat.le_of_ble_eq_true rfl, Nat.le_of_ble_eq_true rfl⟩ (c_X4_wipe ax mm _ h) rfl rfl (List.mem_of_getElem? (i := 17) rfl) kw_1_10 kw_3_7 kw_3_6 ks_10 hy_X4_wipe.2 ⟨Nat.le_of_ble_eq_true rfl, Nat.le_of_ble_eq_true rfl⟩) (fun r_1 m_2 h => ?_)
  exact hE _ _ _ _ dX9_clearText_7 h
theorem dX4_startNumber_0 : decode cX4_startNumber 0 = .ok (.aload_n 0, 1) := by decide +kernel
theorem dX4_startNumber_1 : decode cX4_startNumber 1 = .ok (.iload_n 1, 1) := by decide +kernel
theorem dX4_startNumber_2 : decode cX4_startNumber 2 = .ok (.putfield 44, 3) := by decide +kernel
theorem dX4_startNumber_5 : decode cX4_startNumber 5 = .ok (.aload_n 0, 1) := by decide +kernel
theorem dX4_startNumber_6 : decode cX4_startNumber 6 = .ok (.getfield 15, 3) := by decide +kernel
theorem dX4_startNumber_9 : decode cX4_startNumber 9 = .ok (.iload_n 1, 1) := by decide +kernel
theorem dX4_startNumber_10 : decode cX4_startNumber 10 = .ok (.iconst (-1), 1) := by decide +kernel
theorem dX4_startNumber_11 : decode cX4_startNumber 11 = .ok (.iastore, 1) := by decide +kernel
theorem dX4_startNumber_12 : decode cX4_startNumber 12 = .ok (.return_, 1) := by decide +kernel
def w_X4_startNumber (p0 : Int32) (mm : Mm) (Q9 : Mm → Prop) : Prop :=
  ∀ m_1 : Mm, m_1 = sI mm 17 1 4 p0 → (vp_in p0 4 ∧ ∀ m_3 : Mm, m_3 = sI m_1 19 1 p0.toNatClampNeg (-1) → (Q9 m_3))
def rm_X4_startNumber : Room := { frames := 0, cells := 0, slots := 0, locals := 0 }
theorem hy_X4_startNumber : yX4_startNumber.cls = RX4 ∧ yX4_startNumber.cls ≠ "java/lang/invoke/MethodHandle" ∧ yX4_startNumber.cls ≠ "java/lang/invoke/VarHandle" ∧ (parseMethodDescriptor yX4_startNumber.desc).map (fun d => d.parameters.length) = some 1 := by decide +kernel
set_option maxRecDepth 100000 in
set_option maxHeartbeats 4000000 in
theorem c_X4_startNumber {l : Launch} {D : va_G} {cA : Nat → ClassId} {ad : Nat → Nat → Nat} {A : Nat → Prop} (ax : Ax ad GC A) (p0 : Int32) (mm : Mm) (Q9 : Mm → Prop) (h : w_X4_startNumber p0 mm Q9) : Met l yX4_startNumber (.code yX4_startNumber cX4_startNumber 2 none :: TG) rm_X4_startNumber (PcM TT D cA ad false GC (ZC ad A) [.ref (ad 17 1), .int p0] mm) (AnsV TT D cA ad false GC A Q9) 0 0 A := by
  have zo := ZC_ok ad A
  unfold w_X4_startNumber at h
  refine enterV pl_X4 ⟨rfl, rfl⟩ rfl (Nat.le_of_ble_eq_true rfl) ?_
  intro p e s m args below meth c QQ X hK hZ hnm hE
  refine q_aload_n (j := 0) X dX4_startNumber_0 rfl rfl ?_
  refine q_iload_n (j := 1) X dX4_startNumber_1 rfl rfl ?_
  refine q_putI (k := 4) X ax hK rfl rfl (Nat.le_of_ble_eq_true rfl) inTX4 (gc (t := 17) (by decide) (ok1 (t := 17) (Nat.le_of_ble_eq_true rfl))) tyX4 tyX4_ok nmX4 kw_2_96 rfl rfl (tyX4_ok 4 (Nat.le_of_ble_eq_true rfl)) rfl dX4_startNumber_2 ?_
  refine q_nmP (fun m_1 em_1 => ?_)
  have h := h m_1 em_1
  refine q_aload_n (j := 0) X dX4_startNumber_5 rfl rfl ?_
  refine q_get (k := 5) (v := .ref (ad 19 1)) X hK rfl rfl (Nat.le_of_ble_eq_true rfl) inTX4 (gc (t := 17) (by decide) (ok1 (t := 17) (Nat.le_of_ble_eq_true rfl))) kw_2_97 rfl (rv_nn (a := ad 19) (r := 1) (ok1 (t := 19) (Nat.le_of_ble_eq_true rfl)).1) dX4_startNumber_6 ?_
  refine q_iload_n (j := 1) X dX4_startNumber_9 rfl rfl ?_
  refine q_iconst (v := (-1)) X dX4_startNumber_10 (by decide) ?_
  obtain ⟨b_2, h⟩ := h
  refine q_iast (t := 19) (i := 1) (jn := p0.toNatClampNeg) X ax hK rfl rfl (gc (t := 19) (by decide) (ok1 (t := 19) (Nat.le_of_ble_eq_true rfl))) rfl b_2 rfl rfl dX4_startNumber_11 ?_
  refine q_nmP (fun m_3 em_3 => ?_)
  have h := h m_3 em_3
  exact hE _ _ _ dX4_startNumber_12 h
theorem dX4_startLine_0 : decode cX4_startLine 0 = .ok (.aload_n 0, 1) := by decide +kernel
theorem dX4_startLine_1 : decode cX4_startLine 1 = .ok (.aconst_null, 1) := by decide +kernel
theorem dX4_startLine_2 : decode cX4_startLine 2 = .ok (.putfield 37, 3) := by decide +kernel
theorem dX4_startLine_5 : decode cX4_startLine 5 = .ok (.aload_n 0, 1) := by decide +kernel
theorem dX4_startLine_6 : decode cX4_startLine 6 = .ok (.iconst 0, 1) := by decide +kernel
theorem dX4_startLine_7 : decode cX4_startLine 7 = .ok (.invokevirtual 40, 3) := by decide +kernel
theorem dX4_startLine_10 : decode cX4_startLine 10 = .ok (.return_, 1) := by decide +kernel
def w_X4_startLine  (mm : Mm) (Q9 : Mm → Prop) : Prop :=
  ∀ m_1 : Mm, m_1 = sR mm 17 1 3 0 → (w_X4_startNumber 0 m_1 (fun (m_3 : Mm) => Q9 m_3))
def rm_X4_startLine : Room := { frames := 1, cells := 0, slots := 0, locals := 21 }
theorem hy_X4_startLine : yX4_startLine.cls = RX4 ∧ yX4_startLine.cls ≠ "java/lang/invoke/MethodHandle" ∧ yX4_startLine.cls ≠ "java/lang/invoke/VarHandle" ∧ (parseMethodDescriptor yX4_startLine.desc).map (fun d => d.parameters.length) = some 0 := by decide +kernel
set_option maxRecDepth 100000 in
set_option maxHeartbeats 4000000 in
theorem c_X4_startLine {l : Launch} {D : va_G} {cA : Nat → ClassId} {ad : Nat → Nat → Nat} {A : Nat → Prop} (ax : Ax ad GC A)  (mm : Mm) (Q9 : Mm → Prop) (h : w_X4_startLine mm Q9) : Met l yX4_startLine (.code yX4_startLine cX4_startLine 1 none :: TG) rm_X4_startLine (PcM TT D cA ad false GC (ZC ad A) [.ref (ad 17 1)] mm) (AnsV TT D cA ad false GC A Q9) 0 0 A := by
  have zo := ZC_ok ad A
  unfold w_X4_startLine at h
  refine enterV pl_X4 ⟨rfl, rfl⟩ rfl (Nat.le_of_ble_eq_true rfl) ?_
  intro p e s m args below meth c QQ X hK hZ hnm hE
  refine q_aload_n (j := 0) X dX4_startLine_0 rfl rfl ?_
  refine q_null X dX4_startLine_1 ?_
  refine q_putR (r := 0) (k := 3) X ax hK rfl rfl (Nat.le_of_ble_eq_true rfl) inTX4 (gc (t := 17) (by decide) (ok1 (t := 17) (Nat.le_of_ble_eq_true rfl))) tyX4 tyX4_ok nmX4 kw_2_95 rfl rfl (tyX4_ok 3 (Nat.le_of_ble_eq_true rfl)) (Or.inr ⟨_, rfl⟩) rfl rfl rfl dX4_startLine_2 ?_
  refine q_nmP (fun m_1 em_1 => ?_)
  have h := h m_1 em_1
  refine q_aload_n (j := 0) X dX4_startLine_5 rfl rfl ?_
  refine q_iconst (v := 0) X dX4_startLine_6 (by decide) ?_
  refine q_callv (q_runV X hK hZ zo (gc (t := 17) (by decide) (ok1 (t := 17) (Nat.le_of_ble_eq_true rfl))) rfl rfl [.int 0] [] rfl rfl (Nat.le_of_ble_eq_true rfl) dX4_startLine_7 ⟨Nat.le_of_ble_eq_true rfl, Nat.le_of_ble_eq_true rfl⟩ (c_X4_startNumber ax 0 m_1 _ h) rfl rfl (gV kw_3_20 kw_3_22 ks_13 kw_1_10 kw_3_23) hy_X4_startNumber ⟨Nat.le_of_ble_eq_true rfl, Nat.le_of_ble_eq_true rfl⟩) (fun m_3 h => ?_)
  exact hE _ _ _ dX4_startLine_10 h
theorem dX4_formOf_0 : decode cX4_formOf 0 = .ok (.iload_n 0, 1) := by decide +kernel
theorem dX4_formOf_1 : decode cX4_formOf 1 = .ok (.tableswitch 135 98 120 #[123, 135, 127, 107, 135, 115, 135, 135, 135, 135, 123, 119, 135, 123, 135, 135, 135, 135, 131, 135, 135, 111, 111], 107) := by decide +kernel
theorem dX4_formOf_108 : decode cX4_formOf 108 = .ok (.getstatic 74, 3) := by decide +kernel
theorem dX4_formOf_111 : decode cX4_formOf 111 = .ok (.areturn, 1) := by decide +kernel
theorem dX4_formOf_112 : decode cX4_formOf 112 = .ok (.getstatic 77, 3) := by decide +kernel
theorem dX4_formOf_115 : decode cX4_formOf 115 = .ok (.areturn, 1) := by decide +kernel
theorem dX4_formOf_116 : decode cX4_formOf 116 = .ok (.getstatic 80, 3) := by decide +kernel
theorem dX4_formOf_119 : decode cX4_formOf 119 = .ok (.areturn, 1) := by decide +kernel
theorem dX4_formOf_120 : decode cX4_formOf 120 = .ok (.getstatic 83, 3) := by decide +kernel
theorem dX4_formOf_123 : decode cX4_formOf 123 = .ok (.areturn, 1) := by decide +kernel
theorem dX4_formOf_124 : decode cX4_formOf 124 = .ok (.getstatic 86, 3) := by decide +kernel
theorem dX4_formOf_127 : decode cX4_formOf 127 = .ok (.areturn, 1) := by decide +kernel
theorem dX4_formOf_128 : decode cX4_formOf 128 = .ok (.getstatic 89, 3) := by decide +kernel
theorem dX4_formOf_131 : decode cX4_formOf 131 = .ok (.areturn, 1) := by decide +kernel
theorem dX4_formOf_132 : decode cX4_formOf 132 = .ok (.getstatic 92, 3) := by decide +kernel
theorem dX4_formOf_135 : decode cX4_formOf 135 = .ok (.areturn, 1) := by decide +kernel
theorem dX4_formOf_136 : decode cX4_formOf 136 = .ok (.aconst_null, 1) := by decide +kernel
theorem dX4_formOf_137 : decode cX4_formOf 137 = .ok (.areturn, 1) := by decide +kernel
def w_X4_formOf (p0 : Int32) (mm : Mm) (Q9 : Nat → Prop) : Prop :=
  ((p0 = 98 → Q9 10) ∧
  (p0 = 100 → Q9 11) ∧
  (p0 = 101 → Q9 6) ∧
  (p0 = 103 → Q9 8) ∧
  (p0 = 108 → Q9 10) ∧
  (p0 = 109 → Q9 9) ∧
  (p0 = 111 → Q9 10) ∧
  (p0 = 116 → Q9 12) ∧
  (p0 = 119 → Q9 7) ∧
  (p0 = 120 → Q9 7) ∧
  (¬ p0 = 98 → ¬ p0 = 100 → ¬ p0 = 101 → ¬ p0 = 103 → ¬ p0 = 108 → ¬ p0 = 109 → ¬ p0 = 111 → ¬ p0 = 116 → ¬ p0 = 119 → ¬ p0 = 120 → Q9 0))
def rm_X4_formOf : Room := { frames := 0, cells := 0, slots := 0, locals := 0 }
theorem hy_X4_formOf : yX4_formOf.cls = RX4 ∧ yX4_formOf.cls ≠ "java/lang/invoke/MethodHandle" ∧ yX4_formOf.cls ≠ "java/lang/invoke/VarHandle" ∧ (parseMethodDescriptor yX4_formOf.desc).map (fun d => d.parameters.length) = some 1 := by decide +kernel
set_option maxRecDepth 100000 in
set_option maxHeartbeats 4000000 in
theorem c_X4_formOf {l : Launch} {D : va_G} {cA : Nat → ClassId} {ad : Nat → Nat → Nat} {A : Nat → Prop} (ax : Ax ad GC A) (p0 : Int32) (mm : Mm) (Q9 : Nat → Prop) (h : w_X4_formOf p0 mm Q9) : Met l yX4_formOf (.code yX4_formOf cX4_formOf 1 (some (.array .int)) :: TG) rm_X4_formOf (PcM TT D cA ad false GC (ZC ad A) [.int p0] mm) (AnsQ TT D cA ad false GC 20 A (fun r mm' => Q9 r ∧ mm = mm')) 0 0 A := by
  have zo := ZC_ok ad A
  unfold w_X4_formOf at h
  refine enterR (Or.inr ⟨_, rfl⟩) pl_X4 ⟨rfl, rfl⟩ rfl (Nat.le_of_ble_eq_true rfl) ?_
  intro p e s m args below meth c QQ X hK hZ hnm hE
  refine q_iload_n (j := 0) X dX4_formOf_0 rfl rfl ?_
  by_cases c_1 : p0 = 98
  · have h := h.1 c_1
    refine q_tabI (k := 98) (tgt := 124) X dX4_formOf_1 c_1 (by decide) (by decide) rfl (by decide) ?_
    refine q_gets X (hZ.1 10 (okc (t := 20) 10 (by decide))).1 kw_3_39 dX4_formOf_124 ?_
    rw [← rv_nn (a := ad 20) (r := 10) (okc (t := 20) 10 (by decide)).1]
    exact hE _ _ 10 _ dX4_formOf_127 ⟨h, rfl⟩
  have h := h.2
  have nc_1_98 := c_1
  by_cases c_1 : p0 = 100
  · have h := h.1 c_1
    refine q_tabI (k := 100) (tgt := 128) X dX4_formOf_1 c_1 (by decide) (by decide) rfl (by decide) ?_
    refine q_gets X (hZ.1 11 (okc (t := 20) 11 (by decide))).1 kw_3_41 dX4_formOf_128 ?_
    rw [← rv_nn (a := ad 20) (r := 11) (okc (t := 20) 11 (by decide)).1]
    exact hE _ _ 11 _ dX4_formOf_131 ⟨h, rfl⟩
  have h := h.2
  have nc_1_100 := c_1
  by_cases c_1 : p0 = 101
  · have h := h.1 c_1
    refine q_tabI (k := 101) (tgt := 108) X dX4_formOf_1 c_1 (by decide) (by decide) rfl (by decide) ?_
    refine q_gets X (hZ.1 6 (okc (t := 20) 6 (by decide))).1 kw_3_31 dX4_formOf_108 ?_
    rw [← rv_nn (a := ad 20) (r := 6) (okc (t := 20) 6 (by decide)).1]
    exact hE _ _ 6 _ dX4_formOf_111 ⟨h, rfl⟩
  have h := h.2
  have nc_1_101 := c_1
  by_cases c_1 : p0 = 103
  · have h := h.1 c_1
    refine q_tabI (k := 103) (tgt := 116) X dX4_formOf_1 c_1 (by decide) (by decide) rfl (by decide) ?_
    refine q_gets X (hZ.1 8 (okc (t := 20) 8 (by decide))).1 kw_3_35 dX4_formOf_116 ?_
    rw [← rv_nn (a := ad 20) (r := 8) (okc (t := 20) 8 (by decide)).1]
    exact hE _ _ 8 _ dX4_formOf_119 ⟨h, rfl⟩
  have h := h.2
  have nc_1_103 := c_1
  by_cases c_1 : p0 = 108
  · have h := h.1 c_1
    refine q_tabI (k := 108) (tgt := 124) X dX4_formOf_1 c_1 (by decide) (by decide) rfl (by decide) ?_
    refine q_gets X (hZ.1 10 (okc (t := 20) 10 (by decide))).1 kw_3_39 dX4_formOf_124 ?_
    rw [← rv_nn (a := ad 20) (r := 10) (okc (t := 20) 10 (by decide)).1]
    exact hE _ _ 10 _ dX4_formOf_127 ⟨h, rfl⟩
  have h := h.2
  have nc_1_108 := c_1
  by_cases c_1 : p0 = 109
  · have h := h.1 c_1
    refine q_tabI (k := 109) (tgt := 120) X dX4_formOf_1 c_1 (by decide) (by decide) rfl (by decide) ?_
    refine q_gets X (hZ.1 9 (okc (t := 20) 9 (by decide))).1 kw_3_37 dX4_formOf_120 ?_
    rw [← rv_nn (a := ad 20) (r := 9) (okc (t := 20) 9 (by decide)).1]
    exact hE _ _ 9 _ dX4_formOf_123 ⟨h, rfl⟩
  have h := h.2
  have nc_1_109 := c_1
  by_cases c_1 : p0 = 111
  · have h := h.1 c_1
    refine q_tabI (k := 111) (tgt := 124) X dX4_formOf_1 c_1 (by decide) (by decide) rfl (by decide) ?_
    refine q_gets X (hZ.1 10 (okc (t := 20) 10 (by decide))).1 kw_3_39 dX4_formOf_124 ?_
    rw [← rv_nn (a := ad 20) (r := 10) (okc (t := 20) 10 (by decide)).1]
    exact hE _ _ 10 _ dX4_formOf_127 ⟨h, rfl⟩
  have h := h.2
  have nc_1_111 := c_1
  by_cases c_1 : p0 = 116
  · have h := h.1 c_1
    refine q_tabI (k := 116) (tgt := 132) X dX4_formOf_1 c_1 (by decide) (by decide) rfl (by decide) ?_
    refine q_gets X (hZ.1 12 (okc (t := 20) 12 (by decide))).1 kw_3_43 dX4_formOf_132 ?_
    rw [← rv_nn (a := ad 20) (r := 12) (okc (t := 20) 12 (by decide)).1]
    exact hE _ _ 12 _ dX4_formOf_135 ⟨h, rfl⟩
  have h := h.2
  have nc_1_116 := c_1
  by_cases c_1 : p0 = 119
  · have h := h.1 c_1
    refine q_tabI (k := 119) (tgt := 112) X dX4_formOf_1 c_1 (by decide) (by decide) rfl (by decide) ?_
    refine q_gets X (hZ.1 7 (okc (t := 20) 7 (by decide))).1 kw_3_33 dX4_formOf_112 ?_
    rw [← rv_nn (a := ad 20) (r := 7) (okc (t := 20) 7 (by decide)).1]
    exact hE _ _ 7 _ dX4_formOf_115 ⟨h, rfl⟩
  have h := h.2
  have nc_1_119 := c_1
  by_cases c_1 : p0 = 120
  · have h := h.1 c_1
    refine q_tabI (k := 120) (tgt := 112) X dX4_formOf_1 c_1 (by decide) (by decide) rfl (by decide) ?_
    refine q_gets X (hZ.1 7 (okc (t := 20) 7 (by decide))).1 kw_3_33 dX4_formOf_112 ?_
    rw [← rv_nn (a := ad 20) (r := 7) (okc (t := 20) 7 (by decide)).1]
    exact hE _ _ 7 _ dX4_formOf_115 ⟨h, rfl⟩
  have h := h.2
  have nc_1_120 := c_1
  have h := h nc_1_98 nc_1_100 nc_1_101 nc_1_103 nc_1_108 nc_1_109 nc_1_111 nc_1_116 nc_1_119 nc_1_120
  refine q_tabD (ks := [98, 100, 101, 103, 108, 109, 111, 116, 119, 120]) (tgt := 136) X dX4_formOf_1 (by intro k hk; simp only [List.mem_cons, List.not_mem_nil, or_false] at hk; rcases hk with rfl | rfl | rfl | rfl | rfl | rfl | rfl | rfl | rfl | rfl <;> assumption) (by decide +kernel) (by decide) ?_
  refine q_null X dX4_formOf_136 ?_
  exact hE _ _ 0 _ dX4_formOf_137 ⟨h, rfl⟩
theorem dX4_sortAt_0 : decode cX4_sortAt 0 = .ok (.aload_n 0, 1) := by decide +kernel
theorem dX4_sortAt_1 : decode cX4_sortAt 1 = .ok (.getfield 37, 3) := by decide +kernel
theorem dX4_sortAt_4 : decode cX4_sortAt 4 = .ok (.ifnull 21, 3) := by decide +kernel
theorem dX4_sortAt_7 : decode cX4_sortAt 7 = .ok (.iload_n 1, 1) := by decide +kernel
theorem dX4_sortAt_8 : decode cX4_sortAt 8 = .ok (.aload_n 0, 1) := by decide +kernel
theorem dX4_sortAt_9 : decode cX4_sortAt 9 = .ok (.getfield 37, 3) := by decide +kernel
theorem dX4_sortAt_12 : decode cX4_sortAt 12 = .ok (.arraylength, 1) := by decide +kernel
theorem dX4_sortAt_13 : decode cX4_sortAt 13 = .ok (.if_icmp .ge 12, 3) := by decide +kernel
theorem dX4_sortAt_16 : decode cX4_sortAt 16 = .ok (.aload_n 0, 1) := by decide +kernel
theorem dX4_sortAt_17 : decode cX4_sortAt 17 = .ok (.getfield 37, 3) := by decide +kernel
theorem dX4_sortAt_20 : decode cX4_sortAt 20 = .ok (.iload_n 1, 1) := by decide +kernel
theorem dX4_sortAt_21 : decode cX4_sortAt 21 = .ok (.iaload, 1) := by decide +kernel
theorem dX4_sortAt_22 : decode cX4_sortAt 22 = .ok (.goto 5, 3) := by decide +kernel
theorem dX4_sortAt_25 : decode cX4_sortAt 25 = .ok (.bipush 8, 2) := by decide +kernel
theorem dX4_sortAt_27 : decode cX4_sortAt 27 = .ok (.ireturn, 1) := by decide +kernel
def w_X4_sortAt (p0 : Int32) (mm : Mm) (Q9 : Int32 → Prop) : Prop :=
  (((mm.2 17 1 3) = 0 → Q9 8) ∧
  (¬ (mm.2 17 1 3) = 0 → ok 20 (mm.2 17 1 3) ∧ ((((Int32.ofNat (slen (mm.2 17 1 3))) ≤ p0 → Q9 8) ∧
  (¬ (Int32.ofNat (slen (mm.2 17 1 3))) ≤ p0 → vp_in p0 (slen (mm.2 17 1 3)) ∧ (Q9 (stv (mm.2 17 1 3) p0.toNatClampNeg)))))))
def rm_X4_sortAt : Room := { frames := 0, cells := 0, slots := 0, locals := 0 }
theorem hy_X4_sortAt : yX4_sortAt.cls = RX4 ∧ yX4_sortAt.cls ≠ "java/lang/invoke/MethodHandle" ∧ yX4_sortAt.cls ≠ "java/lang/invoke/VarHandle" ∧ (parseMethodDescriptor yX4_sortAt.desc).map (fun d => d.parameters.length) = some 1 := by decide +kernel
set_option maxRecDepth 100000 in
set_option maxHeartbeats 4000000 in
theorem c_X4_sortAt {l : Launch} {D : va_G} {cA : Nat → ClassId} {ad : Nat → Nat → Nat} {A : Nat → Prop} (ax : Ax ad GC A) (p0 : Int32) (mm : Mm) (Q9 : Int32 → Prop) (h : w_X4_sortAt p0 mm Q9) : Met l yX4_sortAt (.code yX4_sortAt cX4_sortAt 2 (some .int) :: TG) rm_X4_sortAt (PcM TT D cA ad false GC (ZC ad A) [.ref (ad 17 1), .int p0] mm) (AnsI TT D cA ad false GC A (fun r mm' => Q9 r ∧ mm = mm')) 0 0 A := by
  have zo := ZC_ok ad A
  unfold w_X4_sortAt at h
  refine enterI pl_X4 ⟨rfl, rfl⟩ rfl (Nat.le_of_ble_eq_true rfl) ?_
  intro p e s m args below meth c QQ X hK hZ hnm hE
  refine q_aload_n (j := 0) X dX4_sortAt_0 rfl rfl ?_
  refine q_get (k := 3) (v := rv (ad 20) (mm.2 17 1 3)) X hK rfl rfl (Nat.le_of_ble_eq_true rfl) inTX4 (gc (t := 17) (by decide) (ok1 (t := 17) (Nat.le_of_ble_eq_true rfl))) kw_2_95 rfl rfl dX4_sortAt_1 ?_
  refine q_ifnull (tgt := 25) X dX4_sortAt_4 (by decide) (fun c_1 => ?_) (fun c_1 => ?_)
  · have h := h.1 c_1
    refine q_bipush (v := 8) X dX4_sortAt_25 (by decide) ?_
    exact hE _ _ _ _ dX4_sortAt_27 ⟨h, rfl⟩
  · have h := h.2 c_1
    refine q_iload_n (j := 1) X dX4_sortAt_7 rfl rfl ?_
    refine q_aload_n (j := 0) X dX4_sortAt_8 rfl rfl ?_
    refine q_get (k := 3) (v := rv (ad 20) (mm.2 17 1 3)) X hK rfl rfl (Nat.le_of_ble_eq_true rfl) inTX4 (gc (t := 17) (by decide) (ok1 (t := 17) (Nat.le_of_ble_eq_true rfl))) kw_2_95 rfl rfl dX4_sortAt_9 ?_
    obtain ⟨k_2, h⟩ := h
    rw [rv_nn (a := ad 20) (r := (mm.2 17 1 3)) k_2.1]
    refine q_tlen X (hZ.1 _ k_2).2 rfl dX4_sortAt_12 ?_
    refine q_icmp_ge (tgt := 25) X dX4_sortAt_13 (by decide) (fun c_3 => ?_) (fun c_3 => ?_)
    · have h := h.1 c_3
      refine q_bipush (v := 8) X dX4_sortAt_25 (by decide) ?_
      exact hE _ _ _ _ dX4_sortAt_27 ⟨h, rfl⟩
    · have h := h.2 c_3
      refine q_aload_n (j := 0) X dX4_sortAt_16 rfl rfl ?_
      refine q_get (k := 3) (v := rv (ad 20) (mm.2 17 1 3)) X hK rfl rfl (Nat.le_of_ble_eq_true rfl) inTX4 (gc (t := 17) (by decide) (ok1 (t := 17) (Nat.le_of_ble_eq_true rfl))) kw_2_95 rfl rfl dX4_sortAt_17 ?_
      refine q_iload_n (j := 1) X dX4_sortAt_20 rfl rfl ?_
      rw [rv_nn (a := ad 20) (r := (mm.2 17 1 3)) k_2.1]
      obtain ⟨b_4, h⟩ := h
      refine q_tiald (jn := p0.toNatClampNeg) (v := .int (stv (mm.2 17 1 3) p0.toNatClampNeg)) X (hZ.1 _ k_2).2 b_4 rfl rfl dX4_sortAt_21 ?_
      refine q_goto (tgt := 27) X dX4_sortAt_22 (by decide) ?_
      exact hE _ _ _ _ dX4_sortAt_27 ⟨h, rfl⟩
theorem dX4_readsDigit_0 : decode cX4_readsDigit 0 = .ok (.aload_n 0, 1) := by decide +kernel
theorem dX4_readsDigit_1 : decode cX4_readsDigit 1 = .ok (.getfield 15, 3) := by decide +kernel
theorem dX4_readsDigit_4 : decode cX4_readsDigit 4 = .ok (.aload_n 0, 1) := by decide +kernel
theorem dX4_readsDigit_5 : decode cX4_readsDigit 5 = .ok (.getfield 44, 3) := by decide +kernel
theorem dX4_readsDigit_8 : decode cX4_readsDigit 8 = .ok (.iaload, 1) := by decide +kernel
theorem dX4_readsDigit_9 : decode cX4_readsDigit 9 = .ok (.istore_n 2, 1) := by decide +kernel
theorem dX4_readsDigit_10 : decode cX4_readsDigit 10 = .ok (.aload_n 0, 1) := by decide +kernel
theorem dX4_readsDigit_11 : decode cX4_readsDigit 11 = .ok (.aload_n 0, 1) := by decide +kernel
theorem dX4_readsDigit_12 : decode cX4_readsDigit 12 = .ok (.getfield 44, 3) := by decide +kernel
theorem dX4_readsDigit_15 : decode cX4_readsDigit 15 = .ok (.invokevirtual 47, 3) := by decide +kernel
theorem dX4_readsDigit_18 : decode cX4_readsDigit 18 = .ok (.istore_n 3, 1) := by decide +kernel
theorem dX4_readsDigit_19 : decode cX4_readsDigit 19 = .ok (.iload_n 2, 1) := by decide +kernel
theorem dX4_readsDigit_20 : decode cX4_readsDigit 20 = .ok (.ifCond .eq 9, 3) := by decide +kernel
theorem dX4_readsDigit_23 : decode cX4_readsDigit 23 = .ok (.iload_n 3, 1) := by decide +kernel
theorem dX4_readsDigit_24 : decode cX4_readsDigit 24 = .ok (.bipush 8, 2) := by decide +kernel
theorem dX4_readsDigit_26 : decode cX4_readsDigit 26 = .ok (.if_icmp .ne 5, 3) := by decide +kernel
theorem dX4_readsDigit_29 : decode cX4_readsDigit 29 = .ok (.iconst 0, 1) := by decide +kernel
theorem dX4_readsDigit_30 : decode cX4_readsDigit 30 = .ok (.ireturn, 1) := by decide +kernel
theorem dX4_readsDigit_31 : decode cX4_readsDigit 31 = .ok (.iload_n 2, 1) := by decide +kernel
theorem dX4_readsDigit_32 : decode cX4_readsDigit 32 = .ok (.iconst (-1), 1) := by decide +kernel
theorem dX4_readsDigit_33 : decode cX4_readsDigit 33 = .ok (.if_icmp .ne 7, 3) := by decide +kernel
theorem dX4_readsDigit_36 : decode cX4_readsDigit 36 = .ok (.iload_n 1, 1) := by decide +kernel
theorem dX4_readsDigit_37 : decode cX4_readsDigit 37 = .ok (.goto 9, 3) := by decide +kernel
theorem dX4_readsDigit_40 : decode cX4_readsDigit 40 = .ok (.bipush 10, 2) := by decide +kernel
theorem dX4_readsDigit_42 : decode cX4_readsDigit 42 = .ok (.iload_n 2, 1) := by decide +kernel
theorem dX4_readsDigit_43 : decode cX4_readsDigit 43 = .ok (.imul, 1) := by decide +kernel
theorem dX4_readsDigit_44 : decode cX4_readsDigit 44 = .ok (.iload_n 1, 1) := by decide +kernel
theorem dX4_readsDigit_45 : decode cX4_readsDigit 45 = .ok (.iadd, 1) := by decide +kernel
theorem dX4_readsDigit_46 : decode cX4_readsDigit 46 = .ok (.istore 4, 2) := by decide +kernel
theorem dX4_readsDigit_48 : decode cX4_readsDigit 48 = .ok (.iload 4, 2) := by decide +kernel
theorem dX4_readsDigit_50 : decode cX4_readsDigit 50 = .ok (.getstatic 64, 3) := by decide +kernel
theorem dX4_readsDigit_53 : decode cX4_readsDigit 53 = .ok (.iload_n 3, 1) := by decide +kernel
theorem dX4_readsDigit_54 : decode cX4_readsDigit 54 = .ok (.iaload, 1) := by decide +kernel
theorem dX4_readsDigit_55 : decode cX4_readsDigit 55 = .ok (.getstatic 67, 3) := by decide +kernel
theorem dX4_readsDigit_58 : decode cX4_readsDigit 58 = .ok (.iload_n 3, 1) := by decide +kernel
theorem dX4_readsDigit_59 : decode cX4_readsDigit 59 = .ok (.iaload, 1) := by decide +kernel
theorem dX4_readsDigit_60 : decode cX4_readsDigit 60 = .ok (.invokestatic 70, 3) := by decide +kernel
theorem dX4_readsDigit_63 : decode cX4_readsDigit 63 = .ok (.ifCond .ne 5, 3) := by decide +kernel
theorem dX4_readsDigit_66 : decode cX4_readsDigit 66 = .ok (.iconst 0, 1) := by decide +kernel
theorem dX4_readsDigit_67 : decode cX4_readsDigit 67 = .ok (.ireturn, 1) := by decide +kernel
theorem dX4_readsDigit_68 : decode cX4_readsDigit 68 = .ok (.aload_n 0, 1) := by decide +kernel
theorem dX4_readsDigit_69 : decode cX4_readsDigit 69 = .ok (.getfield 15, 3) := by decide +kernel
theorem dX4_readsDigit_72 : decode cX4_readsDigit 72 = .ok (.aload_n 0, 1) := by decide +kernel
theorem dX4_readsDigit_73 : decode cX4_readsDigit 73 = .ok (.getfield 44, 3) := by decide +kernel
theorem dX4_readsDigit_76 : decode cX4_readsDigit 76 = .ok (.iload 4, 2) := by decide +kernel
theorem dX4_readsDigit_78 : decode cX4_readsDigit 78 = .ok (.iastore, 1) := by decide +kernel
theorem dX4_readsDigit_79 : decode cX4_readsDigit 79 = .ok (.iconst 1, 1) := by decide +kernel
theorem dX4_readsDigit_80 : decode cX4_readsDigit 80 = .ok (.ireturn, 1) := by decide +kernel
def w_X4_readsDigit_J46 (mm : Mm) (Q9 : Int32 → Mm → Prop) (r_3 : Int32) (y_7 : Int32) : Prop :=
  vp_in r_3 (slen 4) ∧ (vp_in r_3 (slen 5) ∧ (w_X9_isWithin y_7 (stv 4 r_3.toNatClampNeg) (stv 5 r_3.toNatClampNeg) mm (fun (r_10 : Int32) => ((¬ r_10 = 0 → ∀ m_13 : Mm, m_13 = sI mm 19 1 (mm.1 17 1 4).toNatClampNeg y_7 → (Q9 1 m_13)) ∧
  (r_10 = 0 → Q9 0 mm)))))
def w_X4_readsDigit (p0 : Int32) (mm : Mm) (Q9 : Int32 → Mm → Prop) : Prop :=
  vp_in (mm.1 17 1 4) 4 ∧ (∀ x_2 : Int32, x_2 = (mm.1 19 1 (mm.1 17 1 4).toNatClampNeg) → (w_X4_sortAt (mm.1 17 1 4) mm (fun (r_3 : Int32) => ((x_2 = 0 → Q9 0 mm) ∧
  (¬ x_2 = 0 → ((¬ r_3 = 8 → ((¬ x_2 = (-1) → w_X4_readsDigit_J46 mm Q9 r_3 ((10 * x_2) + p0)) ∧
  (x_2 = (-1) → w_X4_readsDigit_J46 mm Q9 r_3 p0))) ∧
  (r_3 = 8 → Q9 0 mm)))))))
def rm_X4_readsDigit : Room := { frames := 1, cells := 0, slots := 0, locals := 22 }
theorem hy_X4_readsDigit : yX4_readsDigit.cls = RX4 ∧ yX4_readsDigit.cls ≠ "java/lang/invoke/MethodHandle" ∧ yX4_readsDigit.cls ≠ "java/lang/invoke/VarHandle" ∧ (parseMethodDescriptor yX4_readsDigit.desc).map (fun d => d.parameters.length) = some 1 := by decide +kernel
set_option maxRecDepth 100000 in
set_option maxHeartbeats 4000000 in
theorem c_X4_readsDigit {l : Launch} {D : va_G} {cA : Nat → ClassId} {ad : Nat → Nat → Nat} {A : Nat → Prop} (ax : Ax ad GC A) (p0 : Int32) (mm : Mm) (Q9 : Int32 → Mm → Prop) (h : w_X4_readsDigit p0 mm Q9) : Met l yX4_readsDigit (.code yX4_readsDigit cX4_readsDigit 5 (some .boolean) :: TG) rm_X4_readsDigit (PcM TT D cA ad false GC (ZC ad A) [.ref (ad 17 1), .int p0] mm) (AnsI TT D cA ad false GC A Q9) 0 0 A := by
  have zo := ZC_ok ad A
  unfold w_X4_readsDigit at h
  refine enterZ pl_X4 ⟨rfl, rfl⟩ rfl (Nat.le_of_ble_eq_true rfl) ?_
  intro p e s m args below meth c QQ X hK hZ hnm hE
  refine q_aload_n (j := 0) X dX4_readsDigit_0 rfl rfl ?_
  refine q_get (k := 5) (v := .ref (ad 19 1)) X hK rfl rfl (Nat.le_of_ble_eq_true rfl) inTX4 (gc (t := 17) (by decide) (ok1 (t := 17) (Nat.le_of_ble_eq_true rfl))) kw_2_97 rfl (rv_nn (a := ad 19) (r := 1) (ok1 (t := 19) (Nat.le_of_ble_eq_true rfl)).1) dX4_readsDigit_1 ?_
  refine q_aload_n (j := 0) X dX4_readsDigit_4 rfl rfl ?_
  refine q_get (k := 4) (v := .int (mm.1 17 1 4)) X hK rfl rfl (Nat.le_of_ble_eq_true rfl) inTX4 (gc (t := 17) (by decide) (ok1 (t := 17) (Nat.le_of_ble_eq_true rfl))) kw_2_96 rfl rfl dX4_readsDigit_5 ?_
  obtain ⟨b_1, h⟩ := h
  refine q_iald (t := 19) (i := 1) (jn := (mm.1 17 1 4).toNatClampNeg) (v := .int (mm.1 19 1 (mm.1 17 1 4).toNatClampNeg)) X hK rfl rfl (gc (t := 19) (by decide) (ok1 (t := 19) (Nat.le_of_ble_eq_true rfl))) rfl b_1 rfl rfl dX4_readsDigit_8 ?_
  refine q_topi (fun x_2 ex_2 => ?_)
  have h := h x_2 ex_2
  refine q_istore_n (lv' := [(2, .int x_2), (0, .ref (ad 17 1)), (1, .int p0)]) X dX4_readsDigit_9 rfl (by decide) rfl ?_
  refine q_aload_n (j := 1) X dX4_readsDigit_10 rfl rfl ?_
  refine q_aload_n (j := 1) X dX4_readsDigit_11 rfl rfl ?_
  refine q_get (k := 4) (v := .int (mm.1 17 1 4)) X hK rfl rfl (Nat.le_of_ble_eq_true rfl) inTX4 (gc (t := 17) (by decide) (ok1 (t := 17) (Nat.le_of_ble_eq_true rfl))) kw_2_96 rfl rfl dX4_readsDigit_12 ?_
  refine q_calli (q_runV X hK hZ zo (gc (t := 17) (by decide) (ok1 (t := 17) (Nat.le_of_ble_eq_true rfl))) rfl rfl [.int (mm.1 17 1 4)] [] rfl rfl (Nat.le_of_ble_eq_true rfl) dX4_readsDigit_15 ⟨Nat.le_of_ble_eq_true rfl, Nat.le_of_ble_eq_true rfl⟩ (c_X4_sortAt ax (mm.1 17 1 4) mm _ h) rfl rfl (gV kw_3_49 kw_3_51 ks_16 kw_1_10 kw_3_52) hy_X4_sortAt ⟨Nat.le_of_ble_eq_true rfl, Nat.le_of_ble_eq_true rfl⟩) (fun r_3 m_4 h => ?_)
  obtain ⟨h, hm⟩ := h
  subst hm
  refine q_istore_n (lv' := [(3, .int r_3), (2, .int x_2), (0, .ref (ad 17 1)), (1, .int p0)]) X dX4_readsDigit_18 rfl (by decide) rfl ?_
  refine q_iload_n (j := 1) X dX4_readsDigit_19 rfl rfl ?_
  refine q_if_eq (tgt := 29) X dX4_readsDigit_20 (by decide) (fun c_5 => ?_) (fun c_5 => ?_)
  · have h := h.1 c_5
    refine q_iconst (v := 0) X dX4_readsDigit_29 (by decide) ?_
    exact hE _ _ _ _ dX4_readsDigit_30 (Or.inl rfl) h
  · have h := h.2 c_5
    refine q_iload_n (j := 0) X dX4_readsDigit_23 rfl rfl ?_
    refine q_bipush (v := 8) X dX4_readsDigit_24 (by decide) ?_
    refine q_icmp_ne (tgt := 31) X dX4_readsDigit_26 (by decide) (fun c_6 => ?_) (fun c_6 => ?_)
    · have h := h.1 c_6
      refine q_iload_n (j := 1) X dX4_readsDigit_31 rfl rfl ?_
      refine q_iconst (v := (-1)) X dX4_readsDigit_32 (by decide) ?_
      have J46 : ∀ (y_7 : Int32), w_X4_readsDigit_J46 mm Q9 r_3 y_7 → V p l e rm_X4_readsDigit s m args below meth c QQ 5 A 0 0 (Rep TT D cA ad false GC mm) 46 [(0, .ref (ad 17 1)), (3, .int r_3)] [.int y_7] := by
        intro y_7 h
        unfold w_X4_readsDigit_J46 at h
        refine q_istore (lv' := [(4, .int y_7), (0, .ref (ad 17 1)), (3, .int r_3)]) X dX4_readsDigit_46 (by decide) rfl ?_
        refine q_iload (j := 0) X dX4_readsDigit_48 rfl ?_
        refine q_gets X (hZ.1 4 (okc (t := 20) 4 (by decide))).1 kw_3_53 dX4_readsDigit_50 ?_
        refine q_iload_n (j := 2) X dX4_readsDigit_53 rfl rfl ?_
        obtain ⟨b_8, h⟩ := h
        refine q_tiald (jn := r_3.toNatClampNeg) (v := .int (stv 4 r_3.toNatClampNeg)) X (hZ.1 _ (okc (t := 20) 4 (by decide))).2 b_8 rfl rfl dX4_readsDigit_54 ?_
        refine q_gets X (hZ.1 5 (okc (t := 20) 5 (by decide))).1 kw_3_55 dX4_readsDigit_55 ?_
        refine q_iload_n (j := 2) X dX4_readsDigit_58 rfl rfl ?_
        obtain ⟨b_9, h⟩ := h
        refine q_tiald (jn := r_3.toNatClampNeg) (v := .int (stv 5 r_3.toNatClampNeg)) X (hZ.1 _ (okc (t := 20) 5 (by decide))).2 b_9 rfl rfl dX4_readsDigit_59 ?_
        refine q_calli (q_runSN X hK hZ zo [.int y_7, .int (stv 4 r_3.toNatClampNeg), .int (stv 5 r_3.toNatClampNeg)] [] rfl rfl (Nat.le_of_ble_eq_true rfl) dX4_readsDigit_60 ⟨Nat.le_of_ble_eq_true rfl, Nat.le_of_ble_eq_true rfl⟩ (c_X9_isWithin ax y_7 (stv 4 r_3.toNatClampNeg) (stv 5 r_3.toNatClampNeg) mm _ h) rfl rfl (List.mem_of_getElem? (i := 19) rfl) kw_1_1 kw_2_227 kw_2_226 hy_X9_isWithin.2 ⟨Nat.le_of_ble_eq_true rfl, Nat.le_of_ble_eq_true rfl⟩) (fun r_10 m_11 h => ?_)
        obtain ⟨h, hm⟩ := h
        subst hm
        refine q_if_ne (tgt := 68) X dX4_readsDigit_63 (by decide) (fun c_12 => ?_) (fun c_12 => ?_)
        · have h := h.1 c_12
          refine q_aload_n (j := 1) X dX4_readsDigit_68 rfl rfl ?_
          refine q_get (k := 5) (v := .ref (ad 19 1)) X hK rfl rfl (Nat.le_of_ble_eq_true rfl) inTX4 (gc (t := 17) (by decide) (ok1 (t := 17) (Nat.le_of_ble_eq_true rfl))) kw_2_97 rfl (rv_nn (a := ad 19) (r := 1) (ok1 (t := 19) (Nat.le_of_ble_eq_true rfl)).1) dX4_readsDigit_69 ?_
          refine q_aload_n (j := 1) X dX4_readsDigit_72 rfl rfl ?_
          refine q_get (k := 4) (v := .int (mm.1 17 1 4)) X hK rfl rfl (Nat.le_of_ble_eq_true rfl) inTX4 (gc (t := 17) (by decide) (ok1 (t := 17) (Nat.le_of_ble_eq_true rfl))) kw_2_96 rfl rfl dX4_readsDigit_73 ?_
          refine q_iload (j := 0) X dX4_readsDigit_76 rfl ?_
          refine q_iast (t := 19) (i := 1) (jn := (mm.1 17 1 4).toNatClampNeg) X ax hK rfl rfl (gc (t := 19) (by decide) (ok1 (t := 19) (Nat.le_of_ble_eq_true rfl))) rfl b_1 rfl rfl dX4_readsDigit_78 ?_
          refine q_nmP (fun m_13 em_13 => ?_)
          have h := h m_13 em_13
          refine q_iconst (v := 1) X dX4_readsDigit_79 (by decide) ?_
          exact hE _ _ _ _ dX4_readsDigit_80 (Or.inr rfl) h
        · have h := h.2 c_12
          refine q_iconst (v := 0) X dX4_readsDigit_66 (by decide) ?_
          exact hE _ _ _ _ dX4_readsDigit_67 (Or.inl rfl) h
      refine q_icmp_ne (tgt := 40) X dX4_readsDigit_33 (by decide) (fun c_14 => ?_) (fun c_14 => ?_)
      · have h := h.1 c_14
        refine q_bipush (v := 10) X dX4_readsDigit_40 (by decide) ?_
        refine q_iload_n (j := 1) X dX4_readsDigit_42 rfl rfl ?_
        refine q_imul X dX4_readsDigit_43 ?_
        refine q_iload_n (j := 3) X dX4_readsDigit_44 rfl rfl ?_
        refine q_iadd X dX4_readsDigit_45 ?_
        refine q_sub [2, 0] rfl ?_
        exact J46 ((10 * x_2) + p0) h
      · have h := h.2 c_14
        refine q_iload_n (j := 3) X dX4_readsDigit_36 rfl rfl ?_
        refine q_goto (tgt := 46) X dX4_readsDigit_37 (by decide) ?_
        refine q_sub [2, 0] rfl ?_
        exact J46 p0 h
    · have h := h.2 c_6
      refine q_iconst (v := 0) X dX4_readsDigit_29 (by decide) ?_
      exact hE _ _ _ _ dX4_readsDigit_30 (Or.inl rfl) h
theorem dX4_signBefore_0 : decode cX4_signBefore 0 = .ok (.iload_n 0, 1) := by decide +kernel
theorem dX4_signBefore_1 : decode cX4_signBefore 1 = .ok (.bipush 8, 2) := by decide +kernel
theorem dX4_signBefore_3 : decode cX4_signBefore 3 = .ok (.if_icmp .ne 6, 3) := by decide +kernel
theorem dX4_signBefore_6 : decode cX4_signBefore 6 = .ok (.bipush 59, 2) := by decide +kernel
theorem dX4_signBefore_8 : decode cX4_signBefore 8 = .ok (.ireturn, 1) := by decide +kernel
theorem dX4_signBefore_9 : decode cX4_signBefore 9 = .ok (.iload_n 0, 1) := by decide +kernel
theorem dX4_signBefore_10 : decode cX4_signBefore 10 = .ok (.iconst 1, 1) := by decide +kernel
theorem dX4_signBefore_11 : decode cX4_signBefore 11 = .ok (.if_icmp .ne 8, 3) := by decide +kernel
theorem dX4_signBefore_14 : decode cX4_signBefore 14 = .ok (.bipush 62, 2) := by decide +kernel
theorem dX4_signBefore_16 : decode cX4_signBefore 16 = .ok (.goto 5, 3) := by decide +kernel
theorem dX4_signBefore_19 : decode cX4_signBefore 19 = .ok (.bipush 42, 2) := by decide +kernel
theorem dX4_signBefore_21 : decode cX4_signBefore 21 = .ok (.ireturn, 1) := by decide +kernel
def w_X4_signBefore (p0 : Int32) (mm : Mm) (Q9 : Int32 → Prop) : Prop :=
  ((¬ p0 = 8 → ((¬ p0 = 1 → Q9 42) ∧
  (p0 = 1 → Q9 62))) ∧
  (p0 = 8 → Q9 59))
def rm_X4_signBefore : Room := { frames := 0, cells := 0, slots := 0, locals := 0 }
theorem hy_X4_signBefore : yX4_signBefore.cls = RX4 ∧ yX4_signBefore.cls ≠ "java/lang/invoke/MethodHandle" ∧ yX4_signBefore.cls ≠ "java/lang/invoke/VarHandle" ∧ (parseMethodDescriptor yX4_signBefore.desc).map (fun d => d.parameters.length) = some 1 := by decide +kernel
set_option maxRecDepth 100000 in
set_option maxHeartbeats 4000000 in
theorem c_X4_signBefore {l : Launch} {D : va_G} {cA : Nat → ClassId} {ad : Nat → Nat → Nat} {A : Nat → Prop} (ax : Ax ad GC A) (p0 : Int32) (mm : Mm) (Q9 : Int32 → Prop) (h : w_X4_signBefore p0 mm Q9) : Met l yX4_signBefore (.code yX4_signBefore cX4_signBefore 1 (some .int) :: TG) rm_X4_signBefore (PcM TT D cA ad false GC (ZC ad A) [.int p0] mm) (AnsI TT D cA ad false GC A (fun r mm' => Q9 r ∧ mm = mm')) 0 0 A := by
  have zo := ZC_ok ad A
  unfold w_X4_signBefore at h
  refine enterI pl_X4 ⟨rfl, rfl⟩ rfl (Nat.le_of_ble_eq_true rfl) ?_
  intro p e s m args below meth c QQ X hK hZ hnm hE
  refine q_iload_n (j := 0) X dX4_signBefore_0 rfl rfl ?_
  refine q_bipush (v := 8) X dX4_signBefore_1 (by decide) ?_
  refine q_icmp_ne (tgt := 9) X dX4_signBefore_3 (by decide) (fun c_1 => ?_) (fun c_1 => ?_)
  · have h := h.1 c_1
    refine q_iload_n (j := 0) X dX4_signBefore_9 rfl rfl ?_
    refine q_iconst (v := 1) X dX4_signBefore_10 (by decide) ?_
    refine q_icmp_ne (tgt := 19) X dX4_signBefore_11 (by decide) (fun c_2 => ?_) (fun c_2 => ?_)
    · have h := h.1 c_2
      refine q_bipush (v := 42) X dX4_signBefore_19 (by decide) ?_
      exact hE _ _ _ _ dX4_signBefore_21 ⟨h, rfl⟩
    · have h := h.2 c_2
      refine q_bipush (v := 62) X dX4_signBefore_14 (by decide) ?_
      refine q_goto (tgt := 21) X dX4_signBefore_16 (by decide) ?_
      exact hE _ _ _ _ dX4_signBefore_21 ⟨h, rfl⟩
  · have h := h.2 c_1
    refine q_bipush (v := 59) X dX4_signBefore_6 (by decide) ?_
    exact hE _ _ _ _ dX4_signBefore_8 ⟨h, rfl⟩
theorem dX4_reads_0 : decode cX4_reads 0 = .ok (.aload_n 0, 1) := by decide +kernel
theorem dX4_reads_1 : decode cX4_reads 1 = .ok (.getfield 37, 3) := by decide +kernel
theorem dX4_reads_4 : decode cX4_reads 4 = .ok (.ifnonnull 29, 3) := by decide +kernel
theorem dX4_reads_7 : decode cX4_reads 7 = .ok (.aload_n 0, 1) := by decide +kernel
theorem dX4_reads_8 : decode cX4_reads 8 = .ok (.iload_n 1, 1) := by decide +kernel
theorem dX4_reads_9 : decode cX4_reads 9 = .ok (.putfield 51, 3) := by decide +kernel
theorem dX4_reads_12 : decode cX4_reads 12 = .ok (.aload_n 0, 1) := by decide +kernel
theorem dX4_reads_13 : decode cX4_reads 13 = .ok (.iload_n 1, 1) := by decide +kernel
theorem dX4_reads_14 : decode cX4_reads 14 = .ok (.invokestatic 54, 3) := by decide +kernel
theorem dX4_reads_17 : decode cX4_reads 17 = .ok (.putfield 37, 3) := by decide +kernel
theorem dX4_reads_20 : decode cX4_reads 20 = .ok (.aload_n 0, 1) := by decide +kernel
theorem dX4_reads_21 : decode cX4_reads 21 = .ok (.getfield 37, 3) := by decide +kernel
theorem dX4_reads_24 : decode cX4_reads 24 = .ok (.ifnull 7, 3) := by decide +kernel
theorem dX4_reads_27 : decode cX4_reads 27 = .ok (.iconst 1, 1) := by decide +kernel
theorem dX4_reads_28 : decode cX4_reads 28 = .ok (.goto 4, 3) := by decide +kernel
theorem dX4_reads_31 : decode cX4_reads 31 = .ok (.iconst 0, 1) := by decide +kernel
theorem dX4_reads_32 : decode cX4_reads 32 = .ok (.ireturn, 1) := by decide +kernel
theorem dX4_reads_33 : decode cX4_reads 33 = .ok (.iload_n 1, 1) := by decide +kernel
theorem dX4_reads_34 : decode cX4_reads 34 = .ok (.bipush 48, 2) := by decide +kernel
theorem dX4_reads_36 : decode cX4_reads 36 = .ok (.if_icmp .lt 18, 3) := by decide +kernel
theorem dX4_reads_39 : decode cX4_reads 39 = .ok (.iload_n 1, 1) := by decide +kernel
theorem dX4_reads_40 : decode cX4_reads 40 = .ok (.bipush 57, 2) := by decide +kernel
theorem dX4_reads_42 : decode cX4_reads 42 = .ok (.if_icmp .gt 12, 3) := by decide +kernel
theorem dX4_reads_45 : decode cX4_reads 45 = .ok (.aload_n 0, 1) := by decide +kernel
theorem dX4_reads_46 : decode cX4_reads 46 = .ok (.iload_n 1, 1) := by decide +kernel
theorem dX4_reads_47 : decode cX4_reads 47 = .ok (.bipush 48, 2) := by decide +kernel
theorem dX4_reads_49 : decode cX4_reads 49 = .ok (.isub, 1) := by decide +kernel
theorem dX4_reads_50 : decode cX4_reads 50 = .ok (.invokevirtual 58, 3) := by decide +kernel
theorem dX4_reads_53 : decode cX4_reads 53 = .ok (.ireturn, 1) := by decide +kernel
theorem dX4_reads_54 : decode cX4_reads 54 = .ok (.aload_n 0, 1) := by decide +kernel
theorem dX4_reads_55 : decode cX4_reads 55 = .ok (.getfield 15, 3) := by decide +kernel
theorem dX4_reads_58 : decode cX4_reads 58 = .ok (.aload_n 0, 1) := by decide +kernel
theorem dX4_reads_59 : decode cX4_reads 59 = .ok (.getfield 44, 3) := by decide +kernel
theorem dX4_reads_62 : decode cX4_reads 62 = .ok (.iaload, 1) := by decide +kernel
theorem dX4_reads_63 : decode cX4_reads 63 = .ok (.iconst (-1), 1) := by decide +kernel
theorem dX4_reads_64 : decode cX4_reads 64 = .ok (.if_icmp .eq 20, 3) := by decide +kernel
theorem dX4_reads_67 : decode cX4_reads 67 = .ok (.iload_n 1, 1) := by decide +kernel
theorem dX4_reads_68 : decode cX4_reads 68 = .ok (.aload_n 0, 1) := by decide +kernel
theorem dX4_reads_69 : decode cX4_reads 69 = .ok (.aload_n 0, 1) := by decide +kernel
theorem dX4_reads_70 : decode cX4_reads 70 = .ok (.getfield 44, 3) := by decide +kernel
theorem dX4_reads_73 : decode cX4_reads 73 = .ok (.iconst 1, 1) := by decide +kernel
theorem dX4_reads_74 : decode cX4_reads 74 = .ok (.iadd, 1) := by decide +kernel
theorem dX4_reads_75 : decode cX4_reads 75 = .ok (.invokevirtual 47, 3) := by decide +kernel
theorem dX4_reads_78 : decode cX4_reads 78 = .ok (.invokestatic 61, 3) := by decide +kernel
theorem dX4_reads_81 : decode cX4_reads 81 = .ok (.if_icmp .eq 5, 3) := by decide +kernel
theorem dX4_reads_84 : decode cX4_reads 84 = .ok (.iconst 0, 1) := by decide +kernel
theorem dX4_reads_85 : decode cX4_reads 85 = .ok (.ireturn, 1) := by decide +kernel
theorem dX4_reads_86 : decode cX4_reads 86 = .ok (.iload_n 1, 1) := by decide +kernel
theorem dX4_reads_87 : decode cX4_reads 87 = .ok (.bipush 59, 2) := by decide +kernel
theorem dX4_reads_89 : decode cX4_reads 89 = .ok (.if_icmp .ne 10, 3) := by decide +kernel
theorem dX4_reads_92 : decode cX4_reads 92 = .ok (.aload_n 0, 1) := by decide +kernel
theorem dX4_reads_93 : decode cX4_reads 93 = .ok (.invokevirtual 22, 3) := by decide +kernel
theorem dX4_reads_96 : decode cX4_reads 96 = .ok (.goto 13, 3) := by decide +kernel
theorem dX4_reads_99 : decode cX4_reads 99 = .ok (.aload_n 0, 1) := by decide +kernel
theorem dX4_reads_100 : decode cX4_reads 100 = .ok (.aload_n 0, 1) := by decide +kernel
theorem dX4_reads_101 : decode cX4_reads 101 = .ok (.getfield 44, 3) := by decide +kernel
theorem dX4_reads_104 : decode cX4_reads 104 = .ok (.iconst 1, 1) := by decide +kernel
theorem dX4_reads_105 : decode cX4_reads 105 = .ok (.iadd, 1) := by decide +kernel
theorem dX4_reads_106 : decode cX4_reads 106 = .ok (.invokevirtual 40, 3) := by decide +kernel
theorem dX4_reads_109 : decode cX4_reads 109 = .ok (.iconst 1, 1) := by decide +kernel
theorem dX4_reads_110 : decode cX4_reads 110 = .ok (.ireturn, 1) := by decide +kernel
def w_X4_reads_J54 (p0 : Int32) (mm : Mm) (Q9 : Int32 → Mm → Prop) : Prop :=
  vp_in (mm.1 17 1 4) 4 ∧ ((((mm.1 19 1 (mm.1 17 1 4).toNatClampNeg) = (-1) → Q9 0 mm) ∧
  (¬ (mm.1 19 1 (mm.1 17 1 4).toNatClampNeg) = (-1) → w_X4_sortAt ((mm.1 17 1 4) + 1) mm (fun (r_4 : Int32) => w_X4_signBefore r_4 mm (fun (r_6 : Int32) => ((p0 = r_6 → ((¬ p0 = 59 → w_X4_startNumber ((mm.1 17 1 4) + 1) mm (fun (m_11 : Mm) => Q9 1 m_11)) ∧
  (p0 = 59 → w_X4_startLine mm (fun (m_13 : Mm) => Q9 1 m_13)))) ∧
  (¬ p0 = r_6 → Q9 0 mm)))))))
def w_X4_reads (p0 : Int32) (mm : Mm) (Q9 : Int32 → Mm → Prop) : Prop :=
  ((¬ (mm.2 17 1 3) = 0 → ((p0 < 48 → w_X4_reads_J54 p0 mm Q9) ∧
  (¬ p0 < 48 → ((57 < p0 → w_X4_reads_J54 p0 mm Q9) ∧
  (¬ 57 < p0 → w_X4_readsDigit (p0 - 48) mm (fun (r_16 : Int32) (m_17 : Mm) => isB r_16 ∧ Q9 r_16 m_17)))))) ∧
  ((mm.2 17 1 3) = 0 → ∀ m_19 : Mm, m_19 = sI mm 17 1 2 p0 → (w_X4_formOf p0 m_19 (fun (r_20 : Nat) => ∀ m_22 : Mm, m_22 = sR m_19 17 1 3 r_20 → ((((m_22.2 17 1 3) = 0 → Q9 0 m_22) ∧
  (¬ (m_22.2 17 1 3) = 0 → Q9 1 m_22)))))))
def rm_X4_reads : Room := { frames := 2, cells := 0, slots := 0, locals := 46 }
theorem hy_X4_reads : yX4_reads.cls = RX4 ∧ yX4_reads.cls ≠ "java/lang/invoke/MethodHandle" ∧ yX4_reads.cls ≠ "java/lang/invoke/VarHandle" ∧ (parseMethodDescriptor yX4_reads.desc).map (fun d => d.parameters.length) = some 1 := by decide +kernel
set_option maxRecDepth 100000 in
set_option maxHeartbeats 4000000 in
theorem c_X4_reads {l : Launch} {D : va_G} {cA : Nat → ClassId} {ad : Nat → Nat → Nat} {A : Nat → Prop} (ax : Ax ad GC A) (p0 : Int32) (mm : Mm) (Q9 : Int32 → Mm → Prop) (h : w_X4_reads p0 mm Q9) : Met l yX4_reads (.code yX4_reads cX4_reads 2 (some .boolean) :: TG) rm_X4_reads (PcM TT D cA ad false GC (ZC ad A) [.ref (ad 17 1), .int p0] mm) (AnsI TT D cA ad false GC A Q9) 0 0 A := by
  have zo := ZC_ok ad A
  unfold w_X4_reads at h
  refine enterZ pl_X4 ⟨rfl, rfl⟩ rfl (Nat.le_of_ble_eq_true rfl) ?_
  intro p e s m args below meth c QQ X hK hZ hnm hE
  refine q_aload_n (j := 0) X dX4_reads_0 rfl rfl ?_
  refine q_get (k := 3) (v := rv (ad 20) (mm.2 17 1 3)) X hK rfl rfl (Nat.le_of_ble_eq_true rfl) inTX4 (gc (t := 17) (by decide) (ok1 (t := 17) (Nat.le_of_ble_eq_true rfl))) kw_2_95 rfl rfl dX4_reads_1 ?_
  refine q_ifnonnull (tgt := 33) X dX4_reads_4 (by decide) (fun c_1 => ?_) (fun c_1 => ?_)
  · have h := h.1 c_1
    refine q_iload_n (j := 1) X dX4_reads_33 rfl rfl ?_
    refine q_bipush (v := 48) X dX4_reads_34 (by decide) ?_
    have J54 : w_X4_reads_J54 p0 mm Q9  → V p l e rm_X4_reads s m args below meth c QQ 2 A 0 0 (Rep TT D cA ad false GC mm) 54 [(0, .ref (ad 17 1)), (1, .int p0)] [] := by
      intro  h
      unfold w_X4_reads_J54 at h
      refine q_aload_n (j := 0) X dX4_reads_54 rfl rfl ?_
      refine q_get (k := 5) (v := .ref (ad 19 1)) X hK rfl rfl (Nat.le_of_ble_eq_true rfl) inTX4 (gc (t := 17) (by decide) (ok1 (t := 17) (Nat.le_of_ble_eq_true rfl))) kw_2_97 rfl (rv_nn (a := ad 19) (r := 1) (ok1 (t := 19) (Nat.le_of_ble_eq_true rfl)).1) dX4_reads_55 ?_
      refine q_aload_n (j := 0) X dX4_reads_58 rfl rfl ?_
      refine q_get (k := 4) (v := .int (mm.1 17 1 4)) X hK rfl rfl (Nat.le_of_ble_eq_true rfl) inTX4 (gc (t := 17) (by decide) (ok1 (t := 17) (Nat.le_of_ble_eq_true rfl))) kw_2_96 rfl rfl dX4_reads_59 ?_
      obtain ⟨b_2, h⟩ := h
      refine q_iald (t := 19) (i := 1) (jn := (mm.1 17 1 4).toNatClampNeg) (v := .int (mm.1 19 1 (mm.1 17 1 4).toNatClampNeg)) X hK rfl rfl (gc (t := 19) (by decide) (ok1 (t := 19) (Nat.le_of_ble_eq_true rfl))) rfl b_2 rfl rfl dX4_reads_62 ?_
      refine q_iconst (v := (-1)) X dX4_reads_63 (by decide) ?_
      refine q_icmp_eq (tgt := 84) X dX4_reads_64 (by decide) (fun c_3 => ?_) (fun c_3 => ?_)
      · have h := h.1 c_3
        refine q_iconst (v := 0) X dX4_reads_84 (by decide) ?_
        exact hE _ _ _ _ dX4_reads_85 (Or.inl rfl) h
      · have h := h.2 c_3
        refine q_iload_n (j := 1) X dX4_reads_67 rfl rfl ?_
        refine q_aload_n (j := 0) X dX4_reads_68 rfl rfl ?_
        refine q_aload_n (j := 0) X dX4_reads_69 rfl rfl ?_
        refine q_get (k := 4) (v := .int (mm.1 17 1 4)) X hK rfl rfl (Nat.le_of_ble_eq_true rfl) inTX4 (gc (t := 17) (by decide) (ok1 (t := 17) (Nat.le_of_ble_eq_true rfl))) kw_2_96 rfl rfl dX4_reads_70 ?_
        refine q_iconst (v := 1) X dX4_reads_73 (by decide) ?_
        refine q_iadd X dX4_reads_74 ?_
        refine q_calli (q_runV X hK hZ zo (gc (t := 17) (by decide) (ok1 (t := 17) (Nat.le_of_ble_eq_true rfl))) rfl rfl [.int ((mm.1 17 1 4) + 1)] [.int p0] rfl rfl (Nat.le_of_ble_eq_true rfl) dX4_reads_75 ⟨Nat.le_of_ble_eq_true rfl, Nat.le_of_ble_eq_true rfl⟩ (c_X4_sortAt ax ((mm.1 17 1 4) + 1) mm _ h) rfl rfl (gV kw_3_49 kw_3_51 ks_16 kw_1_10 kw_3_52) hy_X4_sortAt ⟨Nat.le_of_ble_eq_true rfl, Nat.le_of_ble_eq_true rfl⟩) (fun r_4 m_5 h => ?_)
        obtain ⟨h, hm⟩ := h
        subst hm
        refine q_calli (q_runS X hK hZ zo [.int r_4] [.int p0] rfl rfl (Nat.le_of_ble_eq_true rfl) dX4_reads_78 ⟨Nat.le_of_ble_eq_true rfl, Nat.le_of_ble_eq_true rfl⟩ (c_X4_signBefore ax r_4 mm _ h) rfl rfl (gS kw_3_58 kw_3_59 kw_1_10 kw_3_60) hy_X4_signBefore.2 ⟨Nat.le_of_ble_eq_true rfl, Nat.le_of_ble_eq_true rfl⟩) (fun r_6 m_7 h => ?_)
        obtain ⟨h, hm⟩ := h
        subst hm
        refine q_icmp_eq (tgt := 86) X dX4_reads_81 (by decide) (fun c_8 => ?_) (fun c_8 => ?_)
        · have h := h.1 c_8
          refine q_iload_n (j := 1) X dX4_reads_86 rfl rfl ?_
          refine q_bipush (v := 59) X dX4_reads_87 (by decide) ?_
          refine q_icmp_ne (tgt := 99) X dX4_reads_89 (by decide) (fun c_9 => ?_) (fun c_9 => ?_)
          · have h := h.1 c_9
            refine q_aload_n (j := 0) X dX4_reads_99 rfl rfl ?_
            refine q_aload_n (j := 0) X dX4_reads_100 rfl rfl ?_
            refine q_get (k := 4) (v := .int (mm.1 17 1 4)) X hK rfl rfl (Nat.le_of_ble_eq_true rfl) inTX4 (gc (t := 17) (by decide) (ok1 (t := 17) (Nat.le_of_ble_eq_true rfl))) kw_2_96 rfl rfl dX4_reads_101 ?_
            refine q_iconst (v := 1) X dX4_reads_104 (by decide) ?_
            refine q_iadd X dX4_reads_105 ?_
            refine q_callv (q_runV X hK hZ zo (gc (t := 17) (by decide) (ok1 (t := 17) (Nat.le_of_ble_eq_true rfl))) rfl rfl [.int ((mm.1 17 1 4) + 1)] [] rfl rfl (Nat.le_of_ble_eq_true rfl) dX4_reads_106 ⟨Nat.le_of_ble_eq_true rfl, Nat.le_of_ble_eq_true rfl⟩ (c_X4_startNumber ax ((mm.1 17 1 4) + 1) mm _ h) rfl rfl (gV kw_3_20 kw_3_22 ks_13 kw_1_10 kw_3_23) hy_X4_startNumber ⟨Nat.le_of_ble_eq_true rfl, Nat.le_of_ble_eq_true rfl⟩) (fun m_11 h => ?_)
            refine q_iconst (v := 1) X dX4_reads_109 (by decide) ?_
            exact hE _ _ _ _ dX4_reads_110 (Or.inr rfl) h
          · have h := h.2 c_9
            refine q_aload_n (j := 0) X dX4_reads_92 rfl rfl ?_
            refine q_callv (q_runV X hK hZ zo (gc (t := 17) (by decide) (ok1 (t := 17) (Nat.le_of_ble_eq_true rfl))) rfl rfl [] [] rfl rfl (Nat.le_of_ble_eq_true rfl) dX4_reads_93 ⟨Nat.le_of_ble_eq_true rfl, Nat.le_of_ble_eq_true rfl⟩ (c_X4_startLine ax mm _ h) rfl rfl (gV kw_3_16 kw_3_18 ks_12 kw_1_10 kw_3_19) hy_X4_startLine ⟨Nat.le_of_ble_eq_true rfl, Nat.le_of_ble_eq_true rfl⟩) (fun m_13 h => ?_)
            refine q_goto (tgt := 109) X dX4_reads_96 (by decide) ?_
            refine q_iconst (v := 1) X dX4_reads_109 (by decide) ?_
            exact hE _ _ _ _ dX4_reads_110 (Or.inr rfl) h
        · have h := h.2 c_8
          refine q_iconst (v := 0) X dX4_reads_84 (by decide) ?_
          exact hE _ _ _ _ dX4_reads_85 (Or.inl rfl) h
    refine q_icmp_lt (tgt := 54) X dX4_reads_36 (by decide) (fun c_14 => ?_) (fun c_14 => ?_)
    · have h := h.1 c_14
      refine q_sub [0, 1] rfl ?_
      exact J54  h
    · have h := h.2 c_14
      refine q_iload_n (j := 1) X dX4_reads_39 rfl rfl ?_
      refine q_bipush (v := 57) X dX4_reads_40 (by decide) ?_
      refine q_icmp_gt (tgt := 54) X dX4_reads_42 (by decide) (fun c_15 => ?_) (fun c_15 => ?_)
      · have h := h.1 c_15
        refine q_sub [0, 1] rfl ?_
        exact J54  h
      · have h := h.2 c_15
        refine q_aload_n (j := 0) X dX4_reads_45 rfl rfl ?_
        refine q_iload_n (j := 1) X dX4_reads_46 rfl rfl ?_
        refine q_bipush (v := 48) X dX4_reads_47 (by decide) ?_
        refine q_isub X dX4_reads_49 ?_
        refine q_calli (q_runV X hK hZ zo (gc (t := 17) (by decide) (ok1 (t := 17) (Nat.le_of_ble_eq_true rfl))) rfl rfl [.int (p0 - 48)] [] rfl rfl (Nat.le_of_ble_eq_true rfl) dX4_reads_50 ⟨Nat.le_of_ble_eq_true rfl, Nat.le_of_ble_eq_true rfl⟩ (c_X4_readsDigit ax (p0 - 48) mm _ h) rfl rfl (gV kw_3_45 kw_3_47 ks_15 kw_1_10 kw_3_48) hy_X4_readsDigit ⟨Nat.le_of_ble_eq_true rfl, Nat.le_of_ble_eq_true rfl⟩) (fun r_16 m_17 h => ?_)
        obtain ⟨b_18, h⟩ := h
        exact hE _ _ _ _ dX4_reads_53 b_18 h
  · have h := h.2 c_1
    refine q_aload_n (j := 0) X dX4_reads_7 rfl rfl ?_
    refine q_iload_n (j := 1) X dX4_reads_8 rfl rfl ?_
    refine q_putI (k := 2) X ax hK rfl rfl (Nat.le_of_ble_eq_true rfl) inTX4 (gc (t := 17) (by decide) (ok1 (t := 17) (Nat.le_of_ble_eq_true rfl))) tyX4 tyX4_ok nmX4 kw_2_93 rfl rfl (tyX4_ok 2 (Nat.le_of_ble_eq_true rfl)) rfl dX4_reads_9 ?_
    refine q_nmP (fun m_19 em_19 => ?_)
    have h := h m_19 em_19
    refine q_aload_n (j := 0) X dX4_reads_12 rfl rfl ?_
    refine q_iload_n (j := 1) X dX4_reads_13 rfl rfl ?_
    refine q_callr (q_runS X hK hZ zo [.int p0] [.ref (ad 17 1)] rfl rfl (Nat.le_of_ble_eq_true rfl) dX4_reads_14 ⟨Nat.le_of_ble_eq_true rfl, Nat.le_of_ble_eq_true rfl⟩ (c_X4_formOf ax p0 m_19 _ h) rfl rfl (gS kw_3_28 kw_3_29 kw_1_10 kw_3_30) hy_X4_formOf.2 ⟨Nat.le_of_ble_eq_true rfl, Nat.le_of_ble_eq_true rfl⟩) (fun r_20 m_21 h => ?_)
    obtain ⟨h, hm⟩ := h
    subst hm
    refine q_putR (r := r_20) (k := 3) X ax hK rfl rfl (Nat.le_of_ble_eq_true rfl) inTX4 (gc (t := 17) (by decide) (ok1 (t := 17) (Nat.le_of_ble_eq_true rfl))) tyX4 tyX4_ok nmX4 kw_2_95 rfl rfl (tyX4_ok 3 (Nat.le_of_ble_eq_true rfl)) (Or.inr ⟨_, rfl⟩) rfl rfl rfl dX4_reads_17 ?_
    refine q_nmP (fun m_22 em_22 => ?_)
    have h := h m_22 em_22
    refine q_aload_n (j := 0) X dX4_reads_20 rfl rfl ?_
    refine q_get (k := 3) (v := rv (ad 20) (m_22.2 17 1 3)) X hK rfl rfl (Nat.le_of_ble_eq_true rfl) inTX4 (gc (t := 17) (by decide) (ok1 (t := 17) (Nat.le_of_ble_eq_true rfl))) kw_2_95 rfl rfl dX4_reads_21 ?_
    refine q_ifnull (tgt := 31) X dX4_reads_24 (by decide) (fun c_23 => ?_) (fun c_23 => ?_)
    · have h := h.1 c_23
      refine q_iconst (v := 0) X dX4_reads_31 (by decide) ?_
      exact hE _ _ _ _ dX4_reads_32 (Or.inl rfl) h
    · have h := h.2 c_23
      refine q_iconst (v := 1) X dX4_reads_27 (by decide) ?_
      refine q_goto (tgt := 32) X dX4_reads_28 (by decide) ?_
      exact hE _ _ _ _ dX4_reads_32 (Or.inr rfl) h
theorem dX4_firstWrong_0 : decode cX4_firstWrong 0 = .ok (.aload_n 0, 1) := by decide +kernel
theorem dX4_firstWrong_1 : decode cX4_firstWrong 1 = .ok (.invokevirtual 22, 3) := by decide +kernel
theorem dX4_firstWrong_4 : decode cX4_firstWrong 4 = .ok (.iconst 0, 1) := by decide +kernel
theorem dX4_firstWrong_5 : decode cX4_firstWrong 5 = .ok (.istore_n 1, 1) := by decide +kernel
theorem dX4_firstWrong_6 : decode cX4_firstWrong 6 = .ok (.iload_n 1, 1) := by decide +kernel
theorem dX4_firstWrong_7 : decode cX4_firstWrong 7 = .ok (.aload_n 0, 1) := by decide +kernel
theorem dX4_firstWrong_8 : decode cX4_firstWrong 8 = .ok (.getfield 18, 3) := by decide +kernel
theorem dX4_firstWrong_11 : decode cX4_firstWrong 11 = .ok (.if_icmp .ge 24, 3) := by decide +kernel
theorem dX4_firstWrong_14 : decode cX4_firstWrong 14 = .ok (.aload_n 0, 1) := by decide +kernel
theorem dX4_firstWrong_15 : decode cX4_firstWrong 15 = .ok (.aload_n 0, 1) := by decide +kernel
theorem dX4_firstWrong_16 : decode cX4_firstWrong 16 = .ok (.getfield 9, 3) := by decide +kernel
theorem dX4_firstWrong_19 : decode cX4_firstWrong 19 = .ok (.iload_n 1, 1) := by decide +kernel
theorem dX4_firstWrong_20 : decode cX4_firstWrong 20 = .ok (.iaload, 1) := by decide +kernel
theorem dX4_firstWrong_21 : decode cX4_firstWrong 21 = .ok (.invokevirtual 25, 3) := by decide +kernel
theorem dX4_firstWrong_24 : decode cX4_firstWrong 24 = .ok (.ifCond .ne 5, 3) := by decide +kernel
theorem dX4_firstWrong_27 : decode cX4_firstWrong 27 = .ok (.iload_n 1, 1) := by decide +kernel
theorem dX4_firstWrong_28 : decode cX4_firstWrong 28 = .ok (.ireturn, 1) := by decide +kernel
theorem dX4_firstWrong_29 : decode cX4_firstWrong 29 = .ok (.iinc 1 1, 3) := by decide +kernel
theorem dX4_firstWrong_32 : decode cX4_firstWrong 32 = .ok (.goto (-26), 3) := by decide +kernel
theorem dX4_firstWrong_35 : decode cX4_firstWrong 35 = .ok (.aload_n 0, 1) := by decide +kernel
theorem dX4_firstWrong_36 : decode cX4_firstWrong 36 = .ok (.getfield 18, 3) := by decide +kernel
theorem dX4_firstWrong_39 : decode cX4_firstWrong 39 = .ok (.ireturn, 1) := by decide +kernel
def w_X4_firstWrong_B6 (Q9 : Int32 → Mm → Prop) (K_5 : Int32 → Mm → Prop) (y_3 : Int32) (m_4 : Mm) : Prop :=
  (((m_4.1 17 1 1) ≤ y_3 → Q9 (m_4.1 17 1 1) m_4) ∧
  (¬ (m_4.1 17 1 1) ≤ y_3 → vp_in y_3 60 ∧ (w_X4_reads (m_4.1 18 1 y_3.toNatClampNeg) m_4 (fun (r_9 : Int32) (m_10 : Mm) => ((¬ r_9 = 0 → ∀ x_12 : Int32, x_12 = y_3 + 1 → (K_5 x_12 m_10)) ∧
  (r_9 = 0 → Q9 y_3 m_10))))))
def w_X4_firstWrong  (mm : Mm) (Q9 : Int32 → Mm → Prop) : Prop :=
  w_X4_startLine mm (fun (m_2 : Mm) => ∃ n, itr (α := Int32 × Mm) (fun K a => w_X4_firstWrong_B6 Q9 (fun z0 z1 => K (z0, z1)) a.1 a.2) n (0, m_2))
def rm_X4_firstWrong : Room := { frames := 3, cells := 0, slots := 0, locals := 67 }
theorem hy_X4_firstWrong : yX4_firstWrong.cls = RX4 ∧ yX4_firstWrong.cls ≠ "java/lang/invoke/MethodHandle" ∧ yX4_firstWrong.cls ≠ "java/lang/invoke/VarHandle" ∧ (parseMethodDescriptor yX4_firstWrong.desc).map (fun d => d.parameters.length) = some 0 := by decide +kernel
set_option maxRecDepth 100000 in
set_option maxHeartbeats 4000000 in
theorem c_X4_firstWrong {l : Launch} {D : va_G} {cA : Nat → ClassId} {ad : Nat → Nat → Nat} {A : Nat → Prop} (ax : Ax ad GC A)  (mm : Mm) (Q9 : Int32 → Mm → Prop) (h : w_X4_firstWrong mm Q9) : Met l yX4_firstWrong (.code yX4_firstWrong cX4_firstWrong 2 (some .int) :: TG) rm_X4_firstWrong (PcM TT D cA ad false GC (ZC ad A) [.ref (ad 17 1)] mm) (AnsI TT D cA ad false GC A Q9) 0 0 A := by
  have zo := ZC_ok ad A
  unfold w_X4_firstWrong at h
  refine enterI pl_X4 ⟨rfl, rfl⟩ rfl (Nat.le_of_ble_eq_true rfl) ?_
  intro p e s m args below meth c QQ X hK hZ hnm hE
  refine q_aload_n (j := 0) X dX4_firstWrong_0 rfl rfl ?_
  refine q_callv (q_runV X hK hZ zo (gc (t := 17) (by decide) (ok1 (t := 17) (Nat.le_of_ble_eq_true rfl))) rfl rfl [] [] rfl rfl (Nat.le_of_ble_eq_true rfl) dX4_firstWrong_1 ⟨Nat.le_of_ble_eq_true rfl, Nat.le_of_ble_eq_true rfl⟩ (c_X4_startLine ax mm _ h) rfl rfl (gV kw_3_16 kw_3_18 ks_12 kw_1_10 kw_3_19) hy_X4_startLine ⟨Nat.le_of_ble_eq_true rfl, Nat.le_of_ble_eq_true rfl⟩) (fun m_2 h => ?_)
  refine q_iconst (v := 0) X dX4_firstWrong_4 (by decide) ?_
  refine q_istore_n (lv' := [(1, .int 0), (0, .ref (ad 17 1))]) X dX4_firstWrong_5 rfl (by decide) rfl ?_
  refine q_sub [1, 0] rfl ?_
  have L6 : ∀ (n : Nat) (y_3 : Int32) (m_4 : Mm), itr (α := Int32 × Mm) (fun K a => w_X4_firstWrong_B6 Q9 (fun z0 z1 => K (z0, z1)) a.1 a.2) n (y_3, m_4) → V p l e rm_X4_firstWrong s m args below meth c QQ 2 A 0 0 (Rep TT D cA ad false GC m_4) 6 [(0, .ref (ad 17 1)), (1, .int y_3)] [] := by
    intro n
    induction n with
    | zero => intro y_3 m_4 h; exact h.elim
    | succ n ih_6 =>
      intro y_3 m_4 h
      have h : w_X4_firstWrong_B6 Q9 (fun z0 z1 => itr (α := Int32 × Mm) (fun K a => w_X4_firstWrong_B6 Q9 (fun z0 z1 => K (z0, z1)) a.1 a.2) n (z0, z1)) y_3 m_4 := h
      unfold w_X4_firstWrong_B6 at h
      refine q_iload_n (j := 1) X dX4_firstWrong_6 rfl rfl ?_
      refine q_aload_n (j := 0) X dX4_firstWrong_7 rfl rfl ?_
      refine q_get (k := 1) (v := .int (m_4.1 17 1 1)) X hK rfl rfl (Nat.le_of_ble_eq_true rfl) inTX4 (gc (t := 17) (by decide) (ok1 (t := 17) (Nat.le_of_ble_eq_true rfl))) kw_2_91 rfl rfl dX4_firstWrong_8 ?_
      refine q_icmp_ge (tgt := 35) X dX4_firstWrong_11 (by decide) (fun c_7 => ?_) (fun c_7 => ?_)
      · have h := h.1 c_7
        refine q_aload_n (j := 0) X dX4_firstWrong_35 rfl rfl ?_
        refine q_get (k := 1) (v := .int (m_4.1 17 1 1)) X hK rfl rfl (Nat.le_of_ble_eq_true rfl) inTX4 (gc (t := 17) (by decide) (ok1 (t := 17) (Nat.le_of_ble_eq_true rfl))) kw_2_91 rfl rfl dX4_firstWrong_36 ?_
        exact hE _ _ _ _ dX4_firstWrong_39 h
      · have h := h.2 c_7
        refine q_aload_n (j := 0) X dX4_firstWrong_14 rfl rfl ?_
        refine q_aload_n (j := 0) X dX4_firstWrong_15 rfl rfl ?_
        refine q_get (k := 0) (v := .ref (ad 18 1)) X hK rfl rfl (Nat.le_of_ble_eq_true rfl) inTX4 (gc (t := 17) (by decide) (ok1 (t := 17) (Nat.le_of_ble_eq_true rfl))) kw_2_89 rfl (rv_nn (a := ad 18) (r := 1) (ok1 (t := 18) (Nat.le_of_ble_eq_true rfl)).1) dX4_firstWrong_16 ?_
        refine q_iload_n (j := 1) X dX4_firstWrong_19 rfl rfl ?_
        obtain ⟨b_8, h⟩ := h
        refine q_iald (t := 18) (i := 1) (jn := y_3.toNatClampNeg) (v := .int (m_4.1 18 1 y_3.toNatClampNeg)) X hK rfl rfl (gc (t := 18) (by decide) (ok1 (t := 18) (Nat.le_of_ble_eq_true rfl))) rfl b_8 rfl rfl dX4_firstWrong_20 ?_
        refine q_calli (q_runV X hK hZ zo (gc (t := 17) (by decide) (ok1 (t := 17) (Nat.le_of_ble_eq_true rfl))) rfl rfl [.int (m_4.1 18 1 y_3.toNatClampNeg)] [] rfl rfl (Nat.le_of_ble_eq_true rfl) dX4_firstWrong_21 ⟨Nat.le_of_ble_eq_true rfl, Nat.le_of_ble_eq_true rfl⟩ (c_X4_reads ax (m_4.1 18 1 y_3.toNatClampNeg) m_4 _ h) rfl rfl (gV kw_3_24 kw_3_26 ks_14 kw_1_10 kw_3_27) hy_X4_reads ⟨Nat.le_of_ble_eq_true rfl, Nat.le_of_ble_eq_true rfl⟩) (fun r_9 m_10 h => ?_)
        refine q_if_ne (tgt := 29) X dX4_firstWrong_24 (by decide) (fun c_11 => ?_) (fun c_11 => ?_)
        · have h := h.1 c_11
          obtain ⟨x_12, ex_12⟩ : ∃ z : Int32, z = y_3 + 1 := ⟨_, rfl⟩
          have h := h x_12 ex_12
          refine q_iinc (j := 1) (v := x_12) (lv' := [(1, .int x_12), (0, .ref (ad 17 1))]) X dX4_firstWrong_29 rfl (by rw [ex_12]; rfl) (by decide) rfl ?_
          refine q_goto (tgt := 6) X dX4_firstWrong_32 (by decide) ?_
          refine q_sub [1, 0] rfl ?_
          exact ih_6 x_12 m_10 h
        · have h := h.2 c_11
          refine q_iload_n (j := 1) X dX4_firstWrong_27 rfl rfl ?_
          exact hE _ _ _ _ dX4_firstWrong_28 h
  obtain ⟨n_13, h⟩ := h
  exact L6 n_13 0 m_2 h
theorem dX9_firstError_0 : decode cX9_firstError 0 = .ok (.aload_n 0, 1) := by decide +kernel
theorem dX9_firstError_1 : decode cX9_firstError 1 = .ok (.getfield 35, 3) := by decide +kernel
theorem dX9_firstError_4 : decode cX9_firstError 4 = .ok (.invokevirtual 349, 3) := by decide +kernel
theorem dX9_firstError_7 : decode cX9_firstError 7 = .ok (.ireturn, 1) := by decide +kernel
def w_X9_firstError  (mm : Mm) (Q9 : Int32 → Mm → Prop) : Prop :=
  w_X4_firstWrong mm (fun (r_1 : Int32) (m_2 : Mm) => Q9 r_1 m_2)
def rm_X9_firstError : Room := { frames := 4, cells := 0, slots := 0, locals := 88 }
theorem hy_X9_firstError : yX9_firstError.cls = RX9 ∧ yX9_firstError.cls ≠ "java/lang/invoke/MethodHandle" ∧ yX9_firstError.cls ≠ "java/lang/invoke/VarHandle" ∧ (parseMethodDescriptor yX9_firstError.desc).map (fun d => d.parameters.length) = some 0 := by decide +kernel
set_option maxRecDepth 100000 in
set_option maxHeartbeats 4000000 in
theorem c_X9_firstError {l : Launch} {D : va_G} {cA : Nat → ClassId} {ad : Nat → Nat → Nat} {A : Nat → Prop} (ax : Ax ad GC A)  (mm : Mm) (Q9 : Int32 → Mm → Prop) (h : w_X9_firstError mm Q9) : Met l yX9_firstError (.code yX9_firstError cX9_firstError 1 (some .int) :: TG) rm_X9_firstError (PcM TT D cA ad false GC (ZC ad A) [.ref (ad 0 1)] mm) (AnsI TT D cA ad false GC A Q9) 0 0 A := by
  have zo := ZC_ok ad A
  unfold w_X9_firstError at h
  refine enterI pl_X9 ⟨rfl, rfl⟩ rfl (Nat.le_of_ble_eq_true rfl) ?_
  intro p e s m args below meth c QQ X hK hZ hnm hE
  refine q_aload_n (j := 0) X dX9_firstError_0 rfl rfl ?_
  refine q_get (k := 3) (v := .ref (ad 17 1)) X hK rfl rfl (Nat.le_of_ble_eq_true rfl) inTX9 (gc (t := 0) (by decide) (ok1 (t := 0) (Nat.le_of_ble_eq_true rfl))) kw_2_115 rfl (rv_nn (a := ad 17) (r := 1) (ok1 (t := 17) (Nat.le_of_ble_eq_true rfl)).1) dX9_firstError_1 ?_
  refine q_calli (q_runVN X hK hZ zo (gc (t := 17) (by decide) (ok1 (t := 17) (Nat.le_of_ble_eq_true rfl))) rfl rfl [] [] rfl rfl (Nat.le_of_ble_eq_true rfl) dX9_firstError_4 ⟨Nat.le_of_ble_eq_true rfl, Nat.le_of_ble_eq_true rfl⟩ (c_X4_firstWrong ax mm _ h) rfl rfl (List.mem_of_getElem? (i := 18) rfl) kw_1_10 kw_3_15 kw_3_14 ks_11 hy_X4_firstWrong.2 ⟨Nat.le_of_ble_eq_true rfl, Nat.le_of_ble_eq_true rfl⟩) (fun r_1 m_2 h => ?_)
  exact hE _ _ _ _ dX9_firstError_7 h
theorem dX4_isLineComplete_0 : decode cX4_isLineComplete 0 = .ok (.aload_n 0, 1) := by decide +kernel
theorem dX4_isLineComplete_1 : decode cX4_isLineComplete 1 = .ok (.getfield 37, 3) := by decide +kernel
theorem dX4_isLineComplete_4 : decode cX4_isLineComplete 4 = .ok (.ifnull 35, 3) := by decide +kernel
theorem dX4_isLineComplete_7 : decode cX4_isLineComplete 7 = .ok (.aload_n 0, 1) := by decide +kernel
theorem dX4_isLineComplete_8 : decode cX4_isLineComplete 8 = .ok (.getfield 15, 3) := by decide +kernel
theorem dX4_isLineComplete_11 : decode cX4_isLineComplete 11 = .ok (.aload_n 0, 1) := by decide +kernel
theorem dX4_isLineComplete_12 : decode cX4_isLineComplete 12 = .ok (.getfield 44, 3) := by decide +kernel
theorem dX4_isLineComplete_15 : decode cX4_isLineComplete 15 = .ok (.iaload, 1) := by decide +kernel
theorem dX4_isLineComplete_16 : decode cX4_isLineComplete 16 = .ok (.iconst (-1), 1) := by decide +kernel
theorem dX4_isLineComplete_17 : decode cX4_isLineComplete 17 = .ok (.if_icmp .eq 22, 3) := by decide +kernel
theorem dX4_isLineComplete_20 : decode cX4_isLineComplete 20 = .ok (.aload_n 0, 1) := by decide +kernel
theorem dX4_isLineComplete_21 : decode cX4_isLineComplete 21 = .ok (.aload_n 0, 1) := by decide +kernel
theorem dX4_isLineComplete_22 : decode cX4_isLineComplete 22 = .ok (.getfield 44, 3) := by decide +kernel
theorem dX4_isLineComplete_25 : decode cX4_isLineComplete 25 = .ok (.iconst 1, 1) := by decide +kernel
theorem dX4_isLineComplete_26 : decode cX4_isLineComplete 26 = .ok (.iadd, 1) := by decide +kernel
theorem dX4_isLineComplete_27 : decode cX4_isLineComplete 27 = .ok (.invokevirtual 47, 3) := by decide +kernel
theorem dX4_isLineComplete_30 : decode cX4_isLineComplete 30 = .ok (.bipush 8, 2) := by decide +kernel
theorem dX4_isLineComplete_32 : decode cX4_isLineComplete 32 = .ok (.if_icmp .ne 7, 3) := by decide +kernel
theorem dX4_isLineComplete_35 : decode cX4_isLineComplete 35 = .ok (.iconst 1, 1) := by decide +kernel
theorem dX4_isLineComplete_36 : decode cX4_isLineComplete 36 = .ok (.goto 4, 3) := by decide +kernel
theorem dX4_isLineComplete_39 : decode cX4_isLineComplete 39 = .ok (.iconst 0, 1) := by decide +kernel
theorem dX4_isLineComplete_40 : decode cX4_isLineComplete 40 = .ok (.ireturn, 1) := by decide +kernel
def w_X4_isLineComplete  (mm : Mm) (Q9 : Int32 → Prop) : Prop :=
  (((mm.2 17 1 3) = 0 → Q9 0) ∧
  (¬ (mm.2 17 1 3) = 0 → vp_in (mm.1 17 1 4) 4 ∧ ((((mm.1 19 1 (mm.1 17 1 4).toNatClampNeg) = (-1) → Q9 0) ∧
  (¬ (mm.1 19 1 (mm.1 17 1 4).toNatClampNeg) = (-1) → w_X4_sortAt ((mm.1 17 1 4) + 1) mm (fun (r_4 : Int32) => ((¬ r_4 = 8 → Q9 0) ∧
  (r_4 = 8 → Q9 1))))))))
def rm_X4_isLineComplete : Room := { frames := 1, cells := 0, slots := 0, locals := 21 }
theorem hy_X4_isLineComplete : yX4_isLineComplete.cls = RX4 ∧ yX4_isLineComplete.cls ≠ "java/lang/invoke/MethodHandle" ∧ yX4_isLineComplete.cls ≠ "java/lang/invoke/VarHandle" ∧ (parseMethodDescriptor yX4_isLineComplete.desc).map (fun d => d.parameters.length) = some 0 := by decide +kernel
set_option maxRecDepth 100000 in
set_option maxHeartbeats 4000000 in
theorem c_X4_isLineComplete {l : Launch} {D : va_G} {cA : Nat → ClassId} {ad : Nat → Nat → Nat} {A : Nat → Prop} (ax : Ax ad GC A)  (mm : Mm) (Q9 : Int32 → Prop) (h : w_X4_isLineComplete mm Q9) : Met l yX4_isLineComplete (.code yX4_isLineComplete cX4_isLineComplete 1 (some .boolean) :: TG) rm_X4_isLineComplete (PcM TT D cA ad false GC (ZC ad A) [.ref (ad 17 1)] mm) (AnsI TT D cA ad false GC A (fun r mm' => Q9 r ∧ mm = mm')) 0 0 A := by
  have zo := ZC_ok ad A
  unfold w_X4_isLineComplete at h
  refine enterZ pl_X4 ⟨rfl, rfl⟩ rfl (Nat.le_of_ble_eq_true rfl) ?_
  intro p e s m args below meth c QQ X hK hZ hnm hE
  refine q_aload_n (j := 0) X dX4_isLineComplete_0 rfl rfl ?_
  refine q_get (k := 3) (v := rv (ad 20) (mm.2 17 1 3)) X hK rfl rfl (Nat.le_of_ble_eq_true rfl) inTX4 (gc (t := 17) (by decide) (ok1 (t := 17) (Nat.le_of_ble_eq_true rfl))) kw_2_95 rfl rfl dX4_isLineComplete_1 ?_
  refine q_ifnull (tgt := 39) X dX4_isLineComplete_4 (by decide) (fun c_1 => ?_) (fun c_1 => ?_)
  · have h := h.1 c_1
    refine q_iconst (v := 0) X dX4_isLineComplete_39 (by decide) ?_
    exact hE _ _ _ _ dX4_isLineComplete_40 (Or.inl rfl) ⟨h, rfl⟩
  · have h := h.2 c_1
    refine q_aload_n (j := 0) X dX4_isLineComplete_7 rfl rfl ?_
    refine q_get (k := 5) (v := .ref (ad 19 1)) X hK rfl rfl (Nat.le_of_ble_eq_true rfl) inTX4 (gc (t := 17) (by decide) (ok1 (t := 17) (Nat.le_of_ble_eq_true rfl))) kw_2_97 rfl (rv_nn (a := ad 19) (r := 1) (ok1 (t := 19) (Nat.le_of_ble_eq_true rfl)).1) dX4_isLineComplete_8 ?_
    refine q_aload_n (j := 0) X dX4_isLineComplete_11 rfl rfl ?_
    refine q_get (k := 4) (v := .int (mm.1 17 1 4)) X hK rfl rfl (Nat.le_of_ble_eq_true rfl) inTX4 (gc (t := 17) (by decide) (ok1 (t := 17) (Nat.le_of_ble_eq_true rfl))) kw_2_96 rfl rfl dX4_isLineComplete_12 ?_
    obtain ⟨b_2, h⟩ := h
    refine q_iald (t := 19) (i := 1) (jn := (mm.1 17 1 4).toNatClampNeg) (v := .int (mm.1 19 1 (mm.1 17 1 4).toNatClampNeg)) X hK rfl rfl (gc (t := 19) (by decide) (ok1 (t := 19) (Nat.le_of_ble_eq_true rfl))) rfl b_2 rfl rfl dX4_isLineComplete_15 ?_
    refine q_iconst (v := (-1)) X dX4_isLineComplete_16 (by decide) ?_
    refine q_icmp_eq (tgt := 39) X dX4_isLineComplete_17 (by decide) (fun c_3 => ?_) (fun c_3 => ?_)
    · have h := h.1 c_3
      refine q_iconst (v := 0) X dX4_isLineComplete_39 (by decide) ?_
      exact hE _ _ _ _ dX4_isLineComplete_40 (Or.inl rfl) ⟨h, rfl⟩
    · have h := h.2 c_3
      refine q_aload_n (j := 0) X dX4_isLineComplete_20 rfl rfl ?_
      refine q_aload_n (j := 0) X dX4_isLineComplete_21 rfl rfl ?_
      refine q_get (k := 4) (v := .int (mm.1 17 1 4)) X hK rfl rfl (Nat.le_of_ble_eq_true rfl) inTX4 (gc (t := 17) (by decide) (ok1 (t := 17) (Nat.le_of_ble_eq_true rfl))) kw_2_96 rfl rfl dX4_isLineComplete_22 ?_
      refine q_iconst (v := 1) X dX4_isLineComplete_25 (by decide) ?_
      refine q_iadd X dX4_isLineComplete_26 ?_
      refine q_calli (q_runV X hK hZ zo (gc (t := 17) (by decide) (ok1 (t := 17) (Nat.le_of_ble_eq_true rfl))) rfl rfl [.int ((mm.1 17 1 4) + 1)] [] rfl rfl (Nat.le_of_ble_eq_true rfl) dX4_isLineComplete_27 ⟨Nat.le_of_ble_eq_true rfl, Nat.le_of_ble_eq_true rfl⟩ (c_X4_sortAt ax ((mm.1 17 1 4) + 1) mm _ h) rfl rfl (gV kw_3_49 kw_3_51 ks_16 kw_1_10 kw_3_52) hy_X4_sortAt ⟨Nat.le_of_ble_eq_true rfl, Nat.le_of_ble_eq_true rfl⟩) (fun r_4 m_5 h => ?_)
      obtain ⟨h, hm⟩ := h
      subst hm
      refine q_bipush (v := 8) X dX4_isLineComplete_30 (by decide) ?_
      refine q_icmp_ne (tgt := 39) X dX4_isLineComplete_32 (by decide) (fun c_6 => ?_) (fun c_6 => ?_)
      · have h := h.1 c_6
        refine q_iconst (v := 0) X dX4_isLineComplete_39 (by decide) ?_
        exact hE _ _ _ _ dX4_isLineComplete_40 (Or.inl rfl) ⟨h, rfl⟩
      · have h := h.2 c_6
        refine q_iconst (v := 1) X dX4_isLineComplete_35 (by decide) ?_
        refine q_goto (tgt := 40) X dX4_isLineComplete_36 (by decide) ?_
        exact hE _ _ _ _ dX4_isLineComplete_40 (Or.inr rfl) ⟨h, rfl⟩
theorem dX4_isComplete_0 : decode cX4_isComplete 0 = .ok (.aload_n 0, 1) := by decide +kernel
theorem dX4_isComplete_1 : decode cX4_isComplete 1 = .ok (.invokevirtual 29, 3) := by decide +kernel
theorem dX4_isComplete_4 : decode cX4_isComplete 4 = .ok (.aload_n 0, 1) := by decide +kernel
theorem dX4_isComplete_5 : decode cX4_isComplete 5 = .ok (.getfield 18, 3) := by decide +kernel
theorem dX4_isComplete_8 : decode cX4_isComplete 8 = .ok (.if_icmp .ne 14, 3) := by decide +kernel
theorem dX4_isComplete_11 : decode cX4_isComplete 11 = .ok (.aload_n 0, 1) := by decide +kernel
theorem dX4_isComplete_12 : decode cX4_isComplete 12 = .ok (.invokevirtual 33, 3) := by decide +kernel
theorem dX4_isComplete_15 : decode cX4_isComplete 15 = .ok (.ifCond .eq 7, 3) := by decide +kernel
theorem dX4_isComplete_18 : decode cX4_isComplete 18 = .ok (.iconst 1, 1) := by decide +kernel
theorem dX4_isComplete_19 : decode cX4_isComplete 19 = .ok (.goto 4, 3) := by decide +kernel
theorem dX4_isComplete_22 : decode cX4_isComplete 22 = .ok (.iconst 0, 1) := by decide +kernel
theorem dX4_isComplete_23 : decode cX4_isComplete 23 = .ok (.ireturn, 1) := by decide +kernel
def w_X4_isComplete  (mm : Mm) (Q9 : Int32 → Mm → Prop) : Prop :=
  w_X4_firstWrong mm (fun (r_1 : Int32) (m_2 : Mm) => ((¬ r_1 = (m_2.1 17 1 1) → Q9 0 m_2) ∧
  (r_1 = (m_2.1 17 1 1) → w_X4_isLineComplete m_2 (fun (r_4 : Int32) => ((r_4 = 0 → Q9 0 m_2) ∧
  (¬ r_4 = 0 → Q9 1 m_2))))))
def rm_X4_isComplete : Room := { frames := 4, cells := 0, slots := 0, locals := 88 }
theorem hy_X4_isComplete : yX4_isComplete.cls = RX4 ∧ yX4_isComplete.cls ≠ "java/lang/invoke/MethodHandle" ∧ yX4_isComplete.cls ≠ "java/lang/invoke/VarHandle" ∧ (parseMethodDescriptor yX4_isComplete.desc).map (fun d => d.parameters.length) = some 0 := by decide +kernel
set_option maxRecDepth 100000 in
set_option maxHeartbeats 4000000 in
theorem c_X4_isComplete {l : Launch} {D : va_G} {cA : Nat → ClassId} {ad : Nat → Nat → Nat} {A : Nat → Prop} (ax : Ax ad GC A)  (mm : Mm) (Q9 : Int32 → Mm → Prop) (h : w_X4_isComplete mm Q9) : Met l yX4_isComplete (.code yX4_isComplete cX4_isComplete 1 (some .boolean) :: TG) rm_X4_isComplete (PcM TT D cA ad false GC (ZC ad A) [.ref (ad 17 1)] mm) (AnsI TT D cA ad false GC A Q9) 0 0 A := by
  have zo := ZC_ok ad A
  unfold w_X4_isComplete at h
  refine enterZ pl_X4 ⟨rfl, rfl⟩ rfl (Nat.le_of_ble_eq_true rfl) ?_
  intro p e s m args below meth c QQ X hK hZ hnm hE
  refine q_aload_n (j := 0) X dX4_isComplete_0 rfl rfl ?_
  refine q_calli (q_runV X hK hZ zo (gc (t := 17) (by decide) (ok1 (t := 17) (Nat.le_of_ble_eq_true rfl))) rfl rfl [] [] rfl rfl (Nat.le_of_ble_eq_true rfl) dX4_isComplete_1 ⟨Nat.le_of_ble_eq_true rfl, Nat.le_of_ble_eq_true rfl⟩ (c_X4_firstWrong ax mm _ h) rfl rfl (gV kw_6_178 kw_3_14 ks_11 kw_1_10 kw_3_15) hy_X4_firstWrong ⟨Nat.le_of_ble_eq_true rfl, Nat.le_of_ble_eq_true rfl⟩) (fun r_1 m_2 h => ?_)
  refine q_aload_n (j := 0) X dX4_isComplete_4 rfl rfl ?_
  refine q_get (k := 1) (v := .int (m_2.1 17 1 1)) X hK rfl rfl (Nat.le_of_ble_eq_true rfl) inTX4 (gc (t := 17) (by decide) (ok1 (t := 17) (Nat.le_of_ble_eq_true rfl))) kw_2_91 rfl rfl dX4_isComplete_5 ?_
  refine q_icmp_ne (tgt := 22) X dX4_isComplete_8 (by decide) (fun c_3 => ?_) (fun c_3 => ?_)
  · have h := h.1 c_3
    refine q_iconst (v := 0) X dX4_isComplete_22 (by decide) ?_
    exact hE _ _ _ _ dX4_isComplete_23 (Or.inl rfl) h
  · have h := h.2 c_3
    refine q_aload_n (j := 0) X dX4_isComplete_11 rfl rfl ?_
    refine q_calli (q_runV X hK hZ zo (gc (t := 17) (by decide) (ok1 (t := 17) (Nat.le_of_ble_eq_true rfl))) rfl rfl [] [] rfl rfl (Nat.le_of_ble_eq_true rfl) dX4_isComplete_12 ⟨Nat.le_of_ble_eq_true rfl, Nat.le_of_ble_eq_true rfl⟩ (c_X4_isLineComplete ax m_2 _ h) rfl rfl (gV kw_6_179 kw_6_181 ks_80 kw_1_10 kw_6_182) hy_X4_isLineComplete ⟨Nat.le_of_ble_eq_true rfl, Nat.le_of_ble_eq_true rfl⟩) (fun r_4 m_5 h => ?_)
    obtain ⟨h, hm⟩ := h
    subst hm
    refine q_if_eq (tgt := 22) X dX4_isComplete_15 (by decide) (fun c_6 => ?_) (fun c_6 => ?_)
    · have h := h.1 c_6
      refine q_iconst (v := 0) X dX4_isComplete_22 (by decide) ?_
      exact hE _ _ _ _ dX4_isComplete_23 (Or.inl rfl) h
    · have h := h.2 c_6
      refine q_iconst (v := 1) X dX4_isComplete_18 (by decide) ?_
      refine q_goto (tgt := 23) X dX4_isComplete_19 (by decide) ?_
      exact hE _ _ _ _ dX4_isComplete_23 (Or.inr rfl) h
theorem dX4_isLastOfLine_0 : decode cX4_isLastOfLine 0 = .ok (.iload_n 1, 1) := by decide +kernel
theorem dX4_isLastOfLine_1 : decode cX4_isLastOfLine 1 = .ok (.iconst 1, 1) := by decide +kernel
theorem dX4_isLastOfLine_2 : decode cX4_isLastOfLine 2 = .ok (.iadd, 1) := by decide +kernel
theorem dX4_isLastOfLine_3 : decode cX4_isLastOfLine 3 = .ok (.aload_n 0, 1) := by decide +kernel
theorem dX4_isLastOfLine_4 : decode cX4_isLastOfLine 4 = .ok (.getfield 18, 3) := by decide +kernel
theorem dX4_isLastOfLine_7 : decode cX4_isLastOfLine 7 = .ok (.if_icmp .ge 16, 3) := by decide +kernel
theorem dX4_isLastOfLine_10 : decode cX4_isLastOfLine 10 = .ok (.aload_n 0, 1) := by decide +kernel
theorem dX4_isLastOfLine_11 : decode cX4_isLastOfLine 11 = .ok (.getfield 9, 3) := by decide +kernel
theorem dX4_isLastOfLine_14 : decode cX4_isLastOfLine 14 = .ok (.iload_n 1, 1) := by decide +kernel
theorem dX4_isLastOfLine_15 : decode cX4_isLastOfLine 15 = .ok (.iconst 1, 1) := by decide +kernel
theorem dX4_isLastOfLine_16 : decode cX4_isLastOfLine 16 = .ok (.iadd, 1) := by decide +kernel
theorem dX4_isLastOfLine_17 : decode cX4_isLastOfLine 17 = .ok (.iaload, 1) := by decide +kernel
theorem dX4_isLastOfLine_18 : decode cX4_isLastOfLine 18 = .ok (.bipush 59, 2) := by decide +kernel
theorem dX4_isLastOfLine_20 : decode cX4_isLastOfLine 20 = .ok (.if_icmp .ne 7, 3) := by decide +kernel
theorem dX4_isLastOfLine_23 : decode cX4_isLastOfLine 23 = .ok (.iconst 1, 1) := by decide +kernel
theorem dX4_isLastOfLine_24 : decode cX4_isLastOfLine 24 = .ok (.goto 4, 3) := by decide +kernel
theorem dX4_isLastOfLine_27 : decode cX4_isLastOfLine 27 = .ok (.iconst 0, 1) := by decide +kernel
theorem dX4_isLastOfLine_28 : decode cX4_isLastOfLine 28 = .ok (.ireturn, 1) := by decide +kernel
def w_X4_isLastOfLine (p0 : Int32) (mm : Mm) (Q9 : Int32 → Prop) : Prop :=
  (((mm.1 17 1 1) ≤ (p0 + 1) → Q9 1) ∧
  (¬ (mm.1 17 1 1) ≤ (p0 + 1) → vp_in (p0 + 1) 60 ∧ (((¬ (mm.1 18 1 (p0 + 1).toNatClampNeg) = 59 → Q9 0) ∧
  ((mm.1 18 1 (p0 + 1).toNatClampNeg) = 59 → Q9 1)))))
def rm_X4_isLastOfLine : Room := { frames := 0, cells := 0, slots := 0, locals := 0 }
theorem hy_X4_isLastOfLine : yX4_isLastOfLine.cls = RX4 ∧ yX4_isLastOfLine.cls ≠ "java/lang/invoke/MethodHandle" ∧ yX4_isLastOfLine.cls ≠ "java/lang/invoke/VarHandle" ∧ (parseMethodDescriptor yX4_isLastOfLine.desc).map (fun d => d.parameters.length) = some 1 := by decide +kernel
set_option maxRecDepth 100000 in
set_option maxHeartbeats 4000000 in
theorem c_X4_isLastOfLine {l : Launch} {D : va_G} {cA : Nat → ClassId} {ad : Nat → Nat → Nat} {A : Nat → Prop} (ax : Ax ad GC A) (p0 : Int32) (mm : Mm) (Q9 : Int32 → Prop) (h : w_X4_isLastOfLine p0 mm Q9) : Met l yX4_isLastOfLine (.code yX4_isLastOfLine cX4_isLastOfLine 2 (some .boolean) :: TG) rm_X4_isLastOfLine (PcM TT D cA ad false GC (ZC ad A) [.ref (ad 17 1), .int p0] mm) (AnsI TT D cA ad false GC A (fun r mm' => Q9 r ∧ mm = mm')) 0 0 A := by
  have zo := ZC_ok ad A
  unfold w_X4_isLastOfLine at h
  refine enterZ pl_X4 ⟨rfl, rfl⟩ rfl (Nat.le_of_ble_eq_true rfl) ?_
  intro p e s m args below meth c QQ X hK hZ hnm hE
  refine q_iload_n (j := 1) X dX4_isLastOfLine_0 rfl rfl ?_
  refine q_iconst (v := 1) X dX4_isLastOfLine_1 (by decide) ?_
  refine q_iadd X dX4_isLastOfLine_2 ?_
  refine q_aload_n (j := 0) X dX4_isLastOfLine_3 rfl rfl ?_
  refine q_get (k := 1) (v := .int (mm.1 17 1 1)) X hK rfl rfl (Nat.le_of_ble_eq_true rfl) inTX4 (gc (t := 17) (by decide) (ok1 (t := 17) (Nat.le_of_ble_eq_true rfl))) kw_2_91 rfl rfl dX4_isLastOfLine_4 ?_
  refine q_icmp_ge (tgt := 23) X dX4_isLastOfLine_7 (by decide) (fun c_1 => ?_) (fun c_1 => ?_)
  · have h := h.1 c_1
    refine q_iconst (v := 1) X dX4_isLastOfLine_23 (by decide) ?_
    refine q_goto (tgt := 28) X dX4_isLastOfLine_24 (by decide) ?_
    exact hE _ _ _ _ dX4_isLastOfLine_28 (Or.inr rfl) ⟨h, rfl⟩
  · have h := h.2 c_1
    refine q_aload_n (j := 0) X dX4_isLastOfLine_10 rfl rfl ?_
    refine q_get (k := 0) (v := .ref (ad 18 1)) X hK rfl rfl (Nat.le_of_ble_eq_true rfl) inTX4 (gc (t := 17) (by decide) (ok1 (t := 17) (Nat.le_of_ble_eq_true rfl))) kw_2_89 rfl (rv_nn (a := ad 18) (r := 1) (ok1 (t := 18) (Nat.le_of_ble_eq_true rfl)).1) dX4_isLastOfLine_11 ?_
    refine q_iload_n (j := 1) X dX4_isLastOfLine_14 rfl rfl ?_
    refine q_iconst (v := 1) X dX4_isLastOfLine_15 (by decide) ?_
    refine q_iadd X dX4_isLastOfLine_16 ?_
    obtain ⟨b_2, h⟩ := h
    refine q_iald (t := 18) (i := 1) (jn := (p0 + 1).toNatClampNeg) (v := .int (mm.1 18 1 (p0 + 1).toNatClampNeg)) X hK rfl rfl (gc (t := 18) (by decide) (ok1 (t := 18) (Nat.le_of_ble_eq_true rfl))) rfl b_2 rfl rfl dX4_isLastOfLine_17 ?_
    refine q_bipush (v := 59) X dX4_isLastOfLine_18 (by decide) ?_
    refine q_icmp_ne (tgt := 27) X dX4_isLastOfLine_20 (by decide) (fun c_3 => ?_) (fun c_3 => ?_)
    · have h := h.1 c_3
      refine q_iconst (v := 0) X dX4_isLastOfLine_27 (by decide) ?_
      exact hE _ _ _ _ dX4_isLastOfLine_28 (Or.inl rfl) ⟨h, rfl⟩
    · have h := h.2 c_3
      refine q_iconst (v := 1) X dX4_isLastOfLine_23 (by decide) ?_
      refine q_goto (tgt := 28) X dX4_isLastOfLine_24 (by decide) ?_
      exact hE _ _ _ _ dX4_isLastOfLine_28 (Or.inr rfl) ⟨h, rfl⟩
theorem dX1_carryOutLine_0 : decode cX1_carryOutLine 0 = .ok (.iload_n 1, 1) := by decide +kernel
theorem dX1_carryOutLine_1 : decode cX1_carryOutLine 1 = .ok (.tableswitch 208 98 120 #[184, 208, 192, 107, 208, 146, 208, 208, 208, 208, 168, 157, 208, 176, 208, 208, 208, 208, 200, 208, 208, 124, 135], 107) := by decide +kernel
theorem dX1_carryOutLine_108 : decode cX1_carryOutLine 108 = .ok (.aload_n 0, 1) := by decide +kernel
theorem dX1_carryOutLine_109 : decode cX1_carryOutLine 109 = .ok (.aload_n 2, 1) := by decide +kernel
theorem dX1_carryOutLine_110 : decode cX1_carryOutLine 110 = .ok (.iconst 0, 1) := by decide +kernel
theorem dX1_carryOutLine_111 : decode cX1_carryOutLine 111 = .ok (.iaload, 1) := by decide +kernel
theorem dX1_carryOutLine_112 : decode cX1_carryOutLine 112 = .ok (.aload_n 2, 1) := by decide +kernel
theorem dX1_carryOutLine_113 : decode cX1_carryOutLine 113 = .ok (.iconst 1, 1) := by decide +kernel
theorem dX1_carryOutLine_114 : decode cX1_carryOutLine 114 = .ok (.iaload, 1) := by decide +kernel
theorem dX1_carryOutLine_115 : decode cX1_carryOutLine 115 = .ok (.aload_n 2, 1) := by decide +kernel
theorem dX1_carryOutLine_116 : decode cX1_carryOutLine 116 = .ok (.iconst 2, 1) := by decide +kernel
theorem dX1_carryOutLine_117 : decode cX1_carryOutLine 117 = .ok (.iaload, 1) := by decide +kernel
theorem dX1_carryOutLine_118 : decode cX1_carryOutLine 118 = .ok (.aload_n 2, 1) := by decide +kernel
theorem dX1_carryOutLine_119 : decode cX1_carryOutLine 119 = .ok (.iconst 3, 1) := by decide +kernel
theorem dX1_carryOutLine_120 : decode cX1_carryOutLine 120 = .ok (.iaload, 1) := by decide +kernel
theorem dX1_carryOutLine_121 : decode cX1_carryOutLine 121 = .ok (.invokevirtual 249, 3) := by decide +kernel
theorem dX1_carryOutLine_124 : decode cX1_carryOutLine 124 = .ok (.ireturn, 1) := by decide +kernel
theorem dX1_carryOutLine_125 : decode cX1_carryOutLine 125 = .ok (.aload_n 0, 1) := by decide +kernel
theorem dX1_carryOutLine_126 : decode cX1_carryOutLine 126 = .ok (.aload_n 2, 1) := by decide +kernel
theorem dX1_carryOutLine_127 : decode cX1_carryOutLine 127 = .ok (.iconst 0, 1) := by decide +kernel
theorem dX1_carryOutLine_128 : decode cX1_carryOutLine 128 = .ok (.iaload, 1) := by decide +kernel
theorem dX1_carryOutLine_129 : decode cX1_carryOutLine 129 = .ok (.aload_n 2, 1) := by decide +kernel
theorem dX1_carryOutLine_130 : decode cX1_carryOutLine 130 = .ok (.iconst 1, 1) := by decide +kernel
theorem dX1_carryOutLine_131 : decode cX1_carryOutLine 131 = .ok (.iaload, 1) := by decide +kernel
theorem dX1_carryOutLine_132 : decode cX1_carryOutLine 132 = .ok (.invokevirtual 252, 3) := by decide +kernel
theorem dX1_carryOutLine_135 : decode cX1_carryOutLine 135 = .ok (.ireturn, 1) := by decide +kernel
theorem dX1_carryOutLine_136 : decode cX1_carryOutLine 136 = .ok (.aload_n 0, 1) := by decide +kernel
theorem dX1_carryOutLine_137 : decode cX1_carryOutLine 137 = .ok (.aload_n 2, 1) := by decide +kernel
theorem dX1_carryOutLine_138 : decode cX1_carryOutLine 138 = .ok (.iconst 0, 1) := by decide +kernel
theorem dX1_carryOutLine_139 : decode cX1_carryOutLine 139 = .ok (.iaload, 1) := by decide +kernel
theorem dX1_carryOutLine_140 : decode cX1_carryOutLine 140 = .ok (.aload_n 2, 1) := by decide +kernel
theorem dX1_carryOutLine_141 : decode cX1_carryOutLine 141 = .ok (.iconst 1, 1) := by decide +kernel
theorem dX1_carryOutLine_142 : decode cX1_carryOutLine 142 = .ok (.iaload, 1) := by decide +kernel
theorem dX1_carryOutLine_143 : decode cX1_carryOutLine 143 = .ok (.invokevirtual 256, 3) := by decide +kernel
theorem dX1_carryOutLine_146 : decode cX1_carryOutLine 146 = .ok (.ireturn, 1) := by decide +kernel
theorem dX1_carryOutLine_147 : decode cX1_carryOutLine 147 = .ok (.aload_n 0, 1) := by decide +kernel
theorem dX1_carryOutLine_148 : decode cX1_carryOutLine 148 = .ok (.aload_n 2, 1) := by decide +kernel
theorem dX1_carryOutLine_149 : decode cX1_carryOutLine 149 = .ok (.iconst 0, 1) := by decide +kernel
theorem dX1_carryOutLine_150 : decode cX1_carryOutLine 150 = .ok (.iaload, 1) := by decide +kernel
theorem dX1_carryOutLine_151 : decode cX1_carryOutLine 151 = .ok (.aload_n 2, 1) := by decide +kernel
theorem dX1_carryOutLine_152 : decode cX1_carryOutLine 152 = .ok (.iconst 1, 1) := by decide +kernel
theorem dX1_carryOutLine_153 : decode cX1_carryOutLine 153 = .ok (.iaload, 1) := by decide +kernel
theorem dX1_carryOutLine_154 : decode cX1_carryOutLine 154 = .ok (.invokevirtual 259, 3) := by decide +kernel
theorem dX1_carryOutLine_157 : decode cX1_carryOutLine 157 = .ok (.ireturn, 1) := by decide +kernel
theorem dX1_carryOutLine_158 : decode cX1_carryOutLine 158 = .ok (.aload_n 0, 1) := by decide +kernel
theorem dX1_carryOutLine_159 : decode cX1_carryOutLine 159 = .ok (.aload_n 2, 1) := by decide +kernel
theorem dX1_carryOutLine_160 : decode cX1_carryOutLine 160 = .ok (.iconst 0, 1) := by decide +kernel
theorem dX1_carryOutLine_161 : decode cX1_carryOutLine 161 = .ok (.iaload, 1) := by decide +kernel
theorem dX1_carryOutLine_162 : decode cX1_carryOutLine 162 = .ok (.aload_n 2, 1) := by decide +kernel
theorem dX1_carryOutLine_163 : decode cX1_carryOutLine 163 = .ok (.iconst 1, 1) := by decide +kernel
theorem dX1_carryOutLine_164 : decode cX1_carryOutLine 164 = .ok (.iaload, 1) := by decide +kernel
theorem dX1_carryOutLine_165 : decode cX1_carryOutLine 165 = .ok (.invokevirtual 262, 3) := by decide +kernel
theorem dX1_carryOutLine_168 : decode cX1_carryOutLine 168 = .ok (.ireturn, 1) := by decide +kernel
theorem dX1_carryOutLine_169 : decode cX1_carryOutLine 169 = .ok (.aload_n 0, 1) := by decide +kernel
theorem dX1_carryOutLine_170 : decode cX1_carryOutLine 170 = .ok (.aload_n 2, 1) := by decide +kernel
theorem dX1_carryOutLine_171 : decode cX1_carryOutLine 171 = .ok (.iconst 0, 1) := by decide +kernel
theorem dX1_carryOutLine_172 : decode cX1_carryOutLine 172 = .ok (.iaload, 1) := by decide +kernel
theorem dX1_carryOutLine_173 : decode cX1_carryOutLine 173 = .ok (.invokevirtual 265, 3) := by decide +kernel
theorem dX1_carryOutLine_176 : decode cX1_carryOutLine 176 = .ok (.ireturn, 1) := by decide +kernel
theorem dX1_carryOutLine_177 : decode cX1_carryOutLine 177 = .ok (.aload_n 0, 1) := by decide +kernel
theorem dX1_carryOutLine_178 : decode cX1_carryOutLine 178 = .ok (.aload_n 2, 1) := by decide +kernel
theorem dX1_carryOutLine_179 : decode cX1_carryOutLine 179 = .ok (.iconst 0, 1) := by decide +kernel
theorem dX1_carryOutLine_180 : decode cX1_carryOutLine 180 = .ok (.iaload, 1) := by decide +kernel
theorem dX1_carryOutLine_181 : decode cX1_carryOutLine 181 = .ok (.invokevirtual 268, 3) := by decide +kernel
theorem dX1_carryOutLine_184 : decode cX1_carryOutLine 184 = .ok (.ireturn, 1) := by decide +kernel
theorem dX1_carryOutLine_185 : decode cX1_carryOutLine 185 = .ok (.aload_n 0, 1) := by decide +kernel
theorem dX1_carryOutLine_186 : decode cX1_carryOutLine 186 = .ok (.aload_n 2, 1) := by decide +kernel
theorem dX1_carryOutLine_187 : decode cX1_carryOutLine 187 = .ok (.iconst 0, 1) := by decide +kernel
theorem dX1_carryOutLine_188 : decode cX1_carryOutLine 188 = .ok (.iaload, 1) := by decide +kernel
theorem dX1_carryOutLine_189 : decode cX1_carryOutLine 189 = .ok (.invokevirtual 271, 3) := by decide +kernel
theorem dX1_carryOutLine_192 : decode cX1_carryOutLine 192 = .ok (.ireturn, 1) := by decide +kernel
theorem dX1_carryOutLine_193 : decode cX1_carryOutLine 193 = .ok (.aload_n 0, 1) := by decide +kernel
theorem dX1_carryOutLine_194 : decode cX1_carryOutLine 194 = .ok (.aload_n 2, 1) := by decide +kernel
theorem dX1_carryOutLine_195 : decode cX1_carryOutLine 195 = .ok (.iconst 0, 1) := by decide +kernel
theorem dX1_carryOutLine_196 : decode cX1_carryOutLine 196 = .ok (.iaload, 1) := by decide +kernel
theorem dX1_carryOutLine_197 : decode cX1_carryOutLine 197 = .ok (.invokevirtual 274, 3) := by decide +kernel
theorem dX1_carryOutLine_200 : decode cX1_carryOutLine 200 = .ok (.ireturn, 1) := by decide +kernel
theorem dX1_carryOutLine_201 : decode cX1_carryOutLine 201 = .ok (.aload_n 0, 1) := by decide +kernel
theorem dX1_carryOutLine_202 : decode cX1_carryOutLine 202 = .ok (.aload_n 2, 1) := by decide +kernel
theorem dX1_carryOutLine_203 : decode cX1_carryOutLine 203 = .ok (.iconst 0, 1) := by decide +kernel
theorem dX1_carryOutLine_204 : decode cX1_carryOutLine 204 = .ok (.iaload, 1) := by decide +kernel
theorem dX1_carryOutLine_205 : decode cX1_carryOutLine 205 = .ok (.invokevirtual 277, 3) := by decide +kernel
theorem dX1_carryOutLine_208 : decode cX1_carryOutLine 208 = .ok (.ireturn, 1) := by decide +kernel
theorem dX1_carryOutLine_209 : decode cX1_carryOutLine 209 = .ok (.bipush (-2), 2) := by decide +kernel
theorem dX1_carryOutLine_211 : decode cX1_carryOutLine 211 = .ok (.ireturn, 1) := by decide +kernel
def w_X1_carryOutLine (p0 : Int32) (mm : Mm) (Q9 : Int32 → Mm → Prop) : Prop :=
  ((p0 = 98 → w_X1_damageSeal (mm.1 19 1 0) mm (fun (r_2 : Int32) (m_3 : Mm) => Q9 r_2 m_3)) ∧
  (p0 = 100 → w_X1_payIn (mm.1 19 1 0) mm (fun (r_4 : Int32) (m_5 : Mm) => Q9 r_4 m_5)) ∧
  (p0 = 101 → w_X1_bringIn (mm.1 19 1 0) (mm.1 19 1 1) (mm.1 19 1 2) (mm.1 19 1 3) mm (fun (r_6 : Int32) (m_7 : Mm) => Q9 r_6 m_7)) ∧
  (p0 = 103 → w_X1_putOnScales (mm.1 19 1 0) (mm.1 19 1 1) mm (fun (r_8 : Int32) (m_9 : Mm) => Q9 r_8 m_9)) ∧
  (p0 = 108 → w_X1_putSeal (mm.1 19 1 0) mm (fun (r_10 : Int32) (m_11 : Mm) => Q9 r_10 m_11)) ∧
  (p0 = 109 → w_X1_carryOver (mm.1 19 1 0) (mm.1 19 1 1) mm (fun (r_12 : Int32) (m_13 : Mm) => Q9 r_12 m_13)) ∧
  (p0 = 111 → w_X1_takeSealOff (mm.1 19 1 0) mm (fun (r_14 : Int32) (m_15 : Mm) => Q9 r_14 m_15)) ∧
  (p0 = 116 → w_X1_letPass (mm.1 19 1 0) mm (fun (r_16 : Int32) (m_17 : Mm) => Q9 r_16 m_17)) ∧
  (p0 = 119 → w_X1_takeIntoCountry (mm.1 19 1 0) (mm.1 19 1 1) mm (fun (r_18 : Int32) (m_19 : Mm) => Q9 r_18 m_19)) ∧
  (p0 = 120 → w_X1_takeAbroad (mm.1 19 1 0) (mm.1 19 1 1) mm (fun (r_20 : Int32) (m_21 : Mm) => Q9 r_20 m_21)) ∧
  (¬ p0 = 98 → ¬ p0 = 100 → ¬ p0 = 101 → ¬ p0 = 103 → ¬ p0 = 108 → ¬ p0 = 109 → ¬ p0 = 111 → ¬ p0 = 116 → ¬ p0 = 119 → ¬ p0 = 120 → Q9 (-2) mm))
def rm_X1_carryOutLine : Room := { frames := 5, cells := 0, slots := 0, locals := 117 }
theorem hy_X1_carryOutLine : yX1_carryOutLine.cls = RX1 ∧ yX1_carryOutLine.cls ≠ "java/lang/invoke/MethodHandle" ∧ yX1_carryOutLine.cls ≠ "java/lang/invoke/VarHandle" ∧ (parseMethodDescriptor yX1_carryOutLine.desc).map (fun d => d.parameters.length) = some 2 := by decide +kernel
set_option maxRecDepth 100000 in
set_option maxHeartbeats 4000000 in
theorem c_X1_carryOutLine {l : Launch} {D : va_G} {cA : Nat → ClassId} {ad : Nat → Nat → Nat} {A : Nat → Prop} (ax : Ax ad GC A) (p0 : Int32) (mm : Mm) (Q9 : Int32 → Mm → Prop) (h : w_X1_carryOutLine p0 mm Q9) : Met l yX1_carryOutLine (.code yX1_carryOutLine cX1_carryOutLine 3 (some .int) :: TG) rm_X1_carryOutLine (PcM TT D cA ad false GC (ZC ad A) [.ref (ad 16 1), .int p0, .ref (ad 19 1)] mm) (AnsI TT D cA ad false GC A Q9) 0 0 A := by
  have zo := ZC_ok ad A
  unfold w_X1_carryOutLine at h
  refine enterI pl_X1 ⟨rfl, rfl⟩ rfl (Nat.le_of_ble_eq_true rfl) ?_
  intro p e s m args below meth c QQ X hK hZ hnm hE
  refine q_iload_n (j := 1) X dX1_carryOutLine_0 rfl rfl ?_
  by_cases c_1 : p0 = 98
  · have h := h.1 c_1
    refine q_tabI (k := 98) (tgt := 185) X dX1_carryOutLine_1 c_1 (by decide) (by decide) rfl (by decide) ?_
    refine q_aload_n (j := 0) X dX1_carryOutLine_185 rfl rfl ?_
    refine q_aload_n (j := 2) X dX1_carryOutLine_186 rfl rfl ?_
    refine q_iconst (v := 0) X dX1_carryOutLine_187 (by decide) ?_
    refine q_iald (t := 19) (i := 1) (jn := 0) (v := .int (mm.1 19 1 0)) X hK rfl rfl (gc (t := 19) (by decide) (ok1 (t := 19) (Nat.le_of_ble_eq_true rfl))) rfl (vpl (by decide +kernel)) (by decide +kernel) rfl dX1_carryOutLine_188 ?_
    refine q_calli (q_runV X hK hZ zo (gc (t := 16) (by decide) (ok1 (t := 16) (Nat.le_of_ble_eq_true rfl))) rfl rfl [.int (mm.1 19 1 0)] [] rfl rfl (Nat.le_of_ble_eq_true rfl) dX1_carryOutLine_189 ⟨Nat.le_of_ble_eq_true rfl, Nat.le_of_ble_eq_true rfl⟩ (c_X1_damageSeal ax (mm.1 19 1 0) mm _ h) rfl rfl (gV kw_6_202 kw_4_206 ks_60 kw_1_9 kw_4_207) hy_X1_damageSeal ⟨Nat.le_of_ble_eq_true rfl, Nat.le_of_ble_eq_true rfl⟩) (fun r_2 m_3 h => ?_)
    exact hE _ _ _ _ dX1_carryOutLine_192 h
  have h := h.2
  have nc_1_98 := c_1
  by_cases c_1 : p0 = 100
  · have h := h.1 c_1
    refine q_tabI (k := 100) (tgt := 193) X dX1_carryOutLine_1 c_1 (by decide) (by decide) rfl (by decide) ?_
    refine q_aload_n (j := 0) X dX1_carryOutLine_193 rfl rfl ?_
    refine q_aload_n (j := 2) X dX1_carryOutLine_194 rfl rfl ?_
    refine q_iconst (v := 0) X dX1_carryOutLine_195 (by decide) ?_
    refine q_iald (t := 19) (i := 1) (jn := 0) (v := .int (mm.1 19 1 0)) X hK rfl rfl (gc (t := 19) (by decide) (ok1 (t := 19) (Nat.le_of_ble_eq_true rfl))) rfl (vpl (by decide +kernel)) (by decide +kernel) rfl dX1_carryOutLine_196 ?_
    refine q_calli (q_runV X hK hZ zo (gc (t := 16) (by decide) (ok1 (t := 16) (Nat.le_of_ble_eq_true rfl))) rfl rfl [.int (mm.1 19 1 0)] [] rfl rfl (Nat.le_of_ble_eq_true rfl) dX1_carryOutLine_197 ⟨Nat.le_of_ble_eq_true rfl, Nat.le_of_ble_eq_true rfl⟩ (c_X1_payIn ax (mm.1 19 1 0) mm _ h) rfl rfl (gV kw_6_203 kw_4_217 ks_61 kw_1_9 kw_4_218) hy_X1_payIn ⟨Nat.le_of_ble_eq_true rfl, Nat.le_of_ble_eq_true rfl⟩) (fun r_4 m_5 h => ?_)
    exact hE _ _ _ _ dX1_carryOutLine_200 h
  have h := h.2
  have nc_1_100 := c_1
  by_cases c_1 : p0 = 101
  · have h := h.1 c_1
    refine q_tabI (k := 101) (tgt := 108) X dX1_carryOutLine_1 c_1 (by decide) (by decide) rfl (by decide) ?_
    refine q_aload_n (j := 0) X dX1_carryOutLine_108 rfl rfl ?_
    refine q_aload_n (j := 2) X dX1_carryOutLine_109 rfl rfl ?_
    refine q_iconst (v := 0) X dX1_carryOutLine_110 (by decide) ?_
    refine q_iald (t := 19) (i := 1) (jn := 0) (v := .int (mm.1 19 1 0)) X hK rfl rfl (gc (t := 19) (by decide) (ok1 (t := 19) (Nat.le_of_ble_eq_true rfl))) rfl (vpl (by decide +kernel)) (by decide +kernel) rfl dX1_carryOutLine_111 ?_
    refine q_aload_n (j := 2) X dX1_carryOutLine_112 rfl rfl ?_
    refine q_iconst (v := 1) X dX1_carryOutLine_113 (by decide) ?_
    refine q_iald (t := 19) (i := 1) (jn := 1) (v := .int (mm.1 19 1 1)) X hK rfl rfl (gc (t := 19) (by decide) (ok1 (t := 19) (Nat.le_of_ble_eq_true rfl))) rfl (vpl (by decide +kernel)) (by decide +kernel) rfl dX1_carryOutLine_114 ?_
    refine q_aload_n (j := 2) X dX1_carryOutLine_115 rfl rfl ?_
    refine q_iconst (v := 2) X dX1_carryOutLine_116 (by decide) ?_
    refine q_iald (t := 19) (i := 1) (jn := 2) (v := .int (mm.1 19 1 2)) X hK rfl rfl (gc (t := 19) (by decide) (ok1 (t := 19) (Nat.le_of_ble_eq_true rfl))) rfl (vpl (by decide +kernel)) (by decide +kernel) rfl dX1_carryOutLine_117 ?_
    refine q_aload_n (j := 2) X dX1_carryOutLine_118 rfl rfl ?_
    refine q_iconst (v := 3) X dX1_carryOutLine_119 (by decide) ?_
    refine q_iald (t := 19) (i := 1) (jn := 3) (v := .int (mm.1 19 1 3)) X hK rfl rfl (gc (t := 19) (by decide) (ok1 (t := 19) (Nat.le_of_ble_eq_true rfl))) rfl (vpl (by decide +kernel)) (by decide +kernel) rfl dX1_carryOutLine_120 ?_
    refine q_calli (q_runV X hK hZ zo (gc (t := 16) (by decide) (ok1 (t := 16) (Nat.le_of_ble_eq_true rfl))) rfl rfl [.int (mm.1 19 1 0), .int (mm.1 19 1 1), .int (mm.1 19 1 2), .int (mm.1 19 1 3)] [] rfl rfl (Nat.le_of_ble_eq_true rfl) dX1_carryOutLine_121 ⟨Nat.le_of_ble_eq_true rfl, Nat.le_of_ble_eq_true rfl⟩ (c_X1_bringIn ax (mm.1 19 1 0) (mm.1 19 1 1) (mm.1 19 1 2) (mm.1 19 1 3) mm _ h) rfl rfl (gV kw_6_195 kw_3_76 ks_17 kw_1_9 kw_3_77) hy_X1_bringIn ⟨Nat.le_of_ble_eq_true rfl, Nat.le_of_ble_eq_true rfl⟩) (fun r_6 m_7 h => ?_)
    exact hE _ _ _ _ dX1_carryOutLine_124 h
  have h := h.2
  have nc_1_101 := c_1
  by_cases c_1 : p0 = 103
  · have h := h.1 c_1
    refine q_tabI (k := 103) (tgt := 147) X dX1_carryOutLine_1 c_1 (by decide) (by decide) rfl (by decide) ?_
    refine q_aload_n (j := 0) X dX1_carryOutLine_147 rfl rfl ?_
    refine q_aload_n (j := 2) X dX1_carryOutLine_148 rfl rfl ?_
    refine q_iconst (v := 0) X dX1_carryOutLine_149 (by decide) ?_
    refine q_iald (t := 19) (i := 1) (jn := 0) (v := .int (mm.1 19 1 0)) X hK rfl rfl (gc (t := 19) (by decide) (ok1 (t := 19) (Nat.le_of_ble_eq_true rfl))) rfl (vpl (by decide +kernel)) (by decide +kernel) rfl dX1_carryOutLine_150 ?_
    refine q_aload_n (j := 2) X dX1_carryOutLine_151 rfl rfl ?_
    refine q_iconst (v := 1) X dX1_carryOutLine_152 (by decide) ?_
    refine q_iald (t := 19) (i := 1) (jn := 1) (v := .int (mm.1 19 1 1)) X hK rfl rfl (gc (t := 19) (by decide) (ok1 (t := 19) (Nat.le_of_ble_eq_true rfl))) rfl (vpl (by decide +kernel)) (by decide +kernel) rfl dX1_carryOutLine_153 ?_
    refine q_calli (q_runV X hK hZ zo (gc (t := 16) (by decide) (ok1 (t := 16) (Nat.le_of_ble_eq_true rfl))) rfl rfl [.int (mm.1 19 1 0), .int (mm.1 19 1 1)] [] rfl rfl (Nat.le_of_ble_eq_true rfl) dX1_carryOutLine_154 ⟨Nat.le_of_ble_eq_true rfl, Nat.le_of_ble_eq_true rfl⟩ (c_X1_putOnScales ax (mm.1 19 1 0) (mm.1 19 1 1) mm _ h) rfl rfl (gV kw_6_198 kw_4_153 ks_53 kw_1_9 kw_4_154) hy_X1_putOnScales ⟨Nat.le_of_ble_eq_true rfl, Nat.le_of_ble_eq_true rfl⟩) (fun r_8 m_9 h => ?_)
    exact hE _ _ _ _ dX1_carryOutLine_157 h
  have h := h.2
  have nc_1_103 := c_1
  by_cases c_1 : p0 = 108
  · have h := h.1 c_1
    refine q_tabI (k := 108) (tgt := 169) X dX1_carryOutLine_1 c_1 (by decide) (by decide) rfl (by decide) ?_
    refine q_aload_n (j := 0) X dX1_carryOutLine_169 rfl rfl ?_
    refine q_aload_n (j := 2) X dX1_carryOutLine_170 rfl rfl ?_
    refine q_iconst (v := 0) X dX1_carryOutLine_171 (by decide) ?_
    refine q_iald (t := 19) (i := 1) (jn := 0) (v := .int (mm.1 19 1 0)) X hK rfl rfl (gc (t := 19) (by decide) (ok1 (t := 19) (Nat.le_of_ble_eq_true rfl))) rfl (vpl (by decide +kernel)) (by decide +kernel) rfl dX1_carryOutLine_172 ?_
    refine q_calli (q_runV X hK hZ zo (gc (t := 16) (by decide) (ok1 (t := 16) (Nat.le_of_ble_eq_true rfl))) rfl rfl [.int (mm.1 19 1 0)] [] rfl rfl (Nat.le_of_ble_eq_true rfl) dX1_carryOutLine_173 ⟨Nat.le_of_ble_eq_true rfl, Nat.le_of_ble_eq_true rfl⟩ (c_X1_putSeal ax (mm.1 19 1 0) mm _ h) rfl rfl (gV kw_6_200 kw_4_184 ks_58 kw_1_9 kw_4_185) hy_X1_putSeal ⟨Nat.le_of_ble_eq_true rfl, Nat.le_of_ble_eq_true rfl⟩) (fun r_10 m_11 h => ?_)
    exact hE _ _ _ _ dX1_carryOutLine_176 h
  have h := h.2
  have nc_1_108 := c_1
  by_cases c_1 : p0 = 109
  · have h := h.1 c_1
    refine q_tabI (k := 109) (tgt := 158) X dX1_carryOutLine_1 c_1 (by decide) (by decide) rfl (by decide) ?_
    refine q_aload_n (j := 0) X dX1_carryOutLine_158 rfl rfl ?_
    refine q_aload_n (j := 2) X dX1_carryOutLine_159 rfl rfl ?_
    refine q_iconst (v := 0) X dX1_carryOutLine_160 (by decide) ?_
    refine q_iald (t := 19) (i := 1) (jn := 0) (v := .int (mm.1 19 1 0)) X hK rfl rfl (gc (t := 19) (by decide) (ok1 (t := 19) (Nat.le_of_ble_eq_true rfl))) rfl (vpl (by decide +kernel)) (by decide +kernel) rfl dX1_carryOutLine_161 ?_
    refine q_aload_n (j := 2) X dX1_carryOutLine_162 rfl rfl ?_
    refine q_iconst (v := 1) X dX1_carryOutLine_163 (by decide) ?_
    refine q_iald (t := 19) (i := 1) (jn := 1) (v := .int (mm.1 19 1 1)) X hK rfl rfl (gc (t := 19) (by decide) (ok1 (t := 19) (Nat.le_of_ble_eq_true rfl))) rfl (vpl (by decide +kernel)) (by decide +kernel) rfl dX1_carryOutLine_164 ?_
    refine q_calli (q_runV X hK hZ zo (gc (t := 16) (by decide) (ok1 (t := 16) (Nat.le_of_ble_eq_true rfl))) rfl rfl [.int (mm.1 19 1 0), .int (mm.1 19 1 1)] [] rfl rfl (Nat.le_of_ble_eq_true rfl) dX1_carryOutLine_165 ⟨Nat.le_of_ble_eq_true rfl, Nat.le_of_ble_eq_true rfl⟩ (c_X1_carryOver ax (mm.1 19 1 0) (mm.1 19 1 1) mm _ h) rfl rfl (gV kw_6_199 kw_4_99 ks_47 kw_1_9 kw_4_100) hy_X1_carryOver ⟨Nat.le_of_ble_eq_true rfl, Nat.le_of_ble_eq_true rfl⟩) (fun r_12 m_13 h => ?_)
    exact hE _ _ _ _ dX1_carryOutLine_168 h
  have h := h.2
  have nc_1_109 := c_1
  by_cases c_1 : p0 = 111
  · have h := h.1 c_1
    refine q_tabI (k := 111) (tgt := 177) X dX1_carryOutLine_1 c_1 (by decide) (by decide) rfl (by decide) ?_
    refine q_aload_n (j := 0) X dX1_carryOutLine_177 rfl rfl ?_
    refine q_aload_n (j := 2) X dX1_carryOutLine_178 rfl rfl ?_
    refine q_iconst (v := 0) X dX1_carryOutLine_179 (by decide) ?_
    refine q_iald (t := 19) (i := 1) (jn := 0) (v := .int (mm.1 19 1 0)) X hK rfl rfl (gc (t := 19) (by decide) (ok1 (t := 19) (Nat.le_of_ble_eq_true rfl))) rfl (vpl (by decide +kernel)) (by decide +kernel) rfl dX1_carryOutLine_180 ?_
    refine q_calli (q_runV X hK hZ zo (gc (t := 16) (by decide) (ok1 (t := 16) (Nat.le_of_ble_eq_true rfl))) rfl rfl [.int (mm.1 19 1 0)] [] rfl rfl (Nat.le_of_ble_eq_true rfl) dX1_carryOutLine_181 ⟨Nat.le_of_ble_eq_true rfl, Nat.le_of_ble_eq_true rfl⟩ (c_X1_takeSealOff ax (mm.1 19 1 0) mm _ h) rfl rfl (gV kw_6_201 kw_4_195 ks_59 kw_1_9 kw_4_196) hy_X1_takeSealOff ⟨Nat.le_of_ble_eq_true rfl, Nat.le_of_ble_eq_true rfl⟩) (fun r_14 m_15 h => ?_)
    exact hE _ _ _ _ dX1_carryOutLine_184 h
  have h := h.2
  have nc_1_111 := c_1
  by_cases c_1 : p0 = 116
  · have h := h.1 c_1
    refine q_tabI (k := 116) (tgt := 201) X dX1_carryOutLine_1 c_1 (by decide) (by decide) rfl (by decide) ?_
    refine q_aload_n (j := 0) X dX1_carryOutLine_201 rfl rfl ?_
    refine q_aload_n (j := 2) X dX1_carryOutLine_202 rfl rfl ?_
    refine q_iconst (v := 0) X dX1_carryOutLine_203 (by decide) ?_
    refine q_iald (t := 19) (i := 1) (jn := 0) (v := .int (mm.1 19 1 0)) X hK rfl rfl (gc (t := 19) (by decide) (ok1 (t := 19) (Nat.le_of_ble_eq_true rfl))) rfl (vpl (by decide +kernel)) (by decide +kernel) rfl dX1_carryOutLine_204 ?_
    refine q_calli (q_runV X hK hZ zo (gc (t := 16) (by decide) (ok1 (t := 16) (Nat.le_of_ble_eq_true rfl))) rfl rfl [.int (mm.1 19 1 0)] [] rfl rfl (Nat.le_of_ble_eq_true rfl) dX1_carryOutLine_205 ⟨Nat.le_of_ble_eq_true rfl, Nat.le_of_ble_eq_true rfl⟩ (c_X1_letPass ax (mm.1 19 1 0) mm _ h) rfl rfl (gV kw_6_204 kw_5_33 ks_67 kw_1_9 kw_5_34) hy_X1_letPass ⟨Nat.le_of_ble_eq_true rfl, Nat.le_of_ble_eq_true rfl⟩) (fun r_16 m_17 h => ?_)
    exact hE _ _ _ _ dX1_carryOutLine_208 h
  have h := h.2
  have nc_1_116 := c_1
  by_cases c_1 : p0 = 119
  · have h := h.1 c_1
    refine q_tabI (k := 119) (tgt := 125) X dX1_carryOutLine_1 c_1 (by decide) (by decide) rfl (by decide) ?_
    refine q_aload_n (j := 0) X dX1_carryOutLine_125 rfl rfl ?_
    refine q_aload_n (j := 2) X dX1_carryOutLine_126 rfl rfl ?_
    refine q_iconst (v := 0) X dX1_carryOutLine_127 (by decide) ?_
    refine q_iald (t := 19) (i := 1) (jn := 0) (v := .int (mm.1 19 1 0)) X hK rfl rfl (gc (t := 19) (by decide) (ok1 (t := 19) (Nat.le_of_ble_eq_true rfl))) rfl (vpl (by decide +kernel)) (by decide +kernel) rfl dX1_carryOutLine_128 ?_
    refine q_aload_n (j := 2) X dX1_carryOutLine_129 rfl rfl ?_
    refine q_iconst (v := 1) X dX1_carryOutLine_130 (by decide) ?_
    refine q_iald (t := 19) (i := 1) (jn := 1) (v := .int (mm.1 19 1 1)) X hK rfl rfl (gc (t := 19) (by decide) (ok1 (t := 19) (Nat.le_of_ble_eq_true rfl))) rfl (vpl (by decide +kernel)) (by decide +kernel) rfl dX1_carryOutLine_131 ?_
    refine q_calli (q_runV X hK hZ zo (gc (t := 16) (by decide) (ok1 (t := 16) (Nat.le_of_ble_eq_true rfl))) rfl rfl [.int (mm.1 19 1 0), .int (mm.1 19 1 1)] [] rfl rfl (Nat.le_of_ble_eq_true rfl) dX1_carryOutLine_132 ⟨Nat.le_of_ble_eq_true rfl, Nat.le_of_ble_eq_true rfl⟩ (c_X1_takeIntoCountry ax (mm.1 19 1 0) (mm.1 19 1 1) mm _ h) rfl rfl (gV kw_6_196 kw_4_4 ks_31 kw_1_9 kw_4_5) hy_X1_takeIntoCountry ⟨Nat.le_of_ble_eq_true rfl, Nat.le_of_ble_eq_true rfl⟩) (fun r_18 m_19 h => ?_)
    exact hE _ _ _ _ dX1_carryOutLine_135 h
  have h := h.2
  have nc_1_119 := c_1
  by_cases c_1 : p0 = 120
  · have h := h.1 c_1
    refine q_tabI (k := 120) (tgt := 136) X dX1_carryOutLine_1 c_1 (by decide) (by decide) rfl (by decide) ?_
    refine q_aload_n (j := 0) X dX1_carryOutLine_136 rfl rfl ?_
    refine q_aload_n (j := 2) X dX1_carryOutLine_137 rfl rfl ?_
    refine q_iconst (v := 0) X dX1_carryOutLine_138 (by decide) ?_
    refine q_iald (t := 19) (i := 1) (jn := 0) (v := .int (mm.1 19 1 0)) X hK rfl rfl (gc (t := 19) (by decide) (ok1 (t := 19) (Nat.le_of_ble_eq_true rfl))) rfl (vpl (by decide +kernel)) (by decide +kernel) rfl dX1_carryOutLine_139 ?_
    refine q_aload_n (j := 2) X dX1_carryOutLine_140 rfl rfl ?_
    refine q_iconst (v := 1) X dX1_carryOutLine_141 (by decide) ?_
    refine q_iald (t := 19) (i := 1) (jn := 1) (v := .int (mm.1 19 1 1)) X hK rfl rfl (gc (t := 19) (by decide) (ok1 (t := 19) (Nat.le_of_ble_eq_true rfl))) rfl (vpl (by decide +kernel)) (by decide +kernel) rfl dX1_carryOutLine_142 ?_
    refine q_calli (q_runV X hK hZ zo (gc (t := 16) (by decide) (ok1 (t := 16) (Nat.le_of_ble_eq_true rfl))) rfl rfl [.int (mm.1 19 1 0), .int (mm.1 19 1 1)] [] rfl rfl (Nat.le_of_ble_eq_true rfl) dX1_carryOutLine_143 ⟨Nat.le_of_ble_eq_true rfl, Nat.le_of_ble_eq_true rfl⟩ (c_X1_takeAbroad ax (mm.1 19 1 0) (mm.1 19 1 1) mm _ h) rfl rfl (gV kw_6_197 kw_4_54 ks_40 kw_1_9 kw_4_55) hy_X1_takeAbroad ⟨Nat.le_of_ble_eq_true rfl, Nat.le_of_ble_eq_true rfl⟩) (fun r_20 m_21 h => ?_)
    exact hE _ _ _ _ dX1_carryOutLine_146 h
  have h := h.2
  have nc_1_120 := c_1
  have h := h nc_1_98 nc_1_100 nc_1_101 nc_1_103 nc_1_108 nc_1_109 nc_1_111 nc_1_116 nc_1_119 nc_1_120
  refine q_tabD (ks := [98, 100, 101, 103, 108, 109, 111, 116, 119, 120]) (tgt := 209) X dX1_carryOutLine_1 (by intro k hk; simp only [List.mem_cons, List.not_mem_nil, or_false] at hk; rcases hk with rfl | rfl | rfl | rfl | rfl | rfl | rfl | rfl | rfl | rfl <;> assumption) (by decide +kernel) (by decide) ?_
  refine q_bipush (v := (-2)) X dX1_carryOutLine_209 (by decide) ?_
  exact hE _ _ _ _ dX1_carryOutLine_211 h
theorem dX3_restoreLast_0 : decode cX3_restoreLast 0 = .ok (.aload_n 0, 1) := by decide +kernel
theorem dX3_restoreLast_1 : decode cX3_restoreLast 1 = .ok (.aload_n 0, 1) := by decide +kernel
theorem dX3_restoreLast_2 : decode cX3_restoreLast 2 = .ok (.getfield 29, 3) := by decide +kernel
theorem dX3_restoreLast_5 : decode cX3_restoreLast 5 = .ok (.iconst 1, 1) := by decide +kernel
theorem dX3_restoreLast_6 : decode cX3_restoreLast 6 = .ok (.isub, 1) := by decide +kernel
theorem dX3_restoreLast_7 : decode cX3_restoreLast 7 = .ok (.putfield 29, 3) := by decide +kernel
theorem dX3_restoreLast_10 : decode cX3_restoreLast 10 = .ok (.aload_n 1, 1) := by decide +kernel
theorem dX3_restoreLast_11 : decode cX3_restoreLast 11 = .ok (.aload_n 0, 1) := by decide +kernel
theorem dX3_restoreLast_12 : decode cX3_restoreLast 12 = .ok (.getfield 11, 3) := by decide +kernel
theorem dX3_restoreLast_15 : decode cX3_restoreLast 15 = .ok (.aload_n 0, 1) := by decide +kernel
theorem dX3_restoreLast_16 : decode cX3_restoreLast 16 = .ok (.getfield 33, 3) := by decide +kernel
theorem dX3_restoreLast_19 : decode cX3_restoreLast 19 = .ok (.aload_n 0, 1) := by decide +kernel
theorem dX3_restoreLast_20 : decode cX3_restoreLast 20 = .ok (.getfield 29, 3) := by decide +kernel
theorem dX3_restoreLast_23 : decode cX3_restoreLast 23 = .ok (.iadd, 1) := by decide +kernel
theorem dX3_restoreLast_24 : decode cX3_restoreLast 24 = .ok (.bipush 6, 2) := by decide +kernel
theorem dX3_restoreLast_26 : decode cX3_restoreLast 26 = .ok (.irem, 1) := by decide +kernel
theorem dX3_restoreLast_27 : decode cX3_restoreLast 27 = .ok (.aaload, 1) := by decide +kernel
theorem dX3_restoreLast_28 : decode cX3_restoreLast 28 = .ok (.invokevirtual 36, 3) := by decide +kernel
theorem dX3_restoreLast_31 : decode cX3_restoreLast 31 = .ok (.return_, 1) := by decide +kernel
def w_X3_restoreLast (p0 : Nat) (mm : Mm) (Q9 : Mm → Prop) : Prop :=
  ∀ m_1 : Mm, m_1 = sI mm 12 1 2 ((mm.1 12 1 2) - 1) → (vp_in (((m_1.1 12 1 1) + (m_1.1 12 1 2)) - ((m_1.1 12 1 1) + (m_1.1 12 1 2)) / 6 * 6) 6 ∧ (w_X8_copyFrom p0 ((((m_1.1 12 1 1) + (m_1.1 12 1 2)) - ((m_1.1 12 1 1) + (m_1.1 12 1 2)) / 6 * 6).toNatClampNeg + 2) m_1 (fun (m_4 : Mm) => Q9 m_4)))
def rm_X3_restoreLast : Room := { frames := 2, cells := 0, slots := 0, locals := 43 }
theorem hy_X3_restoreLast : yX3_restoreLast.cls = RX3 ∧ yX3_restoreLast.cls ≠ "java/lang/invoke/MethodHandle" ∧ yX3_restoreLast.cls ≠ "java/lang/invoke/VarHandle" ∧ (parseMethodDescriptor yX3_restoreLast.desc).map (fun d => d.parameters.length) = some 1 := by decide +kernel
set_option maxRecDepth 100000 in
set_option maxHeartbeats 4000000 in
theorem c_X3_restoreLast {l : Launch} {D : va_G} {cA : Nat → ClassId} {ad : Nat → Nat → Nat} {A : Nat → Prop} (ax : Ax ad GC A) (p0 : Nat) (hp0 : ok 1 p0) (mm : Mm) (Q9 : Mm → Prop) (h : w_X3_restoreLast p0 mm Q9) : Met l yX3_restoreLast (.code yX3_restoreLast cX3_restoreLast 2 none :: TG) rm_X3_restoreLast (PcM TT D cA ad false GC (ZC ad A) [.ref (ad 12 1), .ref (ad 1 p0)] mm) (AnsV TT D cA ad false GC A Q9) 0 0 A := by
  have zo := ZC_ok ad A
  unfold w_X3_restoreLast at h
  refine enterV pl_X3 ⟨rfl, rfl⟩ rfl (Nat.le_of_ble_eq_true rfl) ?_
  intro p e s m args below meth c QQ X hK hZ hnm hE
  refine q_aload_n (j := 0) X dX3_restoreLast_0 rfl rfl ?_
  refine q_aload_n (j := 0) X dX3_restoreLast_1 rfl rfl ?_
  refine q_get (k := 2) (v := .int (mm.1 12 1 2)) X hK rfl rfl (Nat.le_of_ble_eq_true rfl) inTX3 (gc (t := 12) (by decide) (ok1 (t := 12) (Nat.le_of_ble_eq_true rfl))) kw_2_48 rfl rfl dX3_restoreLast_2 ?_
  refine q_iconst (v := 1) X dX3_restoreLast_5 (by decide) ?_
  refine q_isub X dX3_restoreLast_6 ?_
  refine q_putI (k := 2) X ax hK rfl rfl (Nat.le_of_ble_eq_true rfl) inTX3 (gc (t := 12) (by decide) (ok1 (t := 12) (Nat.le_of_ble_eq_true rfl))) tyX3 tyX3_ok nmX3 kw_2_48 rfl rfl (tyX3_ok 2 (Nat.le_of_ble_eq_true rfl)) rfl dX3_restoreLast_7 ?_
  refine q_nmP (fun m_1 em_1 => ?_)
  have h := h m_1 em_1
  refine q_aload_n (j := 1) X dX3_restoreLast_10 rfl rfl ?_
  refine q_aload_n (j := 0) X dX3_restoreLast_11 rfl rfl ?_
  refine q_get (k := 0) (v := .ref (ad 13 1)) X hK rfl rfl (Nat.le_of_ble_eq_true rfl) inTX3 (gc (t := 12) (by decide) (ok1 (t := 12) (Nat.le_of_ble_eq_true rfl))) kw_2_46 rfl (rv_nn (a := ad 13) (r := 1) (ok1 (t := 13) (Nat.le_of_ble_eq_true rfl)).1) dX3_restoreLast_12 ?_
  refine q_aload_n (j := 0) X dX3_restoreLast_15 rfl rfl ?_
  refine q_get (k := 1) (v := .int (m_1.1 12 1 1)) X hK rfl rfl (Nat.le_of_ble_eq_true rfl) inTX3 (gc (t := 12) (by decide) (ok1 (t := 12) (Nat.le_of_ble_eq_true rfl))) kw_2_47 rfl rfl dX3_restoreLast_16 ?_
  refine q_aload_n (j := 0) X dX3_restoreLast_19 rfl rfl ?_
  refine q_get (k := 2) (v := .int (m_1.1 12 1 2)) X hK rfl rfl (Nat.le_of_ble_eq_true rfl) inTX3 (gc (t := 12) (by decide) (ok1 (t := 12) (Nat.le_of_ble_eq_true rfl))) kw_2_48 rfl rfl dX3_restoreLast_20 ?_
  refine q_iadd X dX3_restoreLast_23 ?_
  refine q_bipush (v := 6) X dX3_restoreLast_24 (by decide) ?_
  refine q_irem X dX3_restoreLast_26 (by decide) ?_
  obtain ⟨b_2, h⟩ := h
  refine q_aald (t := 13) (i := 1) (jn := (((m_1.1 12 1 1) + (m_1.1 12 1 2)) - ((m_1.1 12 1 1) + (m_1.1 12 1 2)) / 6 * 6).toNatClampNeg) (v := .ref (ad 1 ((((m_1.1 12 1 1) + (m_1.1 12 1 2)) - ((m_1.1 12 1 1) + (m_1.1 12 1 2)) / 6 * 6).toNatClampNeg + 2))) X hK rfl rfl (gc (t := 13) (by decide) (ok1 (t := 13) (Nat.le_of_ble_eq_true rfl))) rfl b_2 rfl (rv_nn (a := ad 1) (r := ((((m_1.1 12 1 1) + (m_1.1 12 1 2)) - ((m_1.1 12 1 1) + (m_1.1 12 1 2)) / 6 * 6).toNatClampNeg + 2)) (ok_sv (ok1 (t := 13) (Nat.le_of_ble_eq_true rfl)) b_2).1) dX3_restoreLast_27 ?_
  refine q_callv (q_runVN X hK hZ zo (gc (t := 1) (by decide) hp0) rfl rfl [.ref (ad 1 ((((m_1.1 12 1 1) + (m_1.1 12 1 2)) - ((m_1.1 12 1 1) + (m_1.1 12 1 2)) / 6 * 6).toNatClampNeg + 2))] [] rfl rfl (Nat.le_of_ble_eq_true rfl) dX3_restoreLast_28 ⟨Nat.le_of_ble_eq_true rfl, Nat.le_of_ble_eq_true rfl⟩ (c_X8_copyFrom ax p0 hp0 ((((m_1.1 12 1 1) + (m_1.1 12 1 2)) - ((m_1.1 12 1 1) + (m_1.1 12 1 2)) / 6 * 6).toNatClampNeg + 2) (ok_sv (ok1 (t := 13) (Nat.le_of_ble_eq_true rfl)) b_2) m_1 _ h) rfl rfl (List.mem_of_getElem? (i := 25) rfl) kw_1_2 kw_3_106 kw_3_105 ks_23 hy_X8_copyFrom.2 ⟨Nat.le_of_ble_eq_true rfl, Nat.le_of_ble_eq_true rfl⟩) (fun m_4 h => ?_)
  exact hE _ _ _ dX3_restoreLast_31 h
theorem dX9_savedStates_0 : decode cX9_savedStates 0 = .ok (.aload_n 0, 1) := by decide +kernel
theorem dX9_savedStates_1 : decode cX9_savedStates 1 = .ok (.getfield 19, 3) := by decide +kernel
theorem dX9_savedStates_4 : decode cX9_savedStates 4 = .ok (.getfield 388, 3) := by decide +kernel
theorem dX9_savedStates_7 : decode cX9_savedStates 7 = .ok (.ireturn, 1) := by decide +kernel
def w_X9_savedStates  (mm : Mm) (Q9 : Int32 → Prop) : Prop :=
  Q9 (mm.1 12 1 2)
def rm_X9_savedStates : Room := { frames := 0, cells := 0, slots := 0, locals := 0 }
theorem hy_X9_savedStates : yX9_savedStates.cls = RX9 ∧ yX9_savedStates.cls ≠ "java/lang/invoke/MethodHandle" ∧ yX9_savedStates.cls ≠ "java/lang/invoke/VarHandle" ∧ (parseMethodDescriptor yX9_savedStates.desc).map (fun d => d.parameters.length) = some 0 := by decide +kernel
set_option maxRecDepth 100000 in
set_option maxHeartbeats 4000000 in
theorem c_X9_savedStates {l : Launch} {D : va_G} {cA : Nat → ClassId} {ad : Nat → Nat → Nat} {A : Nat → Prop} (ax : Ax ad GC A)  (mm : Mm) (Q9 : Int32 → Prop) (h : w_X9_savedStates mm Q9) : Met l yX9_savedStates (.code yX9_savedStates cX9_savedStates 1 (some .int) :: TG) rm_X9_savedStates (PcM TT D cA ad false GC (ZC ad A) [.ref (ad 0 1)] mm) (AnsI TT D cA ad false GC A (fun r mm' => Q9 r ∧ mm = mm')) 0 0 A := by
  have zo := ZC_ok ad A
  unfold w_X9_savedStates at h
  refine enterI pl_X9 ⟨rfl, rfl⟩ rfl (Nat.le_of_ble_eq_true rfl) ?_
  intro p e s m args below meth c QQ X hK hZ hnm hE
  refine q_aload_n (j := 0) X dX9_savedStates_0 rfl rfl ?_
  refine q_get (k := 1) (v := .ref (ad 12 1)) X hK rfl rfl (Nat.le_of_ble_eq_true rfl) inTX9 (gc (t := 0) (by decide) (ok1 (t := 0) (Nat.le_of_ble_eq_true rfl))) kw_2_113 rfl (rv_nn (a := ad 12) (r := 1) (ok1 (t := 12) (Nat.le_of_ble_eq_true rfl)).1) dX9_savedStates_1 ?_
  refine q_getN (k := 2) (v := .int (mm.1 12 1 2)) X hK rfl rfl (Nat.le_of_ble_eq_true rfl) inTX3 (gc (t := 12) (by decide) (ok1 (t := 12) (Nat.le_of_ble_eq_true rfl))) (List.mem_of_getElem? (i := 81) rfl) rfl rfl dX9_savedStates_4 ?_
  exact hE _ _ _ _ dX9_savedStates_7 ⟨h, rfl⟩
theorem dX3_fillSlot_0 : decode cX3_fillSlot 0 = .ok (.aload_n 0, 1) := by decide +kernel
theorem dX3_fillSlot_1 : decode cX3_fillSlot 1 = .ok (.getfield 17, 3) := by decide +kernel
theorem dX3_fillSlot_4 : decode cX3_fillSlot 4 = .ok (.iload_n 1, 1) := by decide +kernel
theorem dX3_fillSlot_5 : decode cX3_fillSlot 5 = .ok (.aaload, 1) := by decide +kernel
theorem dX3_fillSlot_6 : decode cX3_fillSlot 6 = .ok (.aload_n 2, 1) := by decide +kernel
theorem dX3_fillSlot_7 : decode cX3_fillSlot 7 = .ok (.invokevirtual 36, 3) := by decide +kernel
theorem dX3_fillSlot_10 : decode cX3_fillSlot 10 = .ok (.aload_n 0, 1) := by decide +kernel
theorem dX3_fillSlot_11 : decode cX3_fillSlot 11 = .ok (.getfield 20, 3) := by decide +kernel
theorem dX3_fillSlot_14 : decode cX3_fillSlot 14 = .ok (.iload_n 1, 1) := by decide +kernel
theorem dX3_fillSlot_15 : decode cX3_fillSlot 15 = .ok (.iconst 1, 1) := by decide +kernel
theorem dX3_fillSlot_16 : decode cX3_fillSlot 16 = .ok (.bastore, 1) := by decide +kernel
theorem dX3_fillSlot_17 : decode cX3_fillSlot 17 = .ok (.return_, 1) := by decide +kernel
def w_X3_fillSlot (p0 : Int32) (p1 : Nat) (mm : Mm) (Q9 : Mm → Prop) : Prop :=
  vp_in p0 2 ∧ (w_X8_copyFrom (p0.toNatClampNeg + 8) p1 mm (fun (m_3 : Mm) => ∀ m_4 : Mm, m_4 = sI m_3 15 1 p0.toNatClampNeg 1 → (Q9 m_4)))
def rm_X3_fillSlot : Room := { frames := 2, cells := 0, slots := 0, locals := 43 }
theorem hy_X3_fillSlot : yX3_fillSlot.cls = RX3 ∧ yX3_fillSlot.cls ≠ "java/lang/invoke/MethodHandle" ∧ yX3_fillSlot.cls ≠ "java/lang/invoke/VarHandle" ∧ (parseMethodDescriptor yX3_fillSlot.desc).map (fun d => d.parameters.length) = some 2 := by decide +kernel
set_option maxRecDepth 100000 in
set_option maxHeartbeats 4000000 in
theorem c_X3_fillSlot {l : Launch} {D : va_G} {cA : Nat → ClassId} {ad : Nat → Nat → Nat} {A : Nat → Prop} (ax : Ax ad GC A) (p0 : Int32) (p1 : Nat) (hp1 : ok 1 p1) (mm : Mm) (Q9 : Mm → Prop) (h : w_X3_fillSlot p0 p1 mm Q9) : Met l yX3_fillSlot (.code yX3_fillSlot cX3_fillSlot 3 none :: TG) rm_X3_fillSlot (PcM TT D cA ad false GC (ZC ad A) [.ref (ad 12 1), .int p0, .ref (ad 1 p1)] mm) (AnsV TT D cA ad false GC A Q9) 0 0 A := by
  have zo := ZC_ok ad A
  unfold w_X3_fillSlot at h
  refine enterV pl_X3 ⟨rfl, rfl⟩ rfl (Nat.le_of_ble_eq_true rfl) ?_
  intro p e s m args below meth c QQ X hK hZ hnm hE
  refine q_aload_n (j := 0) X dX3_fillSlot_0 rfl rfl ?_
  refine q_get (k := 3) (v := .ref (ad 14 1)) X hK rfl rfl (Nat.le_of_ble_eq_true rfl) inTX3 (gc (t := 12) (by decide) (ok1 (t := 12) (Nat.le_of_ble_eq_true rfl))) kw_2_50 rfl (rv_nn (a := ad 14) (r := 1) (ok1 (t := 14) (Nat.le_of_ble_eq_true rfl)).1) dX3_fillSlot_1 ?_
  refine q_iload_n (j := 1) X dX3_fillSlot_4 rfl rfl ?_
  obtain ⟨b_1, h⟩ := h
  refine q_aald (t := 14) (i := 1) (jn := p0.toNatClampNeg) (v := .ref (ad 1 (p0.toNatClampNeg + 8))) X hK rfl rfl (gc (t := 14) (by decide) (ok1 (t := 14) (Nat.le_of_ble_eq_true rfl))) rfl b_1 rfl (rv_nn (a := ad 1) (r := (p0.toNatClampNeg + 8)) (ok_sl (ok1 (t := 14) (Nat.le_of_ble_eq_true rfl)) b_1).1) dX3_fillSlot_5 ?_
  refine q_aload_n (j := 2) X dX3_fillSlot_6 rfl rfl ?_
  refine q_callv (q_runVN X hK hZ zo (gc (t := 1) (by decide) (ok_sl (ok1 (t := 14) (Nat.le_of_ble_eq_true rfl)) b_1)) rfl rfl [.ref (ad 1 p1)] [] rfl rfl (Nat.le_of_ble_eq_true rfl) dX3_fillSlot_7 ⟨Nat.le_of_ble_eq_true rfl, Nat.le_of_ble_eq_true rfl⟩ (c_X8_copyFrom ax (p0.toNatClampNeg + 8) (ok_sl (ok1 (t := 14) (Nat.le_of_ble_eq_true rfl)) b_1) p1 hp1 mm _ h) rfl rfl (List.mem_of_getElem? (i := 25) rfl) kw_1_2 kw_3_106 kw_3_105 ks_23 hy_X8_copyFrom.2 ⟨Nat.le_of_ble_eq_true rfl, Nat.le_of_ble_eq_true rfl⟩) (fun m_3 h => ?_)
  refine q_aload_n (j := 0) X dX3_fillSlot_10 rfl rfl ?_
  refine q_get (k := 4) (v := .ref (ad 15 1)) X hK rfl rfl (Nat.le_of_ble_eq_true rfl) inTX3 (gc (t := 12) (by decide) (ok1 (t := 12) (Nat.le_of_ble_eq_true rfl))) kw_2_52 rfl (rv_nn (a := ad 15) (r := 1) (ok1 (t := 15) (Nat.le_of_ble_eq_true rfl)).1) dX3_fillSlot_11 ?_
  refine q_iload_n (j := 1) X dX3_fillSlot_14 rfl rfl ?_
  refine q_iconst (v := 1) X dX3_fillSlot_15 (by decide) ?_
  refine q_zast (t := 15) (i := 1) (jn := p0.toNatClampNeg) X ax hK rfl rfl (gc (t := 15) (by decide) (ok1 (t := 15) (Nat.le_of_ble_eq_true rfl))) rfl b_1 rfl (Or.inr rfl) rfl dX3_fillSlot_16 ?_
  refine q_nmP (fun m_4 em_4 => ?_)
  have h := h m_4 em_4
  exact hE _ _ _ dX3_fillSlot_17 h
theorem dX10_thrown_0 : decode cX10_thrown 0 = .ok (.aload_n 0, 1) := by decide +kernel
theorem dX10_thrown_1 : decode cX10_thrown 1 = .ok (.getfield 29, 3) := by decide +kernel
theorem dX10_thrown_4 : decode cX10_thrown 4 = .ok (.ireturn, 1) := by decide +kernel
def w_X10_thrown  (mm : Mm) (Q9 : Int32 → Prop) : Prop :=
  Q9 (mm.1 30 1 0)
def rm_X10_thrown : Room := { frames := 0, cells := 0, slots := 0, locals := 0 }
theorem hy_X10_thrown : yX10_thrown.cls = RX10 ∧ yX10_thrown.cls ≠ "java/lang/invoke/MethodHandle" ∧ yX10_thrown.cls ≠ "java/lang/invoke/VarHandle" ∧ (parseMethodDescriptor yX10_thrown.desc).map (fun d => d.parameters.length) = some 0 := by decide +kernel
set_option maxRecDepth 100000 in
set_option maxHeartbeats 4000000 in
theorem c_X10_thrown {l : Launch} {D : va_G} {cA : Nat → ClassId} {ad : Nat → Nat → Nat} {A : Nat → Prop} (ax : Ax ad GM A)  (mm : Mm) (Q9 : Int32 → Prop) (h : w_X10_thrown mm Q9) : Met l yX10_thrown (.code yX10_thrown cX10_thrown 1 (some .int) :: TG) rm_X10_thrown (PcM TT D cA ad false GM (ZM) [.ref (ad 30 1)] mm) (AnsI TT D cA ad false GM A (fun r mm' => Q9 r ∧ mm = mm')) 0 0 A := by
  have zo := ZM_ok A
  unfold w_X10_thrown at h
  refine enterI pl_X10 ⟨rfl, rfl⟩ rfl (Nat.le_of_ble_eq_true rfl) ?_
  intro p e s m args below meth c QQ X hK hZ hnm hE
  refine q_aload_n (j := 0) X dX10_thrown_0 rfl rfl ?_
  refine q_get (k := 0) (v := .int (mm.1 30 1 0)) X hK rfl rfl (Nat.le_of_ble_eq_true rfl) inTX10 (gm (t := 30) (by decide) (ok1 (t := 30) (Nat.le_of_ble_eq_true rfl))) kw_7_7 rfl rfl dX10_thrown_1 ?_
  exact hE _ _ _ _ dX10_thrown_4 ⟨h, rfl⟩
theorem dX10_refused_0 : decode cX10_refused 0 = .ok (.aload_n 0, 1) := by decide +kernel
theorem dX10_refused_1 : decode cX10_refused 1 = .ok (.iload_n 1, 1) := by decide +kernel
theorem dX10_refused_2 : decode cX10_refused 2 = .ok (.putfield 29, 3) := by decide +kernel
theorem dX10_refused_5 : decode cX10_refused 5 = .ok (.iload_n 1, 1) := by decide +kernel
theorem dX10_refused_6 : decode cX10_refused 6 = .ok (.ifCond .le 7, 3) := by decide +kernel
theorem dX10_refused_9 : decode cX10_refused 9 = .ok (.iconst 1, 1) := by decide +kernel
theorem dX10_refused_10 : decode cX10_refused 10 = .ok (.goto 4, 3) := by decide +kernel
theorem dX10_refused_13 : decode cX10_refused 13 = .ok (.iconst 0, 1) := by decide +kernel
theorem dX10_refused_14 : decode cX10_refused 14 = .ok (.ireturn, 1) := by decide +kernel
def w_X10_refused (p0 : Int32) (mm : Mm) (Q9 : Int32 → Mm → Prop) : Prop :=
  ∀ m_1 : Mm, m_1 = sI mm 30 1 0 p0 → (((p0 ≤ 0 → Q9 0 m_1) ∧
  (¬ p0 ≤ 0 → Q9 1 m_1)))
def rm_X10_refused : Room := { frames := 0, cells := 0, slots := 0, locals := 0 }
theorem hy_X10_refused : yX10_refused.cls = RX10 ∧ yX10_refused.cls ≠ "java/lang/invoke/MethodHandle" ∧ yX10_refused.cls ≠ "java/lang/invoke/VarHandle" ∧ (parseMethodDescriptor yX10_refused.desc).map (fun d => d.parameters.length) = some 1 := by decide +kernel
set_option maxRecDepth 100000 in
set_option maxHeartbeats 4000000 in
theorem c_X10_refused {l : Launch} {D : va_G} {cA : Nat → ClassId} {ad : Nat → Nat → Nat} {A : Nat → Prop} (ax : Ax ad GM A) (p0 : Int32) (mm : Mm) (Q9 : Int32 → Mm → Prop) (h : w_X10_refused p0 mm Q9) : Met l yX10_refused (.code yX10_refused cX10_refused 2 (some .boolean) :: TG) rm_X10_refused (PcM TT D cA ad false GM (ZM) [.ref (ad 30 1), .int p0] mm) (AnsI TT D cA ad false GM A Q9) 0 0 A := by
  have zo := ZM_ok A
  unfold w_X10_refused at h
  refine enterZ pl_X10 ⟨rfl, rfl⟩ rfl (Nat.le_of_ble_eq_true rfl) ?_
  intro p e s m args below meth c QQ X hK hZ hnm hE
  refine q_aload_n (j := 0) X dX10_refused_0 rfl rfl ?_
  refine q_iload_n (j := 1) X dX10_refused_1 rfl rfl ?_
  refine q_putI (k := 0) X ax hK rfl rfl (Nat.le_of_ble_eq_true rfl) inTX10 (gm (t := 30) (by decide) (ok1 (t := 30) (Nat.le_of_ble_eq_true rfl))) tyX10 tyX10_ok nmX10 kw_7_7 rfl rfl (tyX10_ok 0 (Nat.le_of_ble_eq_true rfl)) rfl dX10_refused_2 ?_
  refine q_nmP (fun m_1 em_1 => ?_)
  have h := h m_1 em_1
  refine q_iload_n (j := 1) X dX10_refused_5 rfl rfl ?_
  refine q_if_le (tgt := 13) X dX10_refused_6 (by decide) (fun c_2 => ?_) (fun c_2 => ?_)
  · have h := h.1 c_2
    refine q_iconst (v := 0) X dX10_refused_13 (by decide) ?_
    exact hE _ _ _ _ dX10_refused_14 (Or.inl rfl) h
  · have h := h.2 c_2
    refine q_iconst (v := 1) X dX10_refused_9 (by decide) ?_
    refine q_goto (tgt := 14) X dX10_refused_10 (by decide) ?_
    exact hE _ _ _ _ dX10_refused_14 (Or.inr rfl) h
theorem dX10_in_0 : decode cX10_in 0 = .ok (.lload_n 0, 1) := by decide +kernel
theorem dX10_in_1 : decode cX10_in 1 = .ok (.lload_n 2, 1) := by decide +kernel
theorem dX10_in_2 : decode cX10_in 2 = .ok (.lcmp, 1) := by decide +kernel
theorem dX10_in_3 : decode cX10_in 3 = .ok (.ifCond .lt 14, 3) := by decide +kernel
theorem dX10_in_6 : decode cX10_in 6 = .ok (.lload_n 0, 1) := by decide +kernel
theorem dX10_in_7 : decode cX10_in 7 = .ok (.lload 4, 2) := by decide +kernel
theorem dX10_in_9 : decode cX10_in 9 = .ok (.lcmp, 1) := by decide +kernel
theorem dX10_in_10 : decode cX10_in 10 = .ok (.ifCond .gt 7, 3) := by decide +kernel
theorem dX10_in_13 : decode cX10_in 13 = .ok (.iconst 1, 1) := by decide +kernel
theorem dX10_in_14 : decode cX10_in 14 = .ok (.goto 4, 3) := by decide +kernel
theorem dX10_in_17 : decode cX10_in 17 = .ok (.iconst 0, 1) := by decide +kernel
theorem dX10_in_18 : decode cX10_in 18 = .ok (.ireturn, 1) := by decide +kernel
def w_X10_in (p0 : Int64) (p1 : Int64) (p2 : Int64) (mm : Mm) (Q9 : Int32 → Prop) : Prop :=
  (((lg_cmp p0 p1) < 0 → Q9 0) ∧
  (¬ (lg_cmp p0 p1) < 0 → ((0 < (lg_cmp p0 p2) → Q9 0) ∧
  (¬ 0 < (lg_cmp p0 p2) → Q9 1))))
def rm_X10_in : Room := { frames := 0, cells := 0, slots := 0, locals := 0 }
theorem hy_X10_in : yX10_in.cls = RX10 ∧ yX10_in.cls ≠ "java/lang/invoke/MethodHandle" ∧ yX10_in.cls ≠ "java/lang/invoke/VarHandle" ∧ (parseMethodDescriptor yX10_in.desc).map (fun d => d.parameters.length) = some 3 := by decide +kernel
set_option maxRecDepth 100000 in
set_option maxHeartbeats 4000000 in
theorem c_X10_in {l : Launch} {D : va_G} {cA : Nat → ClassId} {ad : Nat → Nat → Nat} {A : Nat → Prop} (ax : Ax ad GM A) (p0 : Int64) (p1 : Int64) (p2 : Int64) (mm : Mm) (Q9 : Int32 → Prop) (h : w_X10_in p0 p1 p2 mm Q9) : Met l yX10_in (.code yX10_in cX10_in 6 (some .boolean) :: TG) rm_X10_in (PcM TT D cA ad false GM (ZM) [.long p0, .long p1, .long p2] mm) (AnsI TT D cA ad false GM A (fun r mm' => Q9 r ∧ mm = mm')) 0 0 A := by
  have zo := ZM_ok A
  unfold w_X10_in at h
  refine enterZ pl_X10 ⟨rfl, rfl⟩ rfl (Nat.le_of_ble_eq_true rfl) ?_
  intro p e s m args below meth c QQ X hK hZ hnm hE
  refine q_lload_n (j := 0) X dX10_in_0 rfl rfl ?_
  refine q_lload_n (j := 1) X dX10_in_1 rfl rfl ?_
  refine q_lcmp X dX10_in_2 ?_
  refine q_if_lt (tgt := 17) X dX10_in_3 (by decide) (fun c_1 => ?_) (fun c_1 => ?_)
  · have h := h.1 c_1
    refine q_iconst (v := 0) X dX10_in_17 (by decide) ?_
    exact hE _ _ _ _ dX10_in_18 (Or.inl rfl) ⟨h, rfl⟩
  · have h := h.2 c_1
    refine q_lload_n (j := 0) X dX10_in_6 rfl rfl ?_
    refine q_lload (j := 2) X dX10_in_7 rfl ?_
    refine q_lcmp X dX10_in_9 ?_
    refine q_if_gt (tgt := 17) X dX10_in_10 (by decide) (fun c_2 => ?_) (fun c_2 => ?_)
    · have h := h.1 c_2
      refine q_iconst (v := 0) X dX10_in_17 (by decide) ?_
      exact hE _ _ _ _ dX10_in_18 (Or.inl rfl) ⟨h, rfl⟩
    · have h := h.2 c_2
      refine q_iconst (v := 1) X dX10_in_13 (by decide) ?_
      refine q_goto (tgt := 18) X dX10_in_14 (by decide) ?_
      exact hE _ _ _ _ dX10_in_18 (Or.inr rfl) ⟨h, rfl⟩
theorem dX10_copyState_0 : decode cX10_copyState 0 = .ok (.iconst 0, 1) := by decide +kernel
theorem dX10_copyState_1 : decode cX10_copyState 1 = .ok (.istore 4, 2) := by decide +kernel
theorem dX10_copyState_3 : decode cX10_copyState 3 = .ok (.iload 4, 2) := by decide +kernel
theorem dX10_copyState_5 : decode cX10_copyState 5 = .ok (.sipush 246, 3) := by decide +kernel
theorem dX10_copyState_8 : decode cX10_copyState 8 = .ok (.if_icmp .ge 21, 3) := by decide +kernel
theorem dX10_copyState_11 : decode cX10_copyState 11 = .ok (.aload_n 2, 1) := by decide +kernel
theorem dX10_copyState_12 : decode cX10_copyState 12 = .ok (.iload_n 3, 1) := by decide +kernel
theorem dX10_copyState_13 : decode cX10_copyState 13 = .ok (.iload 4, 2) := by decide +kernel
theorem dX10_copyState_15 : decode cX10_copyState 15 = .ok (.iadd, 1) := by decide +kernel
theorem dX10_copyState_16 : decode cX10_copyState 16 = .ok (.aload_n 0, 1) := by decide +kernel
theorem dX10_copyState_17 : decode cX10_copyState 17 = .ok (.iload_n 1, 1) := by decide +kernel
theorem dX10_copyState_18 : decode cX10_copyState 18 = .ok (.iload 4, 2) := by decide +kernel
theorem dX10_copyState_20 : decode cX10_copyState 20 = .ok (.iadd, 1) := by decide +kernel
theorem dX10_copyState_21 : decode cX10_copyState 21 = .ok (.iaload, 1) := by decide +kernel
theorem dX10_copyState_22 : decode cX10_copyState 22 = .ok (.iastore, 1) := by decide +kernel
theorem dX10_copyState_23 : decode cX10_copyState 23 = .ok (.iinc 4 1, 3) := by decide +kernel
theorem dX10_copyState_26 : decode cX10_copyState 26 = .ok (.goto (-23), 3) := by decide +kernel
theorem dX10_copyState_29 : decode cX10_copyState 29 = .ok (.return_, 1) := by decide +kernel
def w_X10_copyState_32_33_B3 (p1 : Int32) (p3 : Int32) (Q9 : Mm → Prop) (K_3 : Int32 → Mm → Prop) (y_1 : Int32) (m_2 : Mm) : Prop :=
  ((246 ≤ y_1 → Q9 m_2) ∧
  (¬ 246 ≤ y_1 → vp_in (p1 + y_1) 246 ∧ (vp_in (p3 + y_1) 1476 ∧ ∀ m_8 : Mm, m_8 = sI m_2 33 1 (p3 + y_1).toNatClampNeg (m_2.1 32 1 (p1 + y_1).toNatClampNeg) → (∀ x_9 : Int32, x_9 = y_1 + 1 → (K_3 x_9 m_8)))))
def w_X10_copyState_32_33 (p1 : Int32) (p3 : Int32) (mm : Mm) (Q9 : Mm → Prop) : Prop :=
  ∃ n, itr (α := Int32 × Mm) (fun K a => w_X10_copyState_32_33_B3 p1 p3 Q9 (fun z0 z1 => K (z0, z1)) a.1 a.2) n (0, mm)
def rm_X10_copyState_32_33 : Room := { frames := 0, cells := 0, slots := 0, locals := 0 }
theorem hy_X10_copyState : yX10_copyState.cls = RX10 ∧ yX10_copyState.cls ≠ "java/lang/invoke/MethodHandle" ∧ yX10_copyState.cls ≠ "java/lang/invoke/VarHandle" ∧ (parseMethodDescriptor yX10_copyState.desc).map (fun d => d.parameters.length) = some 4 := by decide +kernel
set_option maxRecDepth 100000 in
set_option maxHeartbeats 4000000 in
theorem c_X10_copyState_32_33 {l : Launch} {D : va_G} {cA : Nat → ClassId} {ad : Nat → Nat → Nat} {A : Nat → Prop} (ax : Ax ad GM A) (p1 : Int32) (p3 : Int32) (mm : Mm) (Q9 : Mm → Prop) (h : w_X10_copyState_32_33 p1 p3 mm Q9) : Met l yX10_copyState (.code yX10_copyState cX10_copyState 5 none :: TG) rm_X10_copyState_32_33 (PcM TT D cA ad false GM (ZM) [.ref (ad 32 1), .int p1, .ref (ad 33 1), .int p3] mm) (AnsV TT D cA ad false GM A Q9) 0 0 A := by
  have zo := ZM_ok A
  unfold w_X10_copyState_32_33 at h
  refine enterV pl_X10 ⟨rfl, rfl⟩ rfl (Nat.le_of_ble_eq_true rfl) ?_
  intro p e s m args below meth c QQ X hK hZ hnm hE
  refine q_iconst (v := 0) X dX10_copyState_0 (by decide) ?_
  refine q_istore (lv' := [(4, .int 0), (0, .ref (ad 32 1)), (1, .int p1), (2, .ref (ad 33 1)), (3, .int p3)]) X dX10_copyState_1 (by decide) rfl ?_
  refine q_sub [1, 2, 3, 4, 0] rfl ?_
  have L3 : ∀ (n : Nat) (y_1 : Int32) (m_2 : Mm), itr (α := Int32 × Mm) (fun K a => w_X10_copyState_32_33_B3 p1 p3 Q9 (fun z0 z1 => K (z0, z1)) a.1 a.2) n (y_1, m_2) → V p l e rm_X10_copyState_32_33 s m args below meth c QQ 5 A 0 0 (Rep TT D cA ad false GM m_2) 3 [(0, .ref (ad 32 1)), (1, .int p1), (2, .ref (ad 33 1)), (3, .int p3), (4, .int y_1)] [] := by
    intro n
    induction n with
    | zero => intro y_1 m_2 h; exact h.elim
    | succ n ih_4 =>
      intro y_1 m_2 h
      have h : w_X10_copyState_32_33_B3 p1 p3 Q9 (fun z0 z1 => itr (α := Int32 × Mm) (fun K a => w_X10_copyState_32_33_B3 p1 p3 Q9 (fun z0 z1 => K (z0, z1)) a.1 a.2) n (z0, z1)) y_1 m_2 := h
      unfold w_X10_copyState_32_33_B3 at h
      refine q_iload (j := 4) X dX10_copyState_3 rfl ?_
      refine q_sipush (v := 246) X dX10_copyState_5 (by decide) ?_
      refine q_icmp_ge (tgt := 29) X dX10_copyState_8 (by decide) (fun c_5 => ?_) (fun c_5 => ?_)
      · have h := h.1 c_5
        exact hE _ _ _ dX10_copyState_29 h
      · have h := h.2 c_5
        refine q_aload_n (j := 2) X dX10_copyState_11 rfl rfl ?_
        refine q_iload_n (j := 3) X dX10_copyState_12 rfl rfl ?_
        refine q_iload (j := 4) X dX10_copyState_13 rfl ?_
        refine q_iadd X dX10_copyState_15 ?_
        refine q_aload_n (j := 0) X dX10_copyState_16 rfl rfl ?_
        refine q_iload_n (j := 1) X dX10_copyState_17 rfl rfl ?_
        refine q_iload (j := 4) X dX10_copyState_18 rfl ?_
        refine q_iadd X dX10_copyState_20 ?_
        obtain ⟨b_6, h⟩ := h
        refine q_iald (t := 32) (i := 1) (jn := (p1 + y_1).toNatClampNeg) (v := .int (m_2.1 32 1 (p1 + y_1).toNatClampNeg)) X hK rfl rfl (gm (t := 32) (by decide) (ok1 (t := 32) (Nat.le_of_ble_eq_true rfl))) rfl b_6 rfl rfl dX10_copyState_21 ?_
        obtain ⟨b_7, h⟩ := h
        refine q_iast (t := 33) (i := 1) (jn := (p3 + y_1).toNatClampNeg) X ax hK rfl rfl (gm (t := 33) (by decide) (ok1 (t := 33) (Nat.le_of_ble_eq_true rfl))) rfl b_7 rfl rfl dX10_copyState_22 ?_
        refine q_nmP (fun m_8 em_8 => ?_)
        have h := h m_8 em_8
        obtain ⟨x_9, ex_9⟩ : ∃ z : Int32, z = y_1 + 1 := ⟨_, rfl⟩
        have h := h x_9 ex_9
        refine q_iinc (j := 4) (v := x_9) (lv' := [(4, .int x_9), (0, .ref (ad 32 1)), (1, .int p1), (2, .ref (ad 33 1)), (3, .int p3)]) X dX10_copyState_23 rfl (by rw [ex_9]; rfl) (by decide) rfl ?_
        refine q_goto (tgt := 3) X dX10_copyState_26 (by decide) ?_
        refine q_sub [1, 2, 3, 4, 0] rfl ?_
        exact ih_4 x_9 m_8 h
  obtain ⟨n_10, h⟩ := h
  exact L3 n_10 0 mm h
def w_X10_copyState_33_32_B3 (p1 : Int32) (p3 : Int32) (Q9 : Mm → Prop) (K_3 : Int32 → Mm → Prop) (y_1 : Int32) (m_2 : Mm) : Prop :=
  ((246 ≤ y_1 → Q9 m_2) ∧
  (¬ 246 ≤ y_1 → vp_in (p1 + y_1) 1476 ∧ (vp_in (p3 + y_1) 246 ∧ ∀ m_8 : Mm, m_8 = sI m_2 32 1 (p3 + y_1).toNatClampNeg (m_2.1 33 1 (p1 + y_1).toNatClampNeg) → (∀ x_9 : Int32, x_9 = y_1 + 1 → (K_3 x_9 m_8)))))
def w_X10_copyState_33_32 (p1 : Int32) (p3 : Int32) (mm : Mm) (Q9 : Mm → Prop) : Prop :=
  ∃ n, itr (α := Int32 × Mm) (fun K a => w_X10_copyState_33_32_B3 p1 p3 Q9 (fun z0 z1 => K (z0, z1)) a.1 a.2) n (0, mm)
def rm_X10_copyState_33_32 : Room := { frames := 0, cells := 0, slots := 0, locals := 0 }
set_option maxRecDepth 100000 in
set_option maxHeartbeats 4000000 in
theorem c_X10_copyState_33_32 {l : Launch} {D : va_G} {cA : Nat → ClassId} {ad : Nat → Nat → Nat} {A : Nat → Prop} (ax : Ax ad GM A) (p1 : Int32) (p3 : Int32) (mm : Mm) (Q9 : Mm → Prop) (h : w_X10_copyState_33_32 p1 p3 mm Q9) : Met l yX10_copyState (.code yX10_copyState cX10_copyState 5 none :: TG) rm_X10_copyState_33_32 (PcM TT D cA ad false GM (ZM) [.ref (ad 33 1), .int p1, .ref (ad 32 1), .int p3] mm) (AnsV TT D cA ad false GM A Q9) 0 0 A := by
  have zo := ZM_ok A
  unfold w_X10_copyState_33_32 at h
  refine enterV pl_X10 ⟨rfl, rfl⟩ rfl (Nat.le_of_ble_eq_true rfl) ?_
  intro p e s m args below meth c QQ X hK hZ hnm hE
  refine q_iconst (v := 0) X dX10_copyState_0 (by decide) ?_
  refine q_istore (lv' := [(4, .int 0), (0, .ref (ad 33 1)), (1, .int p1), (2, .ref (ad 32 1)), (3, .int p3)]) X dX10_copyState_1 (by decide) rfl ?_
  refine q_sub [1, 2, 3, 4, 0] rfl ?_
  have L3 : ∀ (n : Nat) (y_1 : Int32) (m_2 : Mm), itr (α := Int32 × Mm) (fun K a => w_X10_copyState_33_32_B3 p1 p3 Q9 (fun z0 z1 => K (z0, z1)) a.1 a.2) n (y_1, m_2) → V p l e rm_X10_copyState_33_32 s m args below meth c QQ 5 A 0 0 (Rep TT D cA ad false GM m_2) 3 [(0, .ref (ad 33 1)), (1, .int p1), (2, .ref (ad 32 1)), (3, .int p3), (4, .int y_1)] [] := by
    intro n
    induction n with
    | zero => intro y_1 m_2 h; exact h.elim
    | succ n ih_4 =>
      intro y_1 m_2 h
      have h : w_X10_copyState_33_32_B3 p1 p3 Q9 (fun z0 z1 => itr (α := Int32 × Mm) (fun K a => w_X10_copyState_33_32_B3 p1 p3 Q9 (fun z0 z1 => K (z0, z1)) a.1 a.2) n (z0, z1)) y_1 m_2 := h
      unfold w_X10_copyState_33_32_B3 at h
      refine q_iload (j := 4) X dX10_copyState_3 rfl ?_
      refine q_sipush (v := 246) X dX10_copyState_5 (by decide) ?_
      refine q_icmp_ge (tgt := 29) X dX10_copyState_8 (by decide) (fun c_5 => ?_) (fun c_5 => ?_)
      · have h := h.1 c_5
        exact hE _ _ _ dX10_copyState_29 h
      · have h := h.2 c_5
        refine q_aload_n (j := 2) X dX10_copyState_11 rfl rfl ?_
        refine q_iload_n (j := 3) X dX10_copyState_12 rfl rfl ?_
        refine q_iload (j := 4) X dX10_copyState_13 rfl ?_
        refine q_iadd X dX10_copyState_15 ?_
        refine q_aload_n (j := 0) X dX10_copyState_16 rfl rfl ?_
        refine q_iload_n (j := 1) X dX10_copyState_17 rfl rfl ?_
        refine q_iload (j := 4) X dX10_copyState_18 rfl ?_
        refine q_iadd X dX10_copyState_20 ?_
        obtain ⟨b_6, h⟩ := h
        refine q_iald (t := 33) (i := 1) (jn := (p1 + y_1).toNatClampNeg) (v := .int (m_2.1 33 1 (p1 + y_1).toNatClampNeg)) X hK rfl rfl (gm (t := 33) (by decide) (ok1 (t := 33) (Nat.le_of_ble_eq_true rfl))) rfl b_6 rfl rfl dX10_copyState_21 ?_
        obtain ⟨b_7, h⟩ := h
        refine q_iast (t := 32) (i := 1) (jn := (p3 + y_1).toNatClampNeg) X ax hK rfl rfl (gm (t := 32) (by decide) (ok1 (t := 32) (Nat.le_of_ble_eq_true rfl))) rfl b_7 rfl rfl dX10_copyState_22 ?_
        refine q_nmP (fun m_8 em_8 => ?_)
        have h := h m_8 em_8
        obtain ⟨x_9, ex_9⟩ : ∃ z : Int32, z = y_1 + 1 := ⟨_, rfl⟩
        have h := h x_9 ex_9
        refine q_iinc (j := 4) (v := x_9) (lv' := [(4, .int x_9), (0, .ref (ad 33 1)), (1, .int p1), (2, .ref (ad 32 1)), (3, .int p3)]) X dX10_copyState_23 rfl (by rw [ex_9]; rfl) (by decide) rfl ?_
        refine q_goto (tgt := 3) X dX10_copyState_26 (by decide) ?_
        refine q_sub [1, 2, 3, 4, 0] rfl ?_
        exact ih_4 x_9 m_8 h
  obtain ⟨n_10, h⟩ := h
  exact L3 n_10 0 mm h
def w_X10_copyState_32_34_B3 (p1 : Int32) (p3 : Int32) (Q9 : Mm → Prop) (K_3 : Int32 → Mm → Prop) (y_1 : Int32) (m_2 : Mm) : Prop :=
  ((246 ≤ y_1 → Q9 m_2) ∧
  (¬ 246 ≤ y_1 → vp_in (p1 + y_1) 246 ∧ (vp_in (p3 + y_1) 492 ∧ ∀ m_8 : Mm, m_8 = sI m_2 34 1 (p3 + y_1).toNatClampNeg (m_2.1 32 1 (p1 + y_1).toNatClampNeg) → (∀ x_9 : Int32, x_9 = y_1 + 1 → (K_3 x_9 m_8)))))
def w_X10_copyState_32_34 (p1 : Int32) (p3 : Int32) (mm : Mm) (Q9 : Mm → Prop) : Prop :=
  ∃ n, itr (α := Int32 × Mm) (fun K a => w_X10_copyState_32_34_B3 p1 p3 Q9 (fun z0 z1 => K (z0, z1)) a.1 a.2) n (0, mm)
def rm_X10_copyState_32_34 : Room := { frames := 0, cells := 0, slots := 0, locals := 0 }
set_option maxRecDepth 100000 in
set_option maxHeartbeats 4000000 in
theorem c_X10_copyState_32_34 {l : Launch} {D : va_G} {cA : Nat → ClassId} {ad : Nat → Nat → Nat} {A : Nat → Prop} (ax : Ax ad GM A) (p1 : Int32) (p3 : Int32) (mm : Mm) (Q9 : Mm → Prop) (h : w_X10_copyState_32_34 p1 p3 mm Q9) : Met l yX10_copyState (.code yX10_copyState cX10_copyState 5 none :: TG) rm_X10_copyState_32_34 (PcM TT D cA ad false GM (ZM) [.ref (ad 32 1), .int p1, .ref (ad 34 1), .int p3] mm) (AnsV TT D cA ad false GM A Q9) 0 0 A := by
  have zo := ZM_ok A
  unfold w_X10_copyState_32_34 at h
  refine enterV pl_X10 ⟨rfl, rfl⟩ rfl (Nat.le_of_ble_eq_true rfl) ?_
  intro p e s m args below meth c QQ X hK hZ hnm hE
  refine q_iconst (v := 0) X dX10_copyState_0 (by decide) ?_
  refine q_istore (lv' := [(4, .int 0), (0, .ref (ad 32 1)), (1, .int p1), (2, .ref (ad 34 1)), (3, .int p3)]) X dX10_copyState_1 (by decide) rfl ?_
  refine q_sub [1, 2, 3, 4, 0] rfl ?_
  have L3 : ∀ (n : Nat) (y_1 : Int32) (m_2 : Mm), itr (α := Int32 × Mm) (fun K a => w_X10_copyState_32_34_B3 p1 p3 Q9 (fun z0 z1 => K (z0, z1)) a.1 a.2) n (y_1, m_2) → V p l e rm_X10_copyState_32_34 s m args below meth c QQ 5 A 0 0 (Rep TT D cA ad false GM m_2) 3 [(0, .ref (ad 32 1)), (1, .int p1), (2, .ref (ad 34 1)), (3, .int p3), (4, .int y_1)] [] := by
    intro n
    induction n with
    | zero => intro y_1 m_2 h; exact h.elim
    | succ n ih_4 =>
      intro y_1 m_2 h
      have h : w_X10_copyState_32_34_B3 p1 p3 Q9 (fun z0 z1 => itr (α := Int32 × Mm) (fun K a => w_X10_copyState_32_34_B3 p1 p3 Q9 (fun z0 z1 => K (z0, z1)) a.1 a.2) n (z0, z1)) y_1 m_2 := h
      unfold w_X10_copyState_32_34_B3 at h
      refine q_iload (j := 4) X dX10_copyState_3 rfl ?_
      refine q_sipush (v := 246) X dX10_copyState_5 (by decide) ?_
      refine q_icmp_ge (tgt := 29) X dX10_copyState_8 (by decide) (fun c_5 => ?_) (fun c_5 => ?_)
      · have h := h.1 c_5
        exact hE _ _ _ dX10_copyState_29 h
      · have h := h.2 c_5
        refine q_aload_n (j := 2) X dX10_copyState_11 rfl rfl ?_
        refine q_iload_n (j := 3) X dX10_copyState_12 rfl rfl ?_
        refine q_iload (j := 4) X dX10_copyState_13 rfl ?_
        refine q_iadd X dX10_copyState_15 ?_
        refine q_aload_n (j := 0) X dX10_copyState_16 rfl rfl ?_
        refine q_iload_n (j := 1) X dX10_copyState_17 rfl rfl ?_
        refine q_iload (j := 4) X dX10_copyState_18 rfl ?_
        refine q_iadd X dX10_copyState_20 ?_
        obtain ⟨b_6, h⟩ := h
        refine q_iald (t := 32) (i := 1) (jn := (p1 + y_1).toNatClampNeg) (v := .int (m_2.1 32 1 (p1 + y_1).toNatClampNeg)) X hK rfl rfl (gm (t := 32) (by decide) (ok1 (t := 32) (Nat.le_of_ble_eq_true rfl))) rfl b_6 rfl rfl dX10_copyState_21 ?_
        obtain ⟨b_7, h⟩ := h
        refine q_iast (t := 34) (i := 1) (jn := (p3 + y_1).toNatClampNeg) X ax hK rfl rfl (gm (t := 34) (by decide) (ok1 (t := 34) (Nat.le_of_ble_eq_true rfl))) rfl b_7 rfl rfl dX10_copyState_22 ?_
        refine q_nmP (fun m_8 em_8 => ?_)
        have h := h m_8 em_8
        obtain ⟨x_9, ex_9⟩ : ∃ z : Int32, z = y_1 + 1 := ⟨_, rfl⟩
        have h := h x_9 ex_9
        refine q_iinc (j := 4) (v := x_9) (lv' := [(4, .int x_9), (0, .ref (ad 32 1)), (1, .int p1), (2, .ref (ad 34 1)), (3, .int p3)]) X dX10_copyState_23 rfl (by rw [ex_9]; rfl) (by decide) rfl ?_
        refine q_goto (tgt := 3) X dX10_copyState_26 (by decide) ?_
        refine q_sub [1, 2, 3, 4, 0] rfl ?_
        exact ih_4 x_9 m_8 h
  obtain ⟨n_10, h⟩ := h
  exact L3 n_10 0 mm h
def w_X10_copyState_34_32_B3 (p1 : Int32) (p3 : Int32) (Q9 : Mm → Prop) (K_3 : Int32 → Mm → Prop) (y_1 : Int32) (m_2 : Mm) : Prop :=
  ((246 ≤ y_1 → Q9 m_2) ∧
  (¬ 246 ≤ y_1 → vp_in (p1 + y_1) 492 ∧ (vp_in (p3 + y_1) 246 ∧ ∀ m_8 : Mm, m_8 = sI m_2 32 1 (p3 + y_1).toNatClampNeg (m_2.1 34 1 (p1 + y_1).toNatClampNeg) → (∀ x_9 : Int32, x_9 = y_1 + 1 → (K_3 x_9 m_8)))))
def w_X10_copyState_34_32 (p1 : Int32) (p3 : Int32) (mm : Mm) (Q9 : Mm → Prop) : Prop :=
  ∃ n, itr (α := Int32 × Mm) (fun K a => w_X10_copyState_34_32_B3 p1 p3 Q9 (fun z0 z1 => K (z0, z1)) a.1 a.2) n (0, mm)
def rm_X10_copyState_34_32 : Room := { frames := 0, cells := 0, slots := 0, locals := 0 }
set_option maxRecDepth 100000 in
set_option maxHeartbeats 4000000 in
theorem c_X10_copyState_34_32 {l : Launch} {D : va_G} {cA : Nat → ClassId} {ad : Nat → Nat → Nat} {A : Nat → Prop} (ax : Ax ad GM A) (p1 : Int32) (p3 : Int32) (mm : Mm) (Q9 : Mm → Prop) (h : w_X10_copyState_34_32 p1 p3 mm Q9) : Met l yX10_copyState (.code yX10_copyState cX10_copyState 5 none :: TG) rm_X10_copyState_34_32 (PcM TT D cA ad false GM (ZM) [.ref (ad 34 1), .int p1, .ref (ad 32 1), .int p3] mm) (AnsV TT D cA ad false GM A Q9) 0 0 A := by
  have zo := ZM_ok A
  unfold w_X10_copyState_34_32 at h
  refine enterV pl_X10 ⟨rfl, rfl⟩ rfl (Nat.le_of_ble_eq_true rfl) ?_
  intro p e s m args below meth c QQ X hK hZ hnm hE
  refine q_iconst (v := 0) X dX10_copyState_0 (by decide) ?_
  refine q_istore (lv' := [(4, .int 0), (0, .ref (ad 34 1)), (1, .int p1), (2, .ref (ad 32 1)), (3, .int p3)]) X dX10_copyState_1 (by decide) rfl ?_
  refine q_sub [1, 2, 3, 4, 0] rfl ?_
  have L3 : ∀ (n : Nat) (y_1 : Int32) (m_2 : Mm), itr (α := Int32 × Mm) (fun K a => w_X10_copyState_34_32_B3 p1 p3 Q9 (fun z0 z1 => K (z0, z1)) a.1 a.2) n (y_1, m_2) → V p l e rm_X10_copyState_34_32 s m args below meth c QQ 5 A 0 0 (Rep TT D cA ad false GM m_2) 3 [(0, .ref (ad 34 1)), (1, .int p1), (2, .ref (ad 32 1)), (3, .int p3), (4, .int y_1)] [] := by
    intro n
    induction n with
    | zero => intro y_1 m_2 h; exact h.elim
    | succ n ih_4 =>
      intro y_1 m_2 h
      have h : w_X10_copyState_34_32_B3 p1 p3 Q9 (fun z0 z1 => itr (α := Int32 × Mm) (fun K a => w_X10_copyState_34_32_B3 p1 p3 Q9 (fun z0 z1 => K (z0, z1)) a.1 a.2) n (z0, z1)) y_1 m_2 := h
      unfold w_X10_copyState_34_32_B3 at h
      refine q_iload (j := 4) X dX10_copyState_3 rfl ?_
      refine q_sipush (v := 246) X dX10_copyState_5 (by decide) ?_
      refine q_icmp_ge (tgt := 29) X dX10_copyState_8 (by decide) (fun c_5 => ?_) (fun c_5 => ?_)
      · have h := h.1 c_5
        exact hE _ _ _ dX10_copyState_29 h
      · have h := h.2 c_5
        refine q_aload_n (j := 2) X dX10_copyState_11 rfl rfl ?_
        refine q_iload_n (j := 3) X dX10_copyState_12 rfl rfl ?_
        refine q_iload (j := 4) X dX10_copyState_13 rfl ?_
        refine q_iadd X dX10_copyState_15 ?_
        refine q_aload_n (j := 0) X dX10_copyState_16 rfl rfl ?_
        refine q_iload_n (j := 1) X dX10_copyState_17 rfl rfl ?_
        refine q_iload (j := 4) X dX10_copyState_18 rfl ?_
        refine q_iadd X dX10_copyState_20 ?_
        obtain ⟨b_6, h⟩ := h
        refine q_iald (t := 34) (i := 1) (jn := (p1 + y_1).toNatClampNeg) (v := .int (m_2.1 34 1 (p1 + y_1).toNatClampNeg)) X hK rfl rfl (gm (t := 34) (by decide) (ok1 (t := 34) (Nat.le_of_ble_eq_true rfl))) rfl b_6 rfl rfl dX10_copyState_21 ?_
        obtain ⟨b_7, h⟩ := h
        refine q_iast (t := 32) (i := 1) (jn := (p3 + y_1).toNatClampNeg) X ax hK rfl rfl (gm (t := 32) (by decide) (ok1 (t := 32) (Nat.le_of_ble_eq_true rfl))) rfl b_7 rfl rfl dX10_copyState_22 ?_
        refine q_nmP (fun m_8 em_8 => ?_)
        have h := h m_8 em_8
        obtain ⟨x_9, ex_9⟩ : ∃ z : Int32, z = y_1 + 1 := ⟨_, rfl⟩
        have h := h x_9 ex_9
        refine q_iinc (j := 4) (v := x_9) (lv' := [(4, .int x_9), (0, .ref (ad 34 1)), (1, .int p1), (2, .ref (ad 32 1)), (3, .int p3)]) X dX10_copyState_23 rfl (by rw [ex_9]; rfl) (by decide) rfl ?_
        refine q_goto (tgt := 3) X dX10_copyState_26 (by decide) ?_
        refine q_sub [1, 2, 3, 4, 0] rfl ?_
        exact ih_4 x_9 m_8 h
  obtain ⟨n_10, h⟩ := h
  exact L3 n_10 0 mm h
theorem dX10_isKind_0 : decode cX10_isKind 0 = .ok (.iload_n 0, 1) := by decide +kernel
theorem dX10_isKind_1 : decode cX10_isKind 1 = .ok (.i2l, 1) := by decide +kernel
theorem dX10_isKind_2 : decode cX10_isKind 2 = .ok (.lconst 0, 1) := by decide +kernel
theorem dX10_isKind_3 : decode cX10_isKind 3 = .ok (.ldc2_w 33, 3) := by decide +kernel
theorem dX10_isKind_6 : decode cX10_isKind 6 = .ok (.invokestatic 35, 3) := by decide +kernel
theorem dX10_isKind_9 : decode cX10_isKind 9 = .ok (.ireturn, 1) := by decide +kernel
def w_X10_isKind (p0 : Int32) (mm : Mm) (Q9 : Int32 → Prop) : Prop :=
  w_X10_in (Int32.toInt64 p0) (0 : Int64) (5 : Int64) mm (fun (r_1 : Int32) => isB r_1 ∧ Q9 r_1)
def rm_X10_isKind : Room := { frames := 1, cells := 0, slots := 0, locals := 25 }
theorem hy_X10_isKind : yX10_isKind.cls = RX10 ∧ yX10_isKind.cls ≠ "java/lang/invoke/MethodHandle" ∧ yX10_isKind.cls ≠ "java/lang/invoke/VarHandle" ∧ (parseMethodDescriptor yX10_isKind.desc).map (fun d => d.parameters.length) = some 1 := by decide +kernel
set_option maxRecDepth 100000 in
set_option maxHeartbeats 4000000 in
theorem c_X10_isKind {l : Launch} {D : va_G} {cA : Nat → ClassId} {ad : Nat → Nat → Nat} {A : Nat → Prop} (ax : Ax ad GM A) (p0 : Int32) (mm : Mm) (Q9 : Int32 → Prop) (h : w_X10_isKind p0 mm Q9) : Met l yX10_isKind (.code yX10_isKind cX10_isKind 1 (some .boolean) :: TG) rm_X10_isKind (PcM TT D cA ad false GM (ZM) [.int p0] mm) (AnsI TT D cA ad false GM A (fun r mm' => Q9 r ∧ mm = mm')) 0 0 A := by
  have zo := ZM_ok A
  unfold w_X10_isKind at h
  refine enterZ pl_X10 ⟨rfl, rfl⟩ rfl (Nat.le_of_ble_eq_true rfl) ?_
  intro p e s m args below meth c QQ X hK hZ hnm hE
  refine q_iload_n (j := 0) X dX10_isKind_0 rfl rfl ?_
  refine q_i2l X dX10_isKind_1 ?_
  refine q_lconst (v := 0) X dX10_isKind_2 (by decide) ?_
  refine q_ldc2 (v := 5) X kw_7_70 dX10_isKind_3 ?_
  refine q_calli (q_runS X hK hZ zo [.long (Int32.toInt64 p0), .long (0 : Int64), .long (5 : Int64)] [] rfl rfl (Nat.le_of_ble_eq_true rfl) dX10_isKind_6 ⟨Nat.le_of_ble_eq_true rfl, Nat.le_of_ble_eq_true rfl⟩ (c_X10_in ax (Int32.toInt64 p0) (0 : Int64) (5 : Int64) mm _ h) rfl rfl (gS kw_7_71 kw_7_72 kw_1_11 kw_7_73) hy_X10_in.2 ⟨Nat.le_of_ble_eq_true rfl, Nat.le_of_ble_eq_true rfl⟩) (fun r_1 m_2 h => ?_)
  obtain ⟨h, hm⟩ := h
  subst hm
  obtain ⟨b_3, h⟩ := h
  exact hE _ _ _ _ dX10_isKind_9 b_3 ⟨h, rfl⟩
theorem dX10_isChamber_0 : decode cX10_isChamber 0 = .ok (.iload_n 0, 1) := by decide +kernel
theorem dX10_isChamber_1 : decode cX10_isChamber 1 = .ok (.i2l, 1) := by decide +kernel
theorem dX10_isChamber_2 : decode cX10_isChamber 2 = .ok (.lconst 0, 1) := by decide +kernel
theorem dX10_isChamber_3 : decode cX10_isChamber 3 = .ok (.ldc2_w 39, 3) := by decide +kernel
theorem dX10_isChamber_6 : decode cX10_isChamber 6 = .ok (.invokestatic 35, 3) := by decide +kernel
theorem dX10_isChamber_9 : decode cX10_isChamber 9 = .ok (.ireturn, 1) := by decide +kernel
def w_X10_isChamber (p0 : Int32) (mm : Mm) (Q9 : Int32 → Prop) : Prop :=
  w_X10_in (Int32.toInt64 p0) (0 : Int64) (4 : Int64) mm (fun (r_1 : Int32) => isB r_1 ∧ Q9 r_1)
def rm_X10_isChamber : Room := { frames := 1, cells := 0, slots := 0, locals := 25 }
theorem hy_X10_isChamber : yX10_isChamber.cls = RX10 ∧ yX10_isChamber.cls ≠ "java/lang/invoke/MethodHandle" ∧ yX10_isChamber.cls ≠ "java/lang/invoke/VarHandle" ∧ (parseMethodDescriptor yX10_isChamber.desc).map (fun d => d.parameters.length) = some 1 := by decide +kernel
set_option maxRecDepth 100000 in
set_option maxHeartbeats 4000000 in
theorem c_X10_isChamber {l : Launch} {D : va_G} {cA : Nat → ClassId} {ad : Nat → Nat → Nat} {A : Nat → Prop} (ax : Ax ad GM A) (p0 : Int32) (mm : Mm) (Q9 : Int32 → Prop) (h : w_X10_isChamber p0 mm Q9) : Met l yX10_isChamber (.code yX10_isChamber cX10_isChamber 1 (some .boolean) :: TG) rm_X10_isChamber (PcM TT D cA ad false GM (ZM) [.int p0] mm) (AnsI TT D cA ad false GM A (fun r mm' => Q9 r ∧ mm = mm')) 0 0 A := by
  have zo := ZM_ok A
  unfold w_X10_isChamber at h
  refine enterZ pl_X10 ⟨rfl, rfl⟩ rfl (Nat.le_of_ble_eq_true rfl) ?_
  intro p e s m args below meth c QQ X hK hZ hnm hE
  refine q_iload_n (j := 0) X dX10_isChamber_0 rfl rfl ?_
  refine q_i2l X dX10_isChamber_1 ?_
  refine q_lconst (v := 0) X dX10_isChamber_2 (by decide) ?_
  refine q_ldc2 (v := 4) X kw_7_82 dX10_isChamber_3 ?_
  refine q_calli (q_runS X hK hZ zo [.long (Int32.toInt64 p0), .long (0 : Int64), .long (4 : Int64)] [] rfl rfl (Nat.le_of_ble_eq_true rfl) dX10_isChamber_6 ⟨Nat.le_of_ble_eq_true rfl, Nat.le_of_ble_eq_true rfl⟩ (c_X10_in ax (Int32.toInt64 p0) (0 : Int64) (4 : Int64) mm _ h) rfl rfl (gS kw_7_71 kw_7_72 kw_1_11 kw_7_73) hy_X10_in.2 ⟨Nat.le_of_ble_eq_true rfl, Nat.le_of_ble_eq_true rfl⟩) (fun r_1 m_2 h => ?_)
  obtain ⟨h, hm⟩ := h
  subst hm
  obtain ⟨b_3, h⟩ := h
  exact hE _ _ _ _ dX10_isChamber_9 b_3 ⟨h, rfl⟩
theorem dX10_of_0 : decode cX10_of 0 = .ok (.aload_n 0, 1) := by decide +kernel
theorem dX10_of_1 : decode cX10_of 1 = .ok (.getfield 13, 3) := by decide +kernel
theorem dX10_of_4 : decode cX10_of 4 = .ok (.bipush 118, 2) := by decide +kernel
theorem dX10_of_6 : decode cX10_of 6 = .ok (.bipush 8, 2) := by decide +kernel
theorem dX10_of_8 : decode cX10_of 8 = .ok (.iload_n 1, 1) := by decide +kernel
theorem dX10_of_9 : decode cX10_of 9 = .ok (.imul, 1) := by decide +kernel
theorem dX10_of_10 : decode cX10_of 10 = .ok (.iadd, 1) := by decide +kernel
theorem dX10_of_11 : decode cX10_of 11 = .ok (.iload_n 2, 1) := by decide +kernel
theorem dX10_of_12 : decode cX10_of 12 = .ok (.iadd, 1) := by decide +kernel
theorem dX10_of_13 : decode cX10_of 13 = .ok (.iaload, 1) := by decide +kernel
theorem dX10_of_14 : decode cX10_of 14 = .ok (.ireturn, 1) := by decide +kernel
def w_X10_of (p0 : Int32) (p1 : Int32) (mm : Mm) (Q9 : Int32 → Prop) : Prop :=
  vp_in ((118 + (8 * p0)) + p1) 246 ∧ (Q9 (mm.1 32 1 ((118 + (8 * p0)) + p1).toNatClampNeg))
def rm_X10_of : Room := { frames := 0, cells := 0, slots := 0, locals := 0 }
theorem hy_X10_of : yX10_of.cls = RX10 ∧ yX10_of.cls ≠ "java/lang/invoke/MethodHandle" ∧ yX10_of.cls ≠ "java/lang/invoke/VarHandle" ∧ (parseMethodDescriptor yX10_of.desc).map (fun d => d.parameters.length) = some 2 := by decide +kernel
set_option maxRecDepth 100000 in
set_option maxHeartbeats 4000000 in
theorem c_X10_of {l : Launch} {D : va_G} {cA : Nat → ClassId} {ad : Nat → Nat → Nat} {A : Nat → Prop} (ax : Ax ad GM A) (p0 : Int32) (p1 : Int32) (mm : Mm) (Q9 : Int32 → Prop) (h : w_X10_of p0 p1 mm Q9) : Met l yX10_of (.code yX10_of cX10_of 3 (some .int) :: TG) rm_X10_of (PcM TT D cA ad false GM (ZM) [.ref (ad 30 1), .int p0, .int p1] mm) (AnsI TT D cA ad false GM A (fun r mm' => Q9 r ∧ mm = mm')) 0 0 A := by
  have zo := ZM_ok A
  unfold w_X10_of at h
  refine enterI pl_X10 ⟨rfl, rfl⟩ rfl (Nat.le_of_ble_eq_true rfl) ?_
  intro p e s m args below meth c QQ X hK hZ hnm hE
  refine q_aload_n (j := 0) X dX10_of_0 rfl rfl ?_
  refine q_get (k := 3) (v := .ref (ad 32 1)) X hK rfl rfl (Nat.le_of_ble_eq_true rfl) inTX10 (gm (t := 30) (by decide) (ok1 (t := 30) (Nat.le_of_ble_eq_true rfl))) kw_7_10 rfl (rv_nn (a := ad 32) (r := 1) (ok1 (t := 32) (Nat.le_of_ble_eq_true rfl)).1) dX10_of_1 ?_
  refine q_bipush (v := 118) X dX10_of_4 (by decide) ?_
  refine q_bipush (v := 8) X dX10_of_6 (by decide) ?_
  refine q_iload_n (j := 1) X dX10_of_8 rfl rfl ?_
  refine q_imul X dX10_of_9 ?_
  refine q_iadd X dX10_of_10 ?_
  refine q_iload_n (j := 2) X dX10_of_11 rfl rfl ?_
  refine q_iadd X dX10_of_12 ?_
  obtain ⟨b_1, h⟩ := h
  refine q_iald (t := 32) (i := 1) (jn := ((118 + (8 * p0)) + p1).toNatClampNeg) (v := .int (mm.1 32 1 ((118 + (8 * p0)) + p1).toNatClampNeg)) X hK rfl rfl (gm (t := 32) (by decide) (ok1 (t := 32) (Nat.le_of_ble_eq_true rfl))) rfl b_1 rfl rfl dX10_of_13 ?_
  exact hE _ _ _ _ dX10_of_14 ⟨h, rfl⟩
theorem dX10_put_0 : decode cX10_put 0 = .ok (.aload_n 0, 1) := by decide +kernel
theorem dX10_put_1 : decode cX10_put 1 = .ok (.getfield 13, 3) := by decide +kernel
theorem dX10_put_4 : decode cX10_put 4 = .ok (.bipush 118, 2) := by decide +kernel
theorem dX10_put_6 : decode cX10_put 6 = .ok (.bipush 8, 2) := by decide +kernel
theorem dX10_put_8 : decode cX10_put 8 = .ok (.iload_n 1, 1) := by decide +kernel
theorem dX10_put_9 : decode cX10_put 9 = .ok (.imul, 1) := by decide +kernel
theorem dX10_put_10 : decode cX10_put 10 = .ok (.iadd, 1) := by decide +kernel
theorem dX10_put_11 : decode cX10_put 11 = .ok (.iload_n 2, 1) := by decide +kernel
theorem dX10_put_12 : decode cX10_put 12 = .ok (.iadd, 1) := by decide +kernel
theorem dX10_put_13 : decode cX10_put 13 = .ok (.iload_n 3, 1) := by decide +kernel
theorem dX10_put_14 : decode cX10_put 14 = .ok (.iastore, 1) := by decide +kernel
theorem dX10_put_15 : decode cX10_put 15 = .ok (.return_, 1) := by decide +kernel
def w_X10_put (p0 : Int32) (p1 : Int32) (p2 : Int32) (mm : Mm) (Q9 : Mm → Prop) : Prop :=
  vp_in ((118 + (8 * p0)) + p1) 246 ∧ ∀ m_2 : Mm, m_2 = sI mm 32 1 ((118 + (8 * p0)) + p1).toNatClampNeg p2 → (Q9 m_2)
def rm_X10_put : Room := { frames := 0, cells := 0, slots := 0, locals := 0 }
theorem hy_X10_put : yX10_put.cls = RX10 ∧ yX10_put.cls ≠ "java/lang/invoke/MethodHandle" ∧ yX10_put.cls ≠ "java/lang/invoke/VarHandle" ∧ (parseMethodDescriptor yX10_put.desc).map (fun d => d.parameters.length) = some 3 := by decide +kernel
set_option maxRecDepth 100000 in
set_option maxHeartbeats 4000000 in
theorem c_X10_put {l : Launch} {D : va_G} {cA : Nat → ClassId} {ad : Nat → Nat → Nat} {A : Nat → Prop} (ax : Ax ad GM A) (p0 : Int32) (p1 : Int32) (p2 : Int32) (mm : Mm) (Q9 : Mm → Prop) (h : w_X10_put p0 p1 p2 mm Q9) : Met l yX10_put (.code yX10_put cX10_put 4 none :: TG) rm_X10_put (PcM TT D cA ad false GM (ZM) [.ref (ad 30 1), .int p0, .int p1, .int p2] mm) (AnsV TT D cA ad false GM A Q9) 0 0 A := by
  have zo := ZM_ok A
  unfold w_X10_put at h
  refine enterV pl_X10 ⟨rfl, rfl⟩ rfl (Nat.le_of_ble_eq_true rfl) ?_
  intro p e s m args below meth c QQ X hK hZ hnm hE
  refine q_aload_n (j := 0) X dX10_put_0 rfl rfl ?_
  refine q_get (k := 3) (v := .ref (ad 32 1)) X hK rfl rfl (Nat.le_of_ble_eq_true rfl) inTX10 (gm (t := 30) (by decide) (ok1 (t := 30) (Nat.le_of_ble_eq_true rfl))) kw_7_10 rfl (rv_nn (a := ad 32) (r := 1) (ok1 (t := 32) (Nat.le_of_ble_eq_true rfl)).1) dX10_put_1 ?_
  refine q_bipush (v := 118) X dX10_put_4 (by decide) ?_
  refine q_bipush (v := 8) X dX10_put_6 (by decide) ?_
  refine q_iload_n (j := 1) X dX10_put_8 rfl rfl ?_
  refine q_imul X dX10_put_9 ?_
  refine q_iadd X dX10_put_10 ?_
  refine q_iload_n (j := 2) X dX10_put_11 rfl rfl ?_
  refine q_iadd X dX10_put_12 ?_
  refine q_iload_n (j := 3) X dX10_put_13 rfl rfl ?_
  obtain ⟨b_1, h⟩ := h
  refine q_iast (t := 32) (i := 1) (jn := ((118 + (8 * p0)) + p1).toNatClampNeg) X ax hK rfl rfl (gm (t := 32) (by decide) (ok1 (t := 32) (Nat.le_of_ble_eq_true rfl))) rfl b_1 rfl rfl dX10_put_14 ?_
  refine q_nmP (fun m_2 em_2 => ?_)
  have h := h m_2 em_2
  exact hE _ _ _ dX10_put_15 h
theorem dX10_find_0 : decode cX10_find 0 = .ok (.iconst 0, 1) := by decide +kernel
theorem dX10_find_1 : decode cX10_find 1 = .ok (.istore_n 2, 1) := by decide +kernel
theorem dX10_find_2 : decode cX10_find 2 = .ok (.iload_n 2, 1) := by decide +kernel
theorem dX10_find_3 : decode cX10_find 3 = .ok (.aload_n 0, 1) := by decide +kernel
theorem dX10_find_4 : decode cX10_find 4 = .ok (.getfield 13, 3) := by decide +kernel
theorem dX10_find_7 : decode cX10_find 7 = .ok (.bipush 117, 2) := by decide +kernel
theorem dX10_find_9 : decode cX10_find 9 = .ok (.iaload, 1) := by decide +kernel
theorem dX10_find_10 : decode cX10_find 10 = .ok (.if_icmp .ge 21, 3) := by decide +kernel
theorem dX10_find_13 : decode cX10_find 13 = .ok (.aload_n 0, 1) := by decide +kernel
theorem dX10_find_14 : decode cX10_find 14 = .ok (.iload_n 2, 1) := by decide +kernel
theorem dX10_find_15 : decode cX10_find 15 = .ok (.iconst 0, 1) := by decide +kernel
theorem dX10_find_16 : decode cX10_find 16 = .ok (.invokevirtual 41, 3) := by decide +kernel
theorem dX10_find_19 : decode cX10_find 19 = .ok (.iload_n 1, 1) := by decide +kernel
theorem dX10_find_20 : decode cX10_find 20 = .ok (.if_icmp .ne 5, 3) := by decide +kernel
theorem dX10_find_23 : decode cX10_find 23 = .ok (.iload_n 2, 1) := by decide +kernel
theorem dX10_find_24 : decode cX10_find 24 = .ok (.ireturn, 1) := by decide +kernel
theorem dX10_find_25 : decode cX10_find 25 = .ok (.iinc 2 1, 3) := by decide +kernel
theorem dX10_find_28 : decode cX10_find 28 = .ok (.goto (-26), 3) := by decide +kernel
theorem dX10_find_31 : decode cX10_find 31 = .ok (.iconst (-1), 1) := by decide +kernel
theorem dX10_find_32 : decode cX10_find 32 = .ok (.ireturn, 1) := by decide +kernel
def w_X10_find_B2 (p0 : Int32) (mm : Mm) (Q9 : Int32 → Prop) (K_2 : Int32 → Prop) (y_1 : Int32) : Prop :=
  (((mm.1 32 1 117) ≤ y_1 → Q9 (-1)) ∧
  (¬ (mm.1 32 1 117) ≤ y_1 → w_X10_of y_1 0 mm (fun (r_5 : Int32) => ((¬ r_5 = p0 → ∀ x_8 : Int32, x_8 = y_1 + 1 → (K_2 x_8)) ∧
  (r_5 = p0 → Q9 y_1)))))
def w_X10_find (p0 : Int32) (mm : Mm) (Q9 : Int32 → Prop) : Prop :=
  ∃ n, itr (α := Int32) (fun K a => w_X10_find_B2 p0 mm Q9 (fun z0 => K z0) a) n 0
def rm_X10_find : Room := { frames := 1, cells := 0, slots := 0, locals := 22 }
theorem hy_X10_find : yX10_find.cls = RX10 ∧ yX10_find.cls ≠ "java/lang/invoke/MethodHandle" ∧ yX10_find.cls ≠ "java/lang/invoke/VarHandle" ∧ (parseMethodDescriptor yX10_find.desc).map (fun d => d.parameters.length) = some 1 := by decide +kernel
set_option maxRecDepth 100000 in
set_option maxHeartbeats 4000000 in
theorem c_X10_find {l : Launch} {D : va_G} {cA : Nat → ClassId} {ad : Nat → Nat → Nat} {A : Nat → Prop} (ax : Ax ad GM A) (p0 : Int32) (mm : Mm) (Q9 : Int32 → Prop) (h : w_X10_find p0 mm Q9) : Met l yX10_find (.code yX10_find cX10_find 3 (some .int) :: TG) rm_X10_find (PcM TT D cA ad false GM (ZM) [.ref (ad 30 1), .int p0] mm) (AnsI TT D cA ad false GM A (fun r mm' => Q9 r ∧ mm = mm')) 0 0 A := by
  have zo := ZM_ok A
  unfold w_X10_find at h
  refine enterI pl_X10 ⟨rfl, rfl⟩ rfl (Nat.le_of_ble_eq_true rfl) ?_
  intro p e s m args below meth c QQ X hK hZ hnm hE
  refine q_iconst (v := 0) X dX10_find_0 (by decide) ?_
  refine q_istore_n (lv' := [(2, .int 0), (0, .ref (ad 30 1)), (1, .int p0)]) X dX10_find_1 rfl (by decide) rfl ?_
  refine q_sub [1, 2, 0] rfl ?_
  have L2 : ∀ (n : Nat) (y_1 : Int32), itr (α := Int32) (fun K a => w_X10_find_B2 p0 mm Q9 (fun z0 => K z0) a) n y_1 → V p l e rm_X10_find s m args below meth c QQ 3 A 0 0 (Rep TT D cA ad false GM mm) 2 [(0, .ref (ad 30 1)), (1, .int p0), (2, .int y_1)] [] := by
    intro n
    induction n with
    | zero => intro y_1 h; exact h.elim
    | succ n ih_3 =>
      intro y_1 h
      have h : w_X10_find_B2 p0 mm Q9 (fun z0 => itr (α := Int32) (fun K a => w_X10_find_B2 p0 mm Q9 (fun z0 => K z0) a) n z0) y_1 := h
      unfold w_X10_find_B2 at h
      refine q_iload_n (j := 2) X dX10_find_2 rfl rfl ?_
      refine q_aload_n (j := 0) X dX10_find_3 rfl rfl ?_
      refine q_get (k := 3) (v := .ref (ad 32 1)) X hK rfl rfl (Nat.le_of_ble_eq_true rfl) inTX10 (gm (t := 30) (by decide) (ok1 (t := 30) (Nat.le_of_ble_eq_true rfl))) kw_7_10 rfl (rv_nn (a := ad 32) (r := 1) (ok1 (t := 32) (Nat.le_of_ble_eq_true rfl)).1) dX10_find_4 ?_
      refine q_bipush (v := 117) X dX10_find_7 (by decide) ?_
      refine q_iald (t := 32) (i := 1) (jn := 117) (v := .int (mm.1 32 1 117)) X hK rfl rfl (gm (t := 32) (by decide) (ok1 (t := 32) (Nat.le_of_ble_eq_true rfl))) rfl (vpl (by decide +kernel)) (by decide +kernel) rfl dX10_find_9 ?_
      refine q_icmp_ge (tgt := 31) X dX10_find_10 (by decide) (fun c_4 => ?_) (fun c_4 => ?_)
      · have h := h.1 c_4
        refine q_iconst (v := (-1)) X dX10_find_31 (by decide) ?_
        exact hE _ _ _ _ dX10_find_32 ⟨h, rfl⟩
      · have h := h.2 c_4
        refine q_aload_n (j := 0) X dX10_find_13 rfl rfl ?_
        refine q_iload_n (j := 2) X dX10_find_14 rfl rfl ?_
        refine q_iconst (v := 0) X dX10_find_15 (by decide) ?_
        refine q_calli (q_runV X hK hZ zo (gm (t := 30) (by decide) (ok1 (t := 30) (Nat.le_of_ble_eq_true rfl))) rfl rfl [.int y_1, .int 0] [] rfl rfl (Nat.le_of_ble_eq_true rfl) dX10_find_16 ⟨Nat.le_of_ble_eq_true rfl, Nat.le_of_ble_eq_true rfl⟩ (c_X10_of ax y_1 0 mm _ h) rfl rfl (gV kw_7_95 kw_7_97 ks_88 kw_1_11 kw_7_98) hy_X10_of ⟨Nat.le_of_ble_eq_true rfl, Nat.le_of_ble_eq_true rfl⟩) (fun r_5 m_6 h => ?_)
        obtain ⟨h, hm⟩ := h
        subst hm
        refine q_iload_n (j := 1) X dX10_find_19 rfl rfl ?_
        refine q_icmp_ne (tgt := 25) X dX10_find_20 (by decide) (fun c_7 => ?_) (fun c_7 => ?_)
        · have h := h.1 c_7
          obtain ⟨x_8, ex_8⟩ : ∃ z : Int32, z = y_1 + 1 := ⟨_, rfl⟩
          have h := h x_8 ex_8
          refine q_iinc (j := 2) (v := x_8) (lv' := [(2, .int x_8), (0, .ref (ad 30 1)), (1, .int p0)]) X dX10_find_25 rfl (by rw [ex_8]; rfl) (by decide) rfl ?_
          refine q_goto (tgt := 2) X dX10_find_28 (by decide) ?_
          refine q_sub [1, 2, 0] rfl ?_
          exact ih_3 x_8 h
        · have h := h.2 c_7
          refine q_iload_n (j := 2) X dX10_find_23 rfl rfl ?_
          exact hE _ _ _ _ dX10_find_24 ⟨h, rfl⟩
  obtain ⟨n_9, h⟩ := h
  exact L2 n_9 0 h
theorem dX10_wasteRate_0 : decode cX10_wasteRate 0 = .ok (.iload_n 0, 1) := by decide +kernel
theorem dX10_wasteRate_1 : decode cX10_wasteRate 1 = .ok (.iconst 1, 1) := by decide +kernel
theorem dX10_wasteRate_2 : decode cX10_wasteRate 2 = .ok (.if_icmp .ne 7, 3) := by decide +kernel
theorem dX10_wasteRate_5 : decode cX10_wasteRate 5 = .ok (.iconst 5, 1) := by decide +kernel
theorem dX10_wasteRate_6 : decode cX10_wasteRate 6 = .ok (.goto 33, 3) := by decide +kernel
theorem dX10_wasteRate_9 : decode cX10_wasteRate 9 = .ok (.iload_n 0, 1) := by decide +kernel
theorem dX10_wasteRate_10 : decode cX10_wasteRate 10 = .ok (.iconst 2, 1) := by decide +kernel
theorem dX10_wasteRate_11 : decode cX10_wasteRate 11 = .ok (.if_icmp .ne 8, 3) := by decide +kernel
theorem dX10_wasteRate_14 : decode cX10_wasteRate 14 = .ok (.bipush 10, 2) := by decide +kernel
theorem dX10_wasteRate_16 : decode cX10_wasteRate 16 = .ok (.goto 23, 3) := by decide +kernel
theorem dX10_wasteRate_19 : decode cX10_wasteRate 19 = .ok (.iload_n 0, 1) := by decide +kernel
theorem dX10_wasteRate_20 : decode cX10_wasteRate 20 = .ok (.iconst 3, 1) := by decide +kernel
theorem dX10_wasteRate_21 : decode cX10_wasteRate 21 = .ok (.if_icmp .ne 7, 3) := by decide +kernel
theorem dX10_wasteRate_24 : decode cX10_wasteRate 24 = .ok (.iconst 2, 1) := by decide +kernel
theorem dX10_wasteRate_25 : decode cX10_wasteRate 25 = .ok (.goto 14, 3) := by decide +kernel
theorem dX10_wasteRate_28 : decode cX10_wasteRate 28 = .ok (.iload_n 0, 1) := by decide +kernel
theorem dX10_wasteRate_29 : decode cX10_wasteRate 29 = .ok (.iconst 4, 1) := by decide +kernel
theorem dX10_wasteRate_30 : decode cX10_wasteRate 30 = .ok (.if_icmp .ne 8, 3) := by decide +kernel
theorem dX10_wasteRate_33 : decode cX10_wasteRate 33 = .ok (.bipush 20, 2) := by decide +kernel
theorem dX10_wasteRate_35 : decode cX10_wasteRate 35 = .ok (.goto 4, 3) := by decide +kernel
theorem dX10_wasteRate_38 : decode cX10_wasteRate 38 = .ok (.iconst 0, 1) := by decide +kernel
theorem dX10_wasteRate_39 : decode cX10_wasteRate 39 = .ok (.ireturn, 1) := by decide +kernel
def w_X10_wasteRate (p0 : Int32) (mm : Mm) (Q9 : Int32 → Prop) : Prop :=
  ((¬ p0 = 1 → ((¬ p0 = 2 → ((¬ p0 = 3 → ((¬ p0 = 4 → Q9 0) ∧
  (p0 = 4 → Q9 20))) ∧
  (p0 = 3 → Q9 2))) ∧
  (p0 = 2 → Q9 10))) ∧
  (p0 = 1 → Q9 5))
def rm_X10_wasteRate : Room := { frames := 0, cells := 0, slots := 0, locals := 0 }
theorem hy_X10_wasteRate : yX10_wasteRate.cls = RX10 ∧ yX10_wasteRate.cls ≠ "java/lang/invoke/MethodHandle" ∧ yX10_wasteRate.cls ≠ "java/lang/invoke/VarHandle" ∧ (parseMethodDescriptor yX10_wasteRate.desc).map (fun d => d.parameters.length) = some 1 := by decide +kernel
set_option maxRecDepth 100000 in
set_option maxHeartbeats 4000000 in
theorem c_X10_wasteRate {l : Launch} {D : va_G} {cA : Nat → ClassId} {ad : Nat → Nat → Nat} {A : Nat → Prop} (ax : Ax ad GM A) (p0 : Int32) (mm : Mm) (Q9 : Int32 → Prop) (h : w_X10_wasteRate p0 mm Q9) : Met l yX10_wasteRate (.code yX10_wasteRate cX10_wasteRate 1 (some .int) :: TG) rm_X10_wasteRate (PcM TT D cA ad false GM (ZM) [.int p0] mm) (AnsI TT D cA ad false GM A (fun r mm' => Q9 r ∧ mm = mm')) 0 0 A := by
  have zo := ZM_ok A
  unfold w_X10_wasteRate at h
  refine enterI pl_X10 ⟨rfl, rfl⟩ rfl (Nat.le_of_ble_eq_true rfl) ?_
  intro p e s m args below meth c QQ X hK hZ hnm hE
  refine q_iload_n (j := 0) X dX10_wasteRate_0 rfl rfl ?_
  refine q_iconst (v := 1) X dX10_wasteRate_1 (by decide) ?_
  refine q_icmp_ne (tgt := 9) X dX10_wasteRate_2 (by decide) (fun c_1 => ?_) (fun c_1 => ?_)
  · have h := h.1 c_1
    refine q_iload_n (j := 0) X dX10_wasteRate_9 rfl rfl ?_
    refine q_iconst (v := 2) X dX10_wasteRate_10 (by decide) ?_
    refine q_icmp_ne (tgt := 19) X dX10_wasteRate_11 (by decide) (fun c_2 => ?_) (fun c_2 => ?_)
    · have h := h.1 c_2
      refine q_iload_n (j := 0) X dX10_wasteRate_19 rfl rfl ?_
      refine q_iconst (v := 3) X dX10_wasteRate_20 (by decide) ?_
      refine q_icmp_ne (tgt := 28) X dX10_wasteRate_21 (by decide) (fun c_3 => ?_) (fun c_3 => ?_)
      · have h := h.1 c_3
        refine q_iload_n (j := 0) X dX10_wasteRate_28 rfl rfl ?_
        refine q_iconst (v := 4) X dX10_wasteRate_29 (by decide) ?_
        refine q_icmp_ne (tgt := 38) X dX10_wasteRate_30 (by decide) (fun c_4 => ?_) (fun c_4 => ?_)
        · have h := h.1 c_4
          refine q_iconst (v := 0) X dX10_wasteRate_38 (by decide) ?_
          exact hE _ _ _ _ dX10_wasteRate_39 ⟨h, rfl⟩
        · have h := h.2 c_4
          refine q_bipush (v := 20) X dX10_wasteRate_33 (by decide) ?_
          refine q_goto (tgt := 39) X dX10_wasteRate_35 (by decide) ?_
          exact hE _ _ _ _ dX10_wasteRate_39 ⟨h, rfl⟩
      · have h := h.2 c_3
        refine q_iconst (v := 2) X dX10_wasteRate_24 (by decide) ?_
        refine q_goto (tgt := 39) X dX10_wasteRate_25 (by decide) ?_
        exact hE _ _ _ _ dX10_wasteRate_39 ⟨h, rfl⟩
    · have h := h.2 c_2
      refine q_bipush (v := 10) X dX10_wasteRate_14 (by decide) ?_
      refine q_goto (tgt := 39) X dX10_wasteRate_16 (by decide) ?_
      exact hE _ _ _ _ dX10_wasteRate_39 ⟨h, rfl⟩
  · have h := h.2 c_1
    refine q_iconst (v := 5) X dX10_wasteRate_5 (by decide) ?_
    refine q_goto (tgt := 39) X dX10_wasteRate_6 (by decide) ?_
    exact hE _ _ _ _ dX10_wasteRate_39 ⟨h, rfl⟩
theorem dX10_up_0 : decode cX10_up 0 = .ok (.iload_n 0, 1) := by decide +kernel
theorem dX10_up_1 : decode cX10_up 1 = .ok (.iload_n 1, 1) := by decide +kernel
theorem dX10_up_2 : decode cX10_up 2 = .ok (.iadd, 1) := by decide +kernel
theorem dX10_up_3 : decode cX10_up 3 = .ok (.iconst 1, 1) := by decide +kernel
theorem dX10_up_4 : decode cX10_up 4 = .ok (.isub, 1) := by decide +kernel
theorem dX10_up_5 : decode cX10_up 5 = .ok (.iload_n 1, 1) := by decide +kernel
theorem dX10_up_6 : decode cX10_up 6 = .ok (.idiv, 1) := by decide +kernel
theorem dX10_up_7 : decode cX10_up 7 = .ok (.ireturn, 1) := by decide +kernel
def w_X10_up (p0 : Int32) (p1 : Int32) (mm : Mm) (Q9 : Int32 → Prop) : Prop :=
  ¬ p1 = 0 ∧ (Q9 (((p0 + p1) - 1) / p1))
def rm_X10_up : Room := { frames := 0, cells := 0, slots := 0, locals := 0 }
theorem hy_X10_up : yX10_up.cls = RX10 ∧ yX10_up.cls ≠ "java/lang/invoke/MethodHandle" ∧ yX10_up.cls ≠ "java/lang/invoke/VarHandle" ∧ (parseMethodDescriptor yX10_up.desc).map (fun d => d.parameters.length) = some 2 := by decide +kernel
set_option maxRecDepth 100000 in
set_option maxHeartbeats 4000000 in
theorem c_X10_up {l : Launch} {D : va_G} {cA : Nat → ClassId} {ad : Nat → Nat → Nat} {A : Nat → Prop} (ax : Ax ad GM A) (p0 : Int32) (p1 : Int32) (mm : Mm) (Q9 : Int32 → Prop) (h : w_X10_up p0 p1 mm Q9) : Met l yX10_up (.code yX10_up cX10_up 2 (some .int) :: TG) rm_X10_up (PcM TT D cA ad false GM (ZM) [.int p0, .int p1] mm) (AnsI TT D cA ad false GM A (fun r mm' => Q9 r ∧ mm = mm')) 0 0 A := by
  have zo := ZM_ok A
  unfold w_X10_up at h
  refine enterI pl_X10 ⟨rfl, rfl⟩ rfl (Nat.le_of_ble_eq_true rfl) ?_
  intro p e s m args below meth c QQ X hK hZ hnm hE
  refine q_iload_n (j := 0) X dX10_up_0 rfl rfl ?_
  refine q_iload_n (j := 1) X dX10_up_1 rfl rfl ?_
  refine q_iadd X dX10_up_2 ?_
  refine q_iconst (v := 1) X dX10_up_3 (by decide) ?_
  refine q_isub X dX10_up_4 ?_
  refine q_iload_n (j := 1) X dX10_up_5 rfl rfl ?_
  obtain ⟨c_1, h⟩ := h
  refine q_idiv X dX10_up_6 c_1 ?_
  exact hE _ _ _ _ dX10_up_7 ⟨h, rfl⟩
theorem dX10_duty_0 : decode cX10_duty 0 = .ok (.iload_n 2, 1) := by decide +kernel
theorem dX10_duty_1 : decode cX10_duty 1 = .ok (.aload_n 0, 1) := by decide +kernel
theorem dX10_duty_2 : decode cX10_duty 2 = .ok (.getfield 13, 3) := by decide +kernel
theorem dX10_duty_5 : decode cX10_duty 5 = .ok (.bipush 20, 2) := by decide +kernel
theorem dX10_duty_7 : decode cX10_duty 7 = .ok (.iload_n 1, 1) := by decide +kernel
theorem dX10_duty_8 : decode cX10_duty 8 = .ok (.iadd, 1) := by decide +kernel
theorem dX10_duty_9 : decode cX10_duty 9 = .ok (.iaload, 1) := by decide +kernel
theorem dX10_duty_10 : decode cX10_duty 10 = .ok (.imul, 1) := by decide +kernel
theorem dX10_duty_11 : decode cX10_duty 11 = .ok (.bipush 100, 2) := by decide +kernel
theorem dX10_duty_13 : decode cX10_duty 13 = .ok (.invokestatic 45, 3) := by decide +kernel
theorem dX10_duty_16 : decode cX10_duty 16 = .ok (.iload_n 3, 1) := by decide +kernel
theorem dX10_duty_17 : decode cX10_duty 17 = .ok (.aload_n 0, 1) := by decide +kernel
theorem dX10_duty_18 : decode cX10_duty 18 = .ok (.getfield 13, 3) := by decide +kernel
theorem dX10_duty_21 : decode cX10_duty 21 = .ok (.bipush 26, 2) := by decide +kernel
theorem dX10_duty_23 : decode cX10_duty 23 = .ok (.iload_n 1, 1) := by decide +kernel
theorem dX10_duty_24 : decode cX10_duty 24 = .ok (.iadd, 1) := by decide +kernel
theorem dX10_duty_25 : decode cX10_duty 25 = .ok (.iaload, 1) := by decide +kernel
theorem dX10_duty_26 : decode cX10_duty 26 = .ok (.imul, 1) := by decide +kernel
theorem dX10_duty_27 : decode cX10_duty 27 = .ok (.bipush 100, 2) := by decide +kernel
theorem dX10_duty_29 : decode cX10_duty 29 = .ok (.invokestatic 45, 3) := by decide +kernel
theorem dX10_duty_32 : decode cX10_duty 32 = .ok (.iadd, 1) := by decide +kernel
theorem dX10_duty_33 : decode cX10_duty 33 = .ok (.istore 5, 2) := by decide +kernel
theorem dX10_duty_35 : decode cX10_duty 35 = .ok (.iload 4, 2) := by decide +kernel
theorem dX10_duty_37 : decode cX10_duty 37 = .ok (.ifCond .eq 16, 3) := by decide +kernel
theorem dX10_duty_40 : decode cX10_duty 40 = .ok (.iload 5, 2) := by decide +kernel
theorem dX10_duty_42 : decode cX10_duty 42 = .ok (.iload 5, 2) := by decide +kernel
theorem dX10_duty_44 : decode cX10_duty 44 = .ok (.bipush 10, 2) := by decide +kernel
theorem dX10_duty_46 : decode cX10_duty 46 = .ok (.invokestatic 45, 3) := by decide +kernel
theorem dX10_duty_49 : decode cX10_duty 49 = .ok (.iadd, 1) := by decide +kernel
theorem dX10_duty_50 : decode cX10_duty 50 = .ok (.goto 5, 3) := by decide +kernel
theorem dX10_duty_53 : decode cX10_duty 53 = .ok (.iload 5, 2) := by decide +kernel
theorem dX10_duty_55 : decode cX10_duty 55 = .ok (.ireturn, 1) := by decide +kernel
def w_X10_duty (p0 : Int32) (p1 : Int32) (p2 : Int32) (p3 : Int32) (mm : Mm) (Q9 : Int32 → Prop) : Prop :=
  vp_in (20 + p0) 246 ∧ (w_X10_up (p1 * (mm.1 32 1 (20 + p0).toNatClampNeg)) 100 mm (fun (r_2 : Int32) => vp_in (26 + p0) 246 ∧ (w_X10_up (p2 * (mm.1 32 1 (26 + p0).toNatClampNeg)) 100 mm (fun (r_5 : Int32) => ∀ x_7 : Int32, x_7 = (r_2 + r_5) → (((p3 = 0 → Q9 x_7) ∧
  (¬ p3 = 0 → w_X10_up x_7 10 mm (fun (r_9 : Int32) => Q9 (x_7 + r_9)))))))))
def rm_X10_duty : Room := { frames := 1, cells := 0, slots := 0, locals := 21 }
theorem hy_X10_duty : yX10_duty.cls = RX10 ∧ yX10_duty.cls ≠ "java/lang/invoke/MethodHandle" ∧ yX10_duty.cls ≠ "java/lang/invoke/VarHandle" ∧ (parseMethodDescriptor yX10_duty.desc).map (fun d => d.parameters.length) = some 4 := by decide +kernel
set_option maxRecDepth 100000 in
set_option maxHeartbeats 4000000 in
theorem c_X10_duty {l : Launch} {D : va_G} {cA : Nat → ClassId} {ad : Nat → Nat → Nat} {A : Nat → Prop} (ax : Ax ad GM A) (p0 : Int32) (p1 : Int32) (p2 : Int32) (p3 : Int32) (mm : Mm) (Q9 : Int32 → Prop) (h : w_X10_duty p0 p1 p2 p3 mm Q9) : Met l yX10_duty (.code yX10_duty cX10_duty 6 (some .int) :: TG) rm_X10_duty (PcM TT D cA ad false GM (ZM) [.ref (ad 30 1), .int p0, .int p1, .int p2, .int p3] mm) (AnsI TT D cA ad false GM A (fun r mm' => Q9 r ∧ mm = mm')) 0 0 A := by
  have zo := ZM_ok A
  unfold w_X10_duty at h
  refine enterI pl_X10 ⟨rfl, rfl⟩ rfl (Nat.le_of_ble_eq_true rfl) ?_
  intro p e s m args below meth c QQ X hK hZ hnm hE
  refine q_iload_n (j := 2) X dX10_duty_0 rfl rfl ?_
  refine q_aload_n (j := 0) X dX10_duty_1 rfl rfl ?_
  refine q_get (k := 3) (v := .ref (ad 32 1)) X hK rfl rfl (Nat.le_of_ble_eq_true rfl) inTX10 (gm (t := 30) (by decide) (ok1 (t := 30) (Nat.le_of_ble_eq_true rfl))) kw_7_10 rfl (rv_nn (a := ad 32) (r := 1) (ok1 (t := 32) (Nat.le_of_ble_eq_true rfl)).1) dX10_duty_2 ?_
  refine q_bipush (v := 20) X dX10_duty_5 (by decide) ?_
  refine q_iload_n (j := 1) X dX10_duty_7 rfl rfl ?_
  refine q_iadd X dX10_duty_8 ?_
  obtain ⟨b_1, h⟩ := h
  refine q_iald (t := 32) (i := 1) (jn := (20 + p0).toNatClampNeg) (v := .int (mm.1 32 1 (20 + p0).toNatClampNeg)) X hK rfl rfl (gm (t := 32) (by decide) (ok1 (t := 32) (Nat.le_of_ble_eq_true rfl))) rfl b_1 rfl rfl dX10_duty_9 ?_
  refine q_imul X dX10_duty_10 ?_
  refine q_bipush (v := 100) X dX10_duty_11 (by decide) ?_
  refine q_calli (q_runS X hK hZ zo [.int (p1 * (mm.1 32 1 (20 + p0).toNatClampNeg)), .int 100] [] rfl rfl (Nat.le_of_ble_eq_true rfl) dX10_duty_13 ⟨Nat.le_of_ble_eq_true rfl, Nat.le_of_ble_eq_true rfl⟩ (c_X10_up ax (p1 * (mm.1 32 1 (20 + p0).toNatClampNeg)) 100 mm _ h) rfl rfl (gS kw_7_123 kw_7_124 kw_1_11 kw_7_125) hy_X10_up.2 ⟨Nat.le_of_ble_eq_true rfl, Nat.le_of_ble_eq_true rfl⟩) (fun r_2 m_3 h => ?_)
  obtain ⟨h, hm⟩ := h
  subst hm
  refine q_iload_n (j := 3) X dX10_duty_16 rfl rfl ?_
  refine q_aload_n (j := 0) X dX10_duty_17 rfl rfl ?_
  refine q_get (k := 3) (v := .ref (ad 32 1)) X hK rfl rfl (Nat.le_of_ble_eq_true rfl) inTX10 (gm (t := 30) (by decide) (ok1 (t := 30) (Nat.le_of_ble_eq_true rfl))) kw_7_10 rfl (rv_nn (a := ad 32) (r := 1) (ok1 (t := 32) (Nat.le_of_ble_eq_true rfl)).1) dX10_duty_18 ?_
  refine q_bipush (v := 26) X dX10_duty_21 (by decide) ?_
  refine q_iload_n (j := 1) X dX10_duty_23 rfl rfl ?_
  refine q_iadd X dX10_duty_24 ?_
  obtain ⟨b_4, h⟩ := h
  refine q_iald (t := 32) (i := 1) (jn := (26 + p0).toNatClampNeg) (v := .int (mm.1 32 1 (26 + p0).toNatClampNeg)) X hK rfl rfl (gm (t := 32) (by decide) (ok1 (t := 32) (Nat.le_of_ble_eq_true rfl))) rfl b_4 rfl rfl dX10_duty_25 ?_
  refine q_imul X dX10_duty_26 ?_
  refine q_bipush (v := 100) X dX10_duty_27 (by decide) ?_
  refine q_calli (q_runS X hK hZ zo [.int (p2 * (mm.1 32 1 (26 + p0).toNatClampNeg)), .int 100] [.int r_2] rfl rfl (Nat.le_of_ble_eq_true rfl) dX10_duty_29 ⟨Nat.le_of_ble_eq_true rfl, Nat.le_of_ble_eq_true rfl⟩ (c_X10_up ax (p2 * (mm.1 32 1 (26 + p0).toNatClampNeg)) 100 mm _ h) rfl rfl (gS kw_7_123 kw_7_124 kw_1_11 kw_7_125) hy_X10_up.2 ⟨Nat.le_of_ble_eq_true rfl, Nat.le_of_ble_eq_true rfl⟩) (fun r_5 m_6 h => ?_)
  obtain ⟨h, hm⟩ := h
  subst hm
  refine q_iadd X dX10_duty_32 ?_
  refine q_topi (fun x_7 ex_7 => ?_)
  have h := h x_7 ex_7
  refine q_istore (lv' := [(5, .int x_7), (0, .ref (ad 30 1)), (1, .int p0), (2, .int p1), (3, .int p2), (4, .int p3)]) X dX10_duty_33 (by decide) rfl ?_
  refine q_iload (j := 5) X dX10_duty_35 rfl ?_
  refine q_if_eq (tgt := 53) X dX10_duty_37 (by decide) (fun c_8 => ?_) (fun c_8 => ?_)
  · have h := h.1 c_8
    refine q_iload (j := 0) X dX10_duty_53 rfl ?_
    exact hE _ _ _ _ dX10_duty_55 ⟨h, rfl⟩
  · have h := h.2 c_8
    refine q_iload (j := 0) X dX10_duty_40 rfl ?_
    refine q_iload (j := 0) X dX10_duty_42 rfl ?_
    refine q_bipush (v := 10) X dX10_duty_44 (by decide) ?_
    refine q_calli (q_runS X hK hZ zo [.int x_7, .int 10] [.int x_7] rfl rfl (Nat.le_of_ble_eq_true rfl) dX10_duty_46 ⟨Nat.le_of_ble_eq_true rfl, Nat.le_of_ble_eq_true rfl⟩ (c_X10_up ax x_7 10 mm _ h) rfl rfl (gS kw_7_123 kw_7_124 kw_1_11 kw_7_125) hy_X10_up.2 ⟨Nat.le_of_ble_eq_true rfl, Nat.le_of_ble_eq_true rfl⟩) (fun r_9 m_10 h => ?_)
    obtain ⟨h, hm⟩ := h
    subst hm
    refine q_iadd X dX10_duty_49 ?_
    refine q_goto (tgt := 55) X dX10_duty_50 (by decide) ?_
    exact hE _ _ _ _ dX10_duty_55 ⟨h, rfl⟩
theorem dX10_share_0 : decode cX10_share 0 = .ok (.aload_n 0, 1) := by decide +kernel
theorem dX10_share_1 : decode cX10_share 1 = .ok (.iload_n 1, 1) := by decide +kernel
theorem dX10_share_2 : decode cX10_share 2 = .ok (.iconst 3, 1) := by decide +kernel
theorem dX10_share_3 : decode cX10_share 3 = .ok (.invokevirtual 41, 3) := by decide +kernel
theorem dX10_share_6 : decode cX10_share 6 = .ok (.iload_n 2, 1) := by decide +kernel
theorem dX10_share_7 : decode cX10_share 7 = .ok (.imul, 1) := by decide +kernel
theorem dX10_share_8 : decode cX10_share 8 = .ok (.aload_n 0, 1) := by decide +kernel
theorem dX10_share_9 : decode cX10_share 9 = .ok (.iload_n 1, 1) := by decide +kernel
theorem dX10_share_10 : decode cX10_share 10 = .ok (.iconst 2, 1) := by decide +kernel
theorem dX10_share_11 : decode cX10_share 11 = .ok (.invokevirtual 41, 3) := by decide +kernel
theorem dX10_share_14 : decode cX10_share 14 = .ok (.idiv, 1) := by decide +kernel
theorem dX10_share_15 : decode cX10_share 15 = .ok (.ireturn, 1) := by decide +kernel
def w_X10_share (p0 : Int32) (p1 : Int32) (mm : Mm) (Q9 : Int32 → Prop) : Prop :=
  w_X10_of p0 3 mm (fun (r_1 : Int32) => w_X10_of p0 2 mm (fun (r_3 : Int32) => ¬ r_3 = 0 ∧ (Q9 ((r_1 * p1) / r_3))))
def rm_X10_share : Room := { frames := 1, cells := 0, slots := 0, locals := 22 }
theorem hy_X10_share : yX10_share.cls = RX10 ∧ yX10_share.cls ≠ "java/lang/invoke/MethodHandle" ∧ yX10_share.cls ≠ "java/lang/invoke/VarHandle" ∧ (parseMethodDescriptor yX10_share.desc).map (fun d => d.parameters.length) = some 2 := by decide +kernel
set_option maxRecDepth 100000 in
set_option maxHeartbeats 4000000 in
theorem c_X10_share {l : Launch} {D : va_G} {cA : Nat → ClassId} {ad : Nat → Nat → Nat} {A : Nat → Prop} (ax : Ax ad GM A) (p0 : Int32) (p1 : Int32) (mm : Mm) (Q9 : Int32 → Prop) (h : w_X10_share p0 p1 mm Q9) : Met l yX10_share (.code yX10_share cX10_share 3 (some .int) :: TG) rm_X10_share (PcM TT D cA ad false GM (ZM) [.ref (ad 30 1), .int p0, .int p1] mm) (AnsI TT D cA ad false GM A (fun r mm' => Q9 r ∧ mm = mm')) 0 0 A := by
  have zo := ZM_ok A
  unfold w_X10_share at h
  refine enterI pl_X10 ⟨rfl, rfl⟩ rfl (Nat.le_of_ble_eq_true rfl) ?_
  intro p e s m args below meth c QQ X hK hZ hnm hE
  refine q_aload_n (j := 0) X dX10_share_0 rfl rfl ?_
  refine q_iload_n (j := 1) X dX10_share_1 rfl rfl ?_
  refine q_iconst (v := 3) X dX10_share_2 (by decide) ?_
  refine q_calli (q_runV X hK hZ zo (gm (t := 30) (by decide) (ok1 (t := 30) (Nat.le_of_ble_eq_true rfl))) rfl rfl [.int p0, .int 3] [] rfl rfl (Nat.le_of_ble_eq_true rfl) dX10_share_3 ⟨Nat.le_of_ble_eq_true rfl, Nat.le_of_ble_eq_true rfl⟩ (c_X10_of ax p0 3 mm _ h) rfl rfl (gV kw_7_95 kw_7_97 ks_88 kw_1_11 kw_7_98) hy_X10_of ⟨Nat.le_of_ble_eq_true rfl, Nat.le_of_ble_eq_true rfl⟩) (fun r_1 m_2 h => ?_)
  obtain ⟨h, hm⟩ := h
  subst hm
  refine q_iload_n (j := 2) X dX10_share_6 rfl rfl ?_
  refine q_imul X dX10_share_7 ?_
  refine q_aload_n (j := 0) X dX10_share_8 rfl rfl ?_
  refine q_iload_n (j := 1) X dX10_share_9 rfl rfl ?_
  refine q_iconst (v := 2) X dX10_share_10 (by decide) ?_
  refine q_calli (q_runV X hK hZ zo (gm (t := 30) (by decide) (ok1 (t := 30) (Nat.le_of_ble_eq_true rfl))) rfl rfl [.int p0, .int 2] [.int (r_1 * p1)] rfl rfl (Nat.le_of_ble_eq_true rfl) dX10_share_11 ⟨Nat.le_of_ble_eq_true rfl, Nat.le_of_ble_eq_true rfl⟩ (c_X10_of ax p0 2 mm _ h) rfl rfl (gV kw_7_95 kw_7_97 ks_88 kw_1_11 kw_7_98) hy_X10_of ⟨Nat.le_of_ble_eq_true rfl, Nat.le_of_ble_eq_true rfl⟩) (fun r_3 m_4 h => ?_)
  obtain ⟨h, hm⟩ := h
  subst hm
  obtain ⟨c_5, h⟩ := h
  refine q_idiv X dX10_share_14 c_5 ?_
  exact hE _ _ _ _ dX10_share_15 ⟨h, rfl⟩
theorem dX10_isLate_0 : decode cX10_isLate 0 = .ok (.aload_n 0, 1) := by decide +kernel
theorem dX10_isLate_1 : decode cX10_isLate 1 = .ok (.iload_n 1, 1) := by decide +kernel
theorem dX10_isLate_2 : decode cX10_isLate 2 = .ok (.iconst 5, 1) := by decide +kernel
theorem dX10_isLate_3 : decode cX10_isLate 3 = .ok (.invokevirtual 41, 3) := by decide +kernel
theorem dX10_isLate_6 : decode cX10_isLate 6 = .ok (.sipush 200, 3) := by decide +kernel
theorem dX10_isLate_9 : decode cX10_isLate 9 = .ok (.if_icmp .le 7, 3) := by decide +kernel
theorem dX10_isLate_12 : decode cX10_isLate 12 = .ok (.iconst 1, 1) := by decide +kernel
theorem dX10_isLate_13 : decode cX10_isLate 13 = .ok (.goto 4, 3) := by decide +kernel
theorem dX10_isLate_16 : decode cX10_isLate 16 = .ok (.iconst 0, 1) := by decide +kernel
theorem dX10_isLate_17 : decode cX10_isLate 17 = .ok (.ireturn, 1) := by decide +kernel
def w_X10_isLate (p0 : Int32) (mm : Mm) (Q9 : Int32 → Prop) : Prop :=
  w_X10_of p0 5 mm (fun (r_1 : Int32) => ((r_1 ≤ 200 → Q9 0) ∧
  (¬ r_1 ≤ 200 → Q9 1)))
def rm_X10_isLate : Room := { frames := 1, cells := 0, slots := 0, locals := 22 }
theorem hy_X10_isLate : yX10_isLate.cls = RX10 ∧ yX10_isLate.cls ≠ "java/lang/invoke/MethodHandle" ∧ yX10_isLate.cls ≠ "java/lang/invoke/VarHandle" ∧ (parseMethodDescriptor yX10_isLate.desc).map (fun d => d.parameters.length) = some 1 := by decide +kernel
set_option maxRecDepth 100000 in
set_option maxHeartbeats 4000000 in
theorem c_X10_isLate {l : Launch} {D : va_G} {cA : Nat → ClassId} {ad : Nat → Nat → Nat} {A : Nat → Prop} (ax : Ax ad GM A) (p0 : Int32) (mm : Mm) (Q9 : Int32 → Prop) (h : w_X10_isLate p0 mm Q9) : Met l yX10_isLate (.code yX10_isLate cX10_isLate 2 (some .boolean) :: TG) rm_X10_isLate (PcM TT D cA ad false GM (ZM) [.ref (ad 30 1), .int p0] mm) (AnsI TT D cA ad false GM A (fun r mm' => Q9 r ∧ mm = mm')) 0 0 A := by
  have zo := ZM_ok A
  unfold w_X10_isLate at h
  refine enterZ pl_X10 ⟨rfl, rfl⟩ rfl (Nat.le_of_ble_eq_true rfl) ?_
  intro p e s m args below meth c QQ X hK hZ hnm hE
  refine q_aload_n (j := 0) X dX10_isLate_0 rfl rfl ?_
  refine q_iload_n (j := 1) X dX10_isLate_1 rfl rfl ?_
  refine q_iconst (v := 5) X dX10_isLate_2 (by decide) ?_
  refine q_calli (q_runV X hK hZ zo (gm (t := 30) (by decide) (ok1 (t := 30) (Nat.le_of_ble_eq_true rfl))) rfl rfl [.int p0, .int 5] [] rfl rfl (Nat.le_of_ble_eq_true rfl) dX10_isLate_3 ⟨Nat.le_of_ble_eq_true rfl, Nat.le_of_ble_eq_true rfl⟩ (c_X10_of ax p0 5 mm _ h) rfl rfl (gV kw_7_95 kw_7_97 ks_88 kw_1_11 kw_7_98) hy_X10_of ⟨Nat.le_of_ble_eq_true rfl, Nat.le_of_ble_eq_true rfl⟩) (fun r_1 m_2 h => ?_)
  obtain ⟨h, hm⟩ := h
  subst hm
  refine q_sipush (v := 200) X dX10_isLate_6 (by decide) ?_
  refine q_icmp_le (tgt := 16) X dX10_isLate_9 (by decide) (fun c_3 => ?_) (fun c_3 => ?_)
  · have h := h.1 c_3
    refine q_iconst (v := 0) X dX10_isLate_16 (by decide) ?_
    exact hE _ _ _ _ dX10_isLate_17 (Or.inl rfl) ⟨h, rfl⟩
  · have h := h.2 c_3
    refine q_iconst (v := 1) X dX10_isLate_12 (by decide) ?_
    refine q_goto (tgt := 17) X dX10_isLate_13 (by decide) ?_
    exact hE _ _ _ _ dX10_isLate_17 (Or.inr rfl) ⟨h, rfl⟩
theorem dX10_dutyPart_0 : decode cX10_dutyPart 0 = .ok (.aload_n 0, 1) := by decide +kernel
theorem dX10_dutyPart_1 : decode cX10_dutyPart 1 = .ok (.aload_n 0, 1) := by decide +kernel
theorem dX10_dutyPart_2 : decode cX10_dutyPart 2 = .ok (.iload_n 1, 1) := by decide +kernel
theorem dX10_dutyPart_3 : decode cX10_dutyPart 3 = .ok (.iconst 1, 1) := by decide +kernel
theorem dX10_dutyPart_4 : decode cX10_dutyPart 4 = .ok (.invokevirtual 41, 3) := by decide +kernel
theorem dX10_dutyPart_7 : decode cX10_dutyPart 7 = .ok (.aload_n 0, 1) := by decide +kernel
theorem dX10_dutyPart_8 : decode cX10_dutyPart 8 = .ok (.iload_n 1, 1) := by decide +kernel
theorem dX10_dutyPart_9 : decode cX10_dutyPart 9 = .ok (.iload_n 2, 1) := by decide +kernel
theorem dX10_dutyPart_10 : decode cX10_dutyPart 10 = .ok (.invokevirtual 48, 3) := by decide +kernel
theorem dX10_dutyPart_13 : decode cX10_dutyPart 13 = .ok (.iload_n 2, 1) := by decide +kernel
theorem dX10_dutyPart_14 : decode cX10_dutyPart 14 = .ok (.aload_n 0, 1) := by decide +kernel
theorem dX10_dutyPart_15 : decode cX10_dutyPart 15 = .ok (.iload_n 1, 1) := by decide +kernel
theorem dX10_dutyPart_16 : decode cX10_dutyPart 16 = .ok (.invokevirtual 51, 3) := by decide +kernel
theorem dX10_dutyPart_19 : decode cX10_dutyPart 19 = .ok (.invokevirtual 55, 3) := by decide +kernel
theorem dX10_dutyPart_22 : decode cX10_dutyPart 22 = .ok (.ireturn, 1) := by decide +kernel
def w_X10_dutyPart (p0 : Int32) (p1 : Int32) (mm : Mm) (Q9 : Int32 → Prop) : Prop :=
  w_X10_of p0 1 mm (fun (r_1 : Int32) => w_X10_share p0 p1 mm (fun (r_3 : Int32) => w_X10_isLate p0 mm (fun (r_5 : Int32) => w_X10_duty r_1 r_3 p1 r_5 mm (fun (r_7 : Int32) => Q9 r_7))))
def rm_X10_dutyPart : Room := { frames := 2, cells := 0, slots := 0, locals := 46 }
theorem hy_X10_dutyPart : yX10_dutyPart.cls = RX10 ∧ yX10_dutyPart.cls ≠ "java/lang/invoke/MethodHandle" ∧ yX10_dutyPart.cls ≠ "java/lang/invoke/VarHandle" ∧ (parseMethodDescriptor yX10_dutyPart.desc).map (fun d => d.parameters.length) = some 2 := by decide +kernel
set_option maxRecDepth 100000 in
set_option maxHeartbeats 4000000 in
theorem c_X10_dutyPart {l : Launch} {D : va_G} {cA : Nat → ClassId} {ad : Nat → Nat → Nat} {A : Nat → Prop} (ax : Ax ad GM A) (p0 : Int32) (p1 : Int32) (mm : Mm) (Q9 : Int32 → Prop) (h : w_X10_dutyPart p0 p1 mm Q9) : Met l yX10_dutyPart (.code yX10_dutyPart cX10_dutyPart 3 (some .int) :: TG) rm_X10_dutyPart (PcM TT D cA ad false GM (ZM) [.ref (ad 30 1), .int p0, .int p1] mm) (AnsI TT D cA ad false GM A (fun r mm' => Q9 r ∧ mm = mm')) 0 0 A := by
  have zo := ZM_ok A
  unfold w_X10_dutyPart at h
  refine enterI pl_X10 ⟨rfl, rfl⟩ rfl (Nat.le_of_ble_eq_true rfl) ?_
  intro p e s m args below meth c QQ X hK hZ hnm hE
  refine q_aload_n (j := 0) X dX10_dutyPart_0 rfl rfl ?_
  refine q_aload_n (j := 0) X dX10_dutyPart_1 rfl rfl ?_
  refine q_iload_n (j := 1) X dX10_dutyPart_2 rfl rfl ?_
  refine q_iconst (v := 1) X dX10_dutyPart_3 (by decide) ?_
  refine q_calli (q_runV X hK hZ zo (gm (t := 30) (by decide) (ok1 (t := 30) (Nat.le_of_ble_eq_true rfl))) rfl rfl [.int p0, .int 1] [.ref (ad 30 1)] rfl rfl (Nat.le_of_ble_eq_true rfl) dX10_dutyPart_4 ⟨Nat.le_of_ble_eq_true rfl, Nat.le_of_ble_eq_true rfl⟩ (c_X10_of ax p0 1 mm _ h) rfl rfl (gV kw_7_95 kw_7_97 ks_88 kw_1_11 kw_7_98) hy_X10_of ⟨Nat.le_of_ble_eq_true rfl, Nat.le_of_ble_eq_true rfl⟩) (fun r_1 m_2 h => ?_)
  obtain ⟨h, hm⟩ := h
  subst hm
  refine q_aload_n (j := 0) X dX10_dutyPart_7 rfl rfl ?_
  refine q_iload_n (j := 1) X dX10_dutyPart_8 rfl rfl ?_
  refine q_iload_n (j := 2) X dX10_dutyPart_9 rfl rfl ?_
  refine q_calli (q_runV X hK hZ zo (gm (t := 30) (by decide) (ok1 (t := 30) (Nat.le_of_ble_eq_true rfl))) rfl rfl [.int p0, .int p1] [.int r_1, .ref (ad 30 1)] rfl rfl (Nat.le_of_ble_eq_true rfl) dX10_dutyPart_10 ⟨Nat.le_of_ble_eq_true rfl, Nat.le_of_ble_eq_true rfl⟩ (c_X10_share ax p0 p1 mm _ h) rfl rfl (gV kw_7_111 kw_7_113 ks_92 kw_1_11 kw_7_114) hy_X10_share ⟨Nat.le_of_ble_eq_true rfl, Nat.le_of_ble_eq_true rfl⟩) (fun r_3 m_4 h => ?_)
  obtain ⟨h, hm⟩ := h
  subst hm
  refine q_iload_n (j := 2) X dX10_dutyPart_13 rfl rfl ?_
  refine q_aload_n (j := 0) X dX10_dutyPart_14 rfl rfl ?_
  refine q_iload_n (j := 1) X dX10_dutyPart_15 rfl rfl ?_
  refine q_calli (q_runV X hK hZ zo (gm (t := 30) (by decide) (ok1 (t := 30) (Nat.le_of_ble_eq_true rfl))) rfl rfl [.int p0] [.int p1, .int r_3, .int r_1, .ref (ad 30 1)] rfl rfl (Nat.le_of_ble_eq_true rfl) dX10_dutyPart_16 ⟨Nat.le_of_ble_eq_true rfl, Nat.le_of_ble_eq_true rfl⟩ (c_X10_isLate ax p0 mm _ h) rfl rfl (gV kw_7_115 kw_7_117 ks_93 kw_1_11 kw_7_118) hy_X10_isLate ⟨Nat.le_of_ble_eq_true rfl, Nat.le_of_ble_eq_true rfl⟩) (fun r_5 m_6 h => ?_)
  obtain ⟨h, hm⟩ := h
  subst hm
  refine q_calli (q_runV X hK hZ zo (gm (t := 30) (by decide) (ok1 (t := 30) (Nat.le_of_ble_eq_true rfl))) rfl rfl [.int r_1, .int r_3, .int p1, .int r_5] [] rfl rfl (Nat.le_of_ble_eq_true rfl) dX10_dutyPart_19 ⟨Nat.le_of_ble_eq_true rfl, Nat.le_of_ble_eq_true rfl⟩ (c_X10_duty ax r_1 r_3 p1 r_5 mm _ h) rfl rfl (gV kw_7_119 kw_7_121 ks_94 kw_1_11 kw_7_122) hy_X10_duty ⟨Nat.le_of_ble_eq_true rfl, Nat.le_of_ble_eq_true rfl⟩) (fun r_7 m_8 h => ?_)
  obtain ⟨h, hm⟩ := h
  subst hm
  exact hE _ _ _ _ dX10_dutyPart_22 ⟨h, rfl⟩
theorem dX10_dutyAll_0 : decode cX10_dutyAll 0 = .ok (.aload_n 0, 1) := by decide +kernel
theorem dX10_dutyAll_1 : decode cX10_dutyAll 1 = .ok (.iload_n 1, 1) := by decide +kernel
theorem dX10_dutyAll_2 : decode cX10_dutyAll 2 = .ok (.aload_n 0, 1) := by decide +kernel
theorem dX10_dutyAll_3 : decode cX10_dutyAll 3 = .ok (.iload_n 1, 1) := by decide +kernel
theorem dX10_dutyAll_4 : decode cX10_dutyAll 4 = .ok (.iconst 2, 1) := by decide +kernel
theorem dX10_dutyAll_5 : decode cX10_dutyAll 5 = .ok (.invokevirtual 41, 3) := by decide +kernel
theorem dX10_dutyAll_8 : decode cX10_dutyAll 8 = .ok (.invokevirtual 59, 3) := by decide +kernel
theorem dX10_dutyAll_11 : decode cX10_dutyAll 11 = .ok (.ireturn, 1) := by decide +kernel
def w_X10_dutyAll (p0 : Int32) (mm : Mm) (Q9 : Int32 → Prop) : Prop :=
  w_X10_of p0 2 mm (fun (r_1 : Int32) => w_X10_dutyPart p0 r_1 mm (fun (r_3 : Int32) => Q9 r_3))
def rm_X10_dutyAll : Room := { frames := 3, cells := 0, slots := 0, locals := 68 }
theorem hy_X10_dutyAll : yX10_dutyAll.cls = RX10 ∧ yX10_dutyAll.cls ≠ "java/lang/invoke/MethodHandle" ∧ yX10_dutyAll.cls ≠ "java/lang/invoke/VarHandle" ∧ (parseMethodDescriptor yX10_dutyAll.desc).map (fun d => d.parameters.length) = some 1 := by decide +kernel
set_option maxRecDepth 100000 in
set_option maxHeartbeats 4000000 in
theorem c_X10_dutyAll {l : Launch} {D : va_G} {cA : Nat → ClassId} {ad : Nat → Nat → Nat} {A : Nat → Prop} (ax : Ax ad GM A) (p0 : Int32) (mm : Mm) (Q9 : Int32 → Prop) (h : w_X10_dutyAll p0 mm Q9) : Met l yX10_dutyAll (.code yX10_dutyAll cX10_dutyAll 2 (some .int) :: TG) rm_X10_dutyAll (PcM TT D cA ad false GM (ZM) [.ref (ad 30 1), .int p0] mm) (AnsI TT D cA ad false GM A (fun r mm' => Q9 r ∧ mm = mm')) 0 0 A := by
  have zo := ZM_ok A
  unfold w_X10_dutyAll at h
  refine enterI pl_X10 ⟨rfl, rfl⟩ rfl (Nat.le_of_ble_eq_true rfl) ?_
  intro p e s m args below meth c QQ X hK hZ hnm hE
  refine q_aload_n (j := 0) X dX10_dutyAll_0 rfl rfl ?_
  refine q_iload_n (j := 1) X dX10_dutyAll_1 rfl rfl ?_
  refine q_aload_n (j := 0) X dX10_dutyAll_2 rfl rfl ?_
  refine q_iload_n (j := 1) X dX10_dutyAll_3 rfl rfl ?_
  refine q_iconst (v := 2) X dX10_dutyAll_4 (by decide) ?_
  refine q_calli (q_runV X hK hZ zo (gm (t := 30) (by decide) (ok1 (t := 30) (Nat.le_of_ble_eq_true rfl))) rfl rfl [.int p0, .int 2] [.int p0, .ref (ad 30 1)] rfl rfl (Nat.le_of_ble_eq_true rfl) dX10_dutyAll_5 ⟨Nat.le_of_ble_eq_true rfl, Nat.le_of_ble_eq_true rfl⟩ (c_X10_of ax p0 2 mm _ h) rfl rfl (gV kw_7_95 kw_7_97 ks_88 kw_1_11 kw_7_98) hy_X10_of ⟨Nat.le_of_ble_eq_true rfl, Nat.le_of_ble_eq_true rfl⟩) (fun r_1 m_2 h => ?_)
  obtain ⟨h, hm⟩ := h
  subst hm
  refine q_calli (q_runV X hK hZ zo (gm (t := 30) (by decide) (ok1 (t := 30) (Nat.le_of_ble_eq_true rfl))) rfl rfl [.int p0, .int r_1] [] rfl rfl (Nat.le_of_ble_eq_true rfl) dX10_dutyAll_8 ⟨Nat.le_of_ble_eq_true rfl, Nat.le_of_ble_eq_true rfl⟩ (c_X10_dutyPart ax p0 r_1 mm _ h) rfl rfl (gV kw_7_107 kw_7_109 ks_91 kw_1_11 kw_7_110) hy_X10_dutyPart ⟨Nat.le_of_ble_eq_true rfl, Nat.le_of_ble_eq_true rfl⟩) (fun r_3 m_4 h => ?_)
  obtain ⟨h, hm⟩ := h
  subst hm
  exact hE _ _ _ _ dX10_dutyAll_11 ⟨h, rfl⟩
theorem dX10_stake_0 : decode cX10_stake 0 = .ok (.iconst 0, 1) := by decide +kernel
theorem dX10_stake_1 : decode cX10_stake 1 = .ok (.istore_n 1, 1) := by decide +kernel
theorem dX10_stake_2 : decode cX10_stake 2 = .ok (.iconst 0, 1) := by decide +kernel
theorem dX10_stake_3 : decode cX10_stake 3 = .ok (.istore_n 2, 1) := by decide +kernel
theorem dX10_stake_4 : decode cX10_stake 4 = .ok (.iload_n 2, 1) := by decide +kernel
theorem dX10_stake_5 : decode cX10_stake 5 = .ok (.aload_n 0, 1) := by decide +kernel
theorem dX10_stake_6 : decode cX10_stake 6 = .ok (.getfield 13, 3) := by decide +kernel
theorem dX10_stake_9 : decode cX10_stake 9 = .ok (.bipush 117, 2) := by decide +kernel
theorem dX10_stake_11 : decode cX10_stake 11 = .ok (.iaload, 1) := by decide +kernel
theorem dX10_stake_12 : decode cX10_stake 12 = .ok (.if_icmp .ge 17, 3) := by decide +kernel
theorem dX10_stake_15 : decode cX10_stake 15 = .ok (.iload_n 1, 1) := by decide +kernel
theorem dX10_stake_16 : decode cX10_stake 16 = .ok (.aload_n 0, 1) := by decide +kernel
theorem dX10_stake_17 : decode cX10_stake 17 = .ok (.iload_n 2, 1) := by decide +kernel
theorem dX10_stake_18 : decode cX10_stake 18 = .ok (.invokevirtual 62, 3) := by decide +kernel
theorem dX10_stake_21 : decode cX10_stake 21 = .ok (.iadd, 1) := by decide +kernel
theorem dX10_stake_22 : decode cX10_stake 22 = .ok (.istore_n 1, 1) := by decide +kernel
theorem dX10_stake_23 : decode cX10_stake 23 = .ok (.iinc 2 1, 3) := by decide +kernel
theorem dX10_stake_26 : decode cX10_stake 26 = .ok (.goto (-22), 3) := by decide +kernel
theorem dX10_stake_29 : decode cX10_stake 29 = .ok (.iload_n 1, 1) := by decide +kernel
theorem dX10_stake_30 : decode cX10_stake 30 = .ok (.ireturn, 1) := by decide +kernel
def w_X10_stake_B4 (mm : Mm) (Q9 : Int32 → Prop) (K_3 : Int32 → Int32 → Prop) (y_1 : Int32) (y_2 : Int32) : Prop :=
  (((mm.1 32 1 117) ≤ y_2 → Q9 y_1) ∧
  (¬ (mm.1 32 1 117) ≤ y_2 → w_X10_dutyAll y_2 mm (fun (r_6 : Int32) => ∀ x_8 : Int32, x_8 = (y_1 + r_6) → (∀ x_9 : Int32, x_9 = y_2 + 1 → (K_3 x_8 x_9)))))
def w_X10_stake  (mm : Mm) (Q9 : Int32 → Prop) : Prop :=
  ∃ n, itr (α := Int32 × Int32) (fun K a => w_X10_stake_B4 mm Q9 (fun z0 z1 => K (z0, z1)) a.1 a.2) n (0, 0)
def rm_X10_stake : Room := { frames := 4, cells := 0, slots := 0, locals := 89 }
theorem hy_X10_stake : yX10_stake.cls = RX10 ∧ yX10_stake.cls ≠ "java/lang/invoke/MethodHandle" ∧ yX10_stake.cls ≠ "java/lang/invoke/VarHandle" ∧ (parseMethodDescriptor yX10_stake.desc).map (fun d => d.parameters.length) = some 0 := by decide +kernel
set_option maxRecDepth 100000 in
set_option maxHeartbeats 4000000 in
theorem c_X10_stake {l : Launch} {D : va_G} {cA : Nat → ClassId} {ad : Nat → Nat → Nat} {A : Nat → Prop} (ax : Ax ad GM A)  (mm : Mm) (Q9 : Int32 → Prop) (h : w_X10_stake mm Q9) : Met l yX10_stake (.code yX10_stake cX10_stake 3 (some .int) :: TG) rm_X10_stake (PcM TT D cA ad false GM (ZM) [.ref (ad 30 1)] mm) (AnsI TT D cA ad false GM A (fun r mm' => Q9 r ∧ mm = mm')) 0 0 A := by
  have zo := ZM_ok A
  unfold w_X10_stake at h
  refine enterI pl_X10 ⟨rfl, rfl⟩ rfl (Nat.le_of_ble_eq_true rfl) ?_
  intro p e s m args below meth c QQ X hK hZ hnm hE
  refine q_iconst (v := 0) X dX10_stake_0 (by decide) ?_
  refine q_istore_n (lv' := [(1, .int 0), (0, .ref (ad 30 1))]) X dX10_stake_1 rfl (by decide) rfl ?_
  refine q_iconst (v := 0) X dX10_stake_2 (by decide) ?_
  refine q_istore_n (lv' := [(2, .int 0), (1, .int 0), (0, .ref (ad 30 1))]) X dX10_stake_3 rfl (by decide) rfl ?_
  refine q_sub [2, 1, 0] rfl ?_
  have L4 : ∀ (n : Nat) (y_1 : Int32) (y_2 : Int32), itr (α := Int32 × Int32) (fun K a => w_X10_stake_B4 mm Q9 (fun z0 z1 => K (z0, z1)) a.1 a.2) n (y_1, y_2) → V p l e rm_X10_stake s m args below meth c QQ 3 A 0 0 (Rep TT D cA ad false GM mm) 4 [(0, .ref (ad 30 1)), (1, .int y_1), (2, .int y_2)] [] := by
    intro n
    induction n with
    | zero => intro y_1 y_2 h; exact h.elim
    | succ n ih_4 =>
      intro y_1 y_2 h
      have h : w_X10_stake_B4 mm Q9 (fun z0 z1 => itr (α := Int32 × Int32) (fun K a => w_X10_stake_B4 mm Q9 (fun z0 z1 => K (z0, z1)) a.1 a.2) n (z0, z1)) y_1 y_2 := h
      unfold w_X10_stake_B4 at h
      refine q_iload_n (j := 2) X dX10_stake_4 rfl rfl ?_
      refine q_aload_n (j := 0) X dX10_stake_5 rfl rfl ?_
      refine q_get (k := 3) (v := .ref (ad 32 1)) X hK rfl rfl (Nat.le_of_ble_eq_true rfl) inTX10 (gm (t := 30) (by decide) (ok1 (t := 30) (Nat.le_of_ble_eq_true rfl))) kw_7_10 rfl (rv_nn (a := ad 32) (r := 1) (ok1 (t := 32) (Nat.le_of_ble_eq_true rfl)).1) dX10_stake_6 ?_
      refine q_bipush (v := 117) X dX10_stake_9 (by decide) ?_
      refine q_iald (t := 32) (i := 1) (jn := 117) (v := .int (mm.1 32 1 117)) X hK rfl rfl (gm (t := 32) (by decide) (ok1 (t := 32) (Nat.le_of_ble_eq_true rfl))) rfl (vpl (by decide +kernel)) (by decide +kernel) rfl dX10_stake_11 ?_
      refine q_icmp_ge (tgt := 29) X dX10_stake_12 (by decide) (fun c_5 => ?_) (fun c_5 => ?_)
      · have h := h.1 c_5
        refine q_iload_n (j := 1) X dX10_stake_29 rfl rfl ?_
        exact hE _ _ _ _ dX10_stake_30 ⟨h, rfl⟩
      · have h := h.2 c_5
        refine q_iload_n (j := 1) X dX10_stake_15 rfl rfl ?_
        refine q_aload_n (j := 0) X dX10_stake_16 rfl rfl ?_
        refine q_iload_n (j := 2) X dX10_stake_17 rfl rfl ?_
        refine q_calli (q_runV X hK hZ zo (gm (t := 30) (by decide) (ok1 (t := 30) (Nat.le_of_ble_eq_true rfl))) rfl rfl [.int y_2] [.int y_1] rfl rfl (Nat.le_of_ble_eq_true rfl) dX10_stake_18 ⟨Nat.le_of_ble_eq_true rfl, Nat.le_of_ble_eq_true rfl⟩ (c_X10_dutyAll ax y_2 mm _ h) rfl rfl (gV kw_7_103 kw_7_105 ks_90 kw_1_11 kw_7_106) hy_X10_dutyAll ⟨Nat.le_of_ble_eq_true rfl, Nat.le_of_ble_eq_true rfl⟩) (fun r_6 m_7 h => ?_)
        obtain ⟨h, hm⟩ := h
        subst hm
        refine q_iadd X dX10_stake_21 ?_
        refine q_topi (fun x_8 ex_8 => ?_)
        have h := h x_8 ex_8
        refine q_istore_n (lv' := [(1, .int x_8), (0, .ref (ad 30 1)), (2, .int y_2)]) X dX10_stake_22 rfl (by decide) rfl ?_
        obtain ⟨x_9, ex_9⟩ : ∃ z : Int32, z = y_2 + 1 := ⟨_, rfl⟩
        have h := h x_9 ex_9
        refine q_iinc (j := 2) (v := x_9) (lv' := [(2, .int x_9), (1, .int x_8), (0, .ref (ad 30 1))]) X dX10_stake_23 rfl (by rw [ex_9]; rfl) (by decide) rfl ?_
        refine q_goto (tgt := 4) X dX10_stake_26 (by decide) ?_
        refine q_sub [2, 1, 0] rfl ?_
        exact ih_4 x_8 x_9 h
  obtain ⟨n_10, h⟩ := h
  exact L4 n_10 0 0 h
theorem dX10_room_0 : decode cX10_room 0 = .ok (.sipush 2000, 3) := by decide +kernel
theorem dX10_room_3 : decode cX10_room 3 = .ok (.istore_n 2, 1) := by decide +kernel
theorem dX10_room_4 : decode cX10_room 4 = .ok (.iconst 0, 1) := by decide +kernel
theorem dX10_room_5 : decode cX10_room 5 = .ok (.istore_n 3, 1) := by decide +kernel
theorem dX10_room_6 : decode cX10_room 6 = .ok (.iload_n 3, 1) := by decide +kernel
theorem dX10_room_7 : decode cX10_room 7 = .ok (.aload_n 0, 1) := by decide +kernel
theorem dX10_room_8 : decode cX10_room 8 = .ok (.getfield 13, 3) := by decide +kernel
theorem dX10_room_11 : decode cX10_room 11 = .ok (.bipush 117, 2) := by decide +kernel
theorem dX10_room_13 : decode cX10_room 13 = .ok (.iaload, 1) := by decide +kernel
theorem dX10_room_14 : decode cX10_room 14 = .ok (.if_icmp .ge 32, 3) := by decide +kernel
theorem dX10_room_17 : decode cX10_room 17 = .ok (.iload_n 2, 1) := by decide +kernel
theorem dX10_room_18 : decode cX10_room 18 = .ok (.aload_n 0, 1) := by decide +kernel
theorem dX10_room_19 : decode cX10_room 19 = .ok (.iload_n 3, 1) := by decide +kernel
theorem dX10_room_20 : decode cX10_room 20 = .ok (.iconst 4, 1) := by decide +kernel
theorem dX10_room_21 : decode cX10_room 21 = .ok (.invokevirtual 41, 3) := by decide +kernel
theorem dX10_room_24 : decode cX10_room 24 = .ok (.iload_n 1, 1) := by decide +kernel
theorem dX10_room_25 : decode cX10_room 25 = .ok (.if_icmp .ne 12, 3) := by decide +kernel
theorem dX10_room_28 : decode cX10_room 28 = .ok (.aload_n 0, 1) := by decide +kernel
theorem dX10_room_29 : decode cX10_room 29 = .ok (.iload_n 3, 1) := by decide +kernel
theorem dX10_room_30 : decode cX10_room 30 = .ok (.iconst 2, 1) := by decide +kernel
theorem dX10_room_31 : decode cX10_room 31 = .ok (.invokevirtual 41, 3) := by decide +kernel
theorem dX10_room_34 : decode cX10_room 34 = .ok (.goto 4, 3) := by decide +kernel
theorem dX10_room_37 : decode cX10_room 37 = .ok (.iconst 0, 1) := by decide +kernel
theorem dX10_room_38 : decode cX10_room 38 = .ok (.isub, 1) := by decide +kernel
theorem dX10_room_39 : decode cX10_room 39 = .ok (.istore_n 2, 1) := by decide +kernel
theorem dX10_room_40 : decode cX10_room 40 = .ok (.iinc 3 1, 3) := by decide +kernel
theorem dX10_room_43 : decode cX10_room 43 = .ok (.goto (-37), 3) := by decide +kernel
theorem dX10_room_46 : decode cX10_room 46 = .ok (.iload_n 2, 1) := by decide +kernel
theorem dX10_room_47 : decode cX10_room 47 = .ok (.ireturn, 1) := by decide +kernel
def w_X10_room_B6 (p0 : Int32) (mm : Mm) (Q9 : Int32 → Prop) (K_3 : Int32 → Int32 → Prop) (y_1 : Int32) (y_2 : Int32) : Prop :=
  (((mm.1 32 1 117) ≤ y_2 → Q9 y_1) ∧
  (¬ (mm.1 32 1 117) ≤ y_2 → w_X10_of y_2 4 mm (fun (r_6 : Int32) => ((¬ r_6 = p0 → ∀ x_9 : Int32, x_9 = (y_1 - 0) → (∀ x_10 : Int32, x_10 = y_2 + 1 → (K_3 x_9 x_10))) ∧
  (r_6 = p0 → w_X10_of y_2 2 mm (fun (r_11 : Int32) => ∀ x_13 : Int32, x_13 = (y_1 - r_11) → (∀ x_14 : Int32, x_14 = y_2 + 1 → (K_3 x_13 x_14))))))))
def w_X10_room (p0 : Int32) (mm : Mm) (Q9 : Int32 → Prop) : Prop :=
  ∃ n, itr (α := Int32 × Int32) (fun K a => w_X10_room_B6 p0 mm Q9 (fun z0 z1 => K (z0, z1)) a.1 a.2) n (2000, 0)
def rm_X10_room : Room := { frames := 1, cells := 0, slots := 0, locals := 22 }
theorem hy_X10_room : yX10_room.cls = RX10 ∧ yX10_room.cls ≠ "java/lang/invoke/MethodHandle" ∧ yX10_room.cls ≠ "java/lang/invoke/VarHandle" ∧ (parseMethodDescriptor yX10_room.desc).map (fun d => d.parameters.length) = some 1 := by decide +kernel
set_option maxRecDepth 100000 in
set_option maxHeartbeats 4000000 in
theorem c_X10_room {l : Launch} {D : va_G} {cA : Nat → ClassId} {ad : Nat → Nat → Nat} {A : Nat → Prop} (ax : Ax ad GM A) (p0 : Int32) (mm : Mm) (Q9 : Int32 → Prop) (h : w_X10_room p0 mm Q9) : Met l yX10_room (.code yX10_room cX10_room 4 (some .int) :: TG) rm_X10_room (PcM TT D cA ad false GM (ZM) [.ref (ad 30 1), .int p0] mm) (AnsI TT D cA ad false GM A (fun r mm' => Q9 r ∧ mm = mm')) 0 0 A := by
  have zo := ZM_ok A
  unfold w_X10_room at h
  refine enterI pl_X10 ⟨rfl, rfl⟩ rfl (Nat.le_of_ble_eq_true rfl) ?_
  intro p e s m args below meth c QQ X hK hZ hnm hE
  refine q_sipush (v := 2000) X dX10_room_0 (by decide) ?_
  refine q_istore_n (lv' := [(2, .int 2000), (0, .ref (ad 30 1)), (1, .int p0)]) X dX10_room_3 rfl (by decide) rfl ?_
  refine q_iconst (v := 0) X dX10_room_4 (by decide) ?_
  refine q_istore_n (lv' := [(3, .int 0), (2, .int 2000), (0, .ref (ad 30 1)), (1, .int p0)]) X dX10_room_5 rfl (by decide) rfl ?_
  refine q_sub [2, 3, 1, 0] rfl ?_
  have L6 : ∀ (n : Nat) (y_1 : Int32) (y_2 : Int32), itr (α := Int32 × Int32) (fun K a => w_X10_room_B6 p0 mm Q9 (fun z0 z1 => K (z0, z1)) a.1 a.2) n (y_1, y_2) → V p l e rm_X10_room s m args below meth c QQ 4 A 0 0 (Rep TT D cA ad false GM mm) 6 [(0, .ref (ad 30 1)), (1, .int p0), (2, .int y_1), (3, .int y_2)] [] := by
    intro n
    induction n with
    | zero => intro y_1 y_2 h; exact h.elim
    | succ n ih_4 =>
      intro y_1 y_2 h
      have h : w_X10_room_B6 p0 mm Q9 (fun z0 z1 => itr (α := Int32 × Int32) (fun K a => w_X10_room_B6 p0 mm Q9 (fun z0 z1 => K (z0, z1)) a.1 a.2) n (z0, z1)) y_1 y_2 := h
      unfold w_X10_room_B6 at h
      refine q_iload_n (j := 3) X dX10_room_6 rfl rfl ?_
      refine q_aload_n (j := 0) X dX10_room_7 rfl rfl ?_
      refine q_get (k := 3) (v := .ref (ad 32 1)) X hK rfl rfl (Nat.le_of_ble_eq_true rfl) inTX10 (gm (t := 30) (by decide) (ok1 (t := 30) (Nat.le_of_ble_eq_true rfl))) kw_7_10 rfl (rv_nn (a := ad 32) (r := 1) (ok1 (t := 32) (Nat.le_of_ble_eq_true rfl)).1) dX10_room_8 ?_
      refine q_bipush (v := 117) X dX10_room_11 (by decide) ?_
      refine q_iald (t := 32) (i := 1) (jn := 117) (v := .int (mm.1 32 1 117)) X hK rfl rfl (gm (t := 32) (by decide) (ok1 (t := 32) (Nat.le_of_ble_eq_true rfl))) rfl (vpl (by decide +kernel)) (by decide +kernel) rfl dX10_room_13 ?_
      refine q_icmp_ge (tgt := 46) X dX10_room_14 (by decide) (fun c_5 => ?_) (fun c_5 => ?_)
      · have h := h.1 c_5
        refine q_iload_n (j := 2) X dX10_room_46 rfl rfl ?_
        exact hE _ _ _ _ dX10_room_47 ⟨h, rfl⟩
      · have h := h.2 c_5
        refine q_iload_n (j := 2) X dX10_room_17 rfl rfl ?_
        refine q_aload_n (j := 0) X dX10_room_18 rfl rfl ?_
        refine q_iload_n (j := 3) X dX10_room_19 rfl rfl ?_
        refine q_iconst (v := 4) X dX10_room_20 (by decide) ?_
        refine q_calli (q_runV X hK hZ zo (gm (t := 30) (by decide) (ok1 (t := 30) (Nat.le_of_ble_eq_true rfl))) rfl rfl [.int y_2, .int 4] [.int y_1] rfl rfl (Nat.le_of_ble_eq_true rfl) dX10_room_21 ⟨Nat.le_of_ble_eq_true rfl, Nat.le_of_ble_eq_true rfl⟩ (c_X10_of ax y_2 4 mm _ h) rfl rfl (gV kw_7_95 kw_7_97 ks_88 kw_1_11 kw_7_98) hy_X10_of ⟨Nat.le_of_ble_eq_true rfl, Nat.le_of_ble_eq_true rfl⟩) (fun r_6 m_7 h => ?_)
        obtain ⟨h, hm⟩ := h
        subst hm
        refine q_iload_n (j := 1) X dX10_room_24 rfl rfl ?_
        refine q_icmp_ne (tgt := 37) X dX10_room_25 (by decide) (fun c_8 => ?_) (fun c_8 => ?_)
        · have h := h.1 c_8
          refine q_iconst (v := 0) X dX10_room_37 (by decide) ?_
          refine q_isub X dX10_room_38 ?_
          refine q_topi (fun x_9 ex_9 => ?_)
          have h := h x_9 ex_9
          refine q_istore_n (lv' := [(2, .int x_9), (0, .ref (ad 30 1)), (1, .int p0), (3, .int y_2)]) X dX10_room_39 rfl (by decide) rfl ?_
          obtain ⟨x_10, ex_10⟩ : ∃ z : Int32, z = y_2 + 1 := ⟨_, rfl⟩
          have h := h x_10 ex_10
          refine q_iinc (j := 3) (v := x_10) (lv' := [(3, .int x_10), (2, .int x_9), (0, .ref (ad 30 1)), (1, .int p0)]) X dX10_room_40 rfl (by rw [ex_10]; rfl) (by decide) rfl ?_
          refine q_goto (tgt := 6) X dX10_room_43 (by decide) ?_
          refine q_sub [2, 3, 1, 0] rfl ?_
          exact ih_4 x_9 x_10 h
        · have h := h.2 c_8
          refine q_aload_n (j := 0) X dX10_room_28 rfl rfl ?_
          refine q_iload_n (j := 3) X dX10_room_29 rfl rfl ?_
          refine q_iconst (v := 2) X dX10_room_30 (by decide) ?_
          refine q_calli (q_runV X hK hZ zo (gm (t := 30) (by decide) (ok1 (t := 30) (Nat.le_of_ble_eq_true rfl))) rfl rfl [.int y_2, .int 2] [.int y_1] rfl rfl (Nat.le_of_ble_eq_true rfl) dX10_room_31 ⟨Nat.le_of_ble_eq_true rfl, Nat.le_of_ble_eq_true rfl⟩ (c_X10_of ax y_2 2 mm _ h) rfl rfl (gV kw_7_95 kw_7_97 ks_88 kw_1_11 kw_7_98) hy_X10_of ⟨Nat.le_of_ble_eq_true rfl, Nat.le_of_ble_eq_true rfl⟩) (fun r_11 m_12 h => ?_)
          obtain ⟨h, hm⟩ := h
          subst hm
          refine q_goto (tgt := 38) X dX10_room_34 (by decide) ?_
          refine q_isub X dX10_room_38 ?_
          refine q_topi (fun x_13 ex_13 => ?_)
          have h := h x_13 ex_13
          refine q_istore_n (lv' := [(2, .int x_13), (0, .ref (ad 30 1)), (1, .int p0), (3, .int y_2)]) X dX10_room_39 rfl (by decide) rfl ?_
          obtain ⟨x_14, ex_14⟩ : ∃ z : Int32, z = y_2 + 1 := ⟨_, rfl⟩
          have h := h x_14 ex_14
          refine q_iinc (j := 3) (v := x_14) (lv' := [(3, .int x_14), (2, .int x_13), (0, .ref (ad 30 1)), (1, .int p0)]) X dX10_room_40 rfl (by rw [ex_14]; rfl) (by decide) rfl ?_
          refine q_goto (tgt := 6) X dX10_room_43 (by decide) ?_
          refine q_sub [2, 3, 1, 0] rfl ?_
          exact ih_4 x_13 x_14 h
  obtain ⟨n_15, h⟩ := h
  exact L6 n_15 2000 0 h
theorem dX10_isShut_0 : decode cX10_isShut 0 = .ok (.aload_n 0, 1) := by decide +kernel
theorem dX10_isShut_1 : decode cX10_isShut 1 = .ok (.getfield 13, 3) := by decide +kernel
theorem dX10_isShut_4 : decode cX10_isShut 4 = .ok (.bipush 10, 2) := by decide +kernel
theorem dX10_isShut_6 : decode cX10_isShut 6 = .ok (.iload_n 1, 1) := by decide +kernel
theorem dX10_isShut_7 : decode cX10_isShut 7 = .ok (.iadd, 1) := by decide +kernel
theorem dX10_isShut_8 : decode cX10_isShut 8 = .ok (.iaload, 1) := by decide +kernel
theorem dX10_isShut_9 : decode cX10_isShut 9 = .ok (.ifCond .le 7, 3) := by decide +kernel
theorem dX10_isShut_12 : decode cX10_isShut 12 = .ok (.iconst 1, 1) := by decide +kernel
theorem dX10_isShut_13 : decode cX10_isShut 13 = .ok (.goto 4, 3) := by decide +kernel
theorem dX10_isShut_16 : decode cX10_isShut 16 = .ok (.iconst 0, 1) := by decide +kernel
theorem dX10_isShut_17 : decode cX10_isShut 17 = .ok (.ireturn, 1) := by decide +kernel
def w_X10_isShut (p0 : Int32) (mm : Mm) (Q9 : Int32 → Prop) : Prop :=
  vp_in (10 + p0) 246 ∧ ((((mm.1 32 1 (10 + p0).toNatClampNeg) ≤ 0 → Q9 0) ∧
  (¬ (mm.1 32 1 (10 + p0).toNatClampNeg) ≤ 0 → Q9 1)))
def rm_X10_isShut : Room := { frames := 0, cells := 0, slots := 0, locals := 0 }
theorem hy_X10_isShut : yX10_isShut.cls = RX10 ∧ yX10_isShut.cls ≠ "java/lang/invoke/MethodHandle" ∧ yX10_isShut.cls ≠ "java/lang/invoke/VarHandle" ∧ (parseMethodDescriptor yX10_isShut.desc).map (fun d => d.parameters.length) = some 1 := by decide +kernel
set_option maxRecDepth 100000 in
set_option maxHeartbeats 4000000 in
theorem c_X10_isShut {l : Launch} {D : va_G} {cA : Nat → ClassId} {ad : Nat → Nat → Nat} {A : Nat → Prop} (ax : Ax ad GM A) (p0 : Int32) (mm : Mm) (Q9 : Int32 → Prop) (h : w_X10_isShut p0 mm Q9) : Met l yX10_isShut (.code yX10_isShut cX10_isShut 2 (some .boolean) :: TG) rm_X10_isShut (PcM TT D cA ad false GM (ZM) [.ref (ad 30 1), .int p0] mm) (AnsI TT D cA ad false GM A (fun r mm' => Q9 r ∧ mm = mm')) 0 0 A := by
  have zo := ZM_ok A
  unfold w_X10_isShut at h
  refine enterZ pl_X10 ⟨rfl, rfl⟩ rfl (Nat.le_of_ble_eq_true rfl) ?_
  intro p e s m args below meth c QQ X hK hZ hnm hE
  refine q_aload_n (j := 0) X dX10_isShut_0 rfl rfl ?_
  refine q_get (k := 3) (v := .ref (ad 32 1)) X hK rfl rfl (Nat.le_of_ble_eq_true rfl) inTX10 (gm (t := 30) (by decide) (ok1 (t := 30) (Nat.le_of_ble_eq_true rfl))) kw_7_10 rfl (rv_nn (a := ad 32) (r := 1) (ok1 (t := 32) (Nat.le_of_ble_eq_true rfl)).1) dX10_isShut_1 ?_
  refine q_bipush (v := 10) X dX10_isShut_4 (by decide) ?_
  refine q_iload_n (j := 1) X dX10_isShut_6 rfl rfl ?_
  refine q_iadd X dX10_isShut_7 ?_
  obtain ⟨b_1, h⟩ := h
  refine q_iald (t := 32) (i := 1) (jn := (10 + p0).toNatClampNeg) (v := .int (mm.1 32 1 (10 + p0).toNatClampNeg)) X hK rfl rfl (gm (t := 32) (by decide) (ok1 (t := 32) (Nat.le_of_ble_eq_true rfl))) rfl b_1 rfl rfl dX10_isShut_8 ?_
  refine q_if_le (tgt := 16) X dX10_isShut_9 (by decide) (fun c_2 => ?_) (fun c_2 => ?_)
  · have h := h.1 c_2
    refine q_iconst (v := 0) X dX10_isShut_16 (by decide) ?_
    exact hE _ _ _ _ dX10_isShut_17 (Or.inl rfl) ⟨h, rfl⟩
  · have h := h.2 c_2
    refine q_iconst (v := 1) X dX10_isShut_12 (by decide) ?_
    refine q_goto (tgt := 17) X dX10_isShut_13 (by decide) ?_
    exact hE _ _ _ _ dX10_isShut_17 (Or.inr rfl) ⟨h, rfl⟩
theorem dX10_close_0 : decode cX10_close 0 = .ok (.bipush 118, 2) := by decide +kernel
theorem dX10_close_2 : decode cX10_close 2 = .ok (.bipush 8, 2) := by decide +kernel
theorem dX10_close_4 : decode cX10_close 4 = .ok (.iload_n 1, 1) := by decide +kernel
theorem dX10_close_5 : decode cX10_close 5 = .ok (.imul, 1) := by decide +kernel
theorem dX10_close_6 : decode cX10_close 6 = .ok (.iadd, 1) := by decide +kernel
theorem dX10_close_7 : decode cX10_close 7 = .ok (.istore_n 2, 1) := by decide +kernel
theorem dX10_close_8 : decode cX10_close 8 = .ok (.iload_n 2, 1) := by decide +kernel
theorem dX10_close_9 : decode cX10_close 9 = .ok (.bipush 118, 2) := by decide +kernel
theorem dX10_close_11 : decode cX10_close 11 = .ok (.bipush 8, 2) := by decide +kernel
theorem dX10_close_13 : decode cX10_close 13 = .ok (.aload_n 0, 1) := by decide +kernel
theorem dX10_close_14 : decode cX10_close 14 = .ok (.getfield 13, 3) := by decide +kernel
theorem dX10_close_17 : decode cX10_close 17 = .ok (.bipush 117, 2) := by decide +kernel
theorem dX10_close_19 : decode cX10_close 19 = .ok (.iaload, 1) := by decide +kernel
theorem dX10_close_20 : decode cX10_close 20 = .ok (.iconst 1, 1) := by decide +kernel
theorem dX10_close_21 : decode cX10_close 21 = .ok (.isub, 1) := by decide +kernel
theorem dX10_close_22 : decode cX10_close 22 = .ok (.imul, 1) := by decide +kernel
theorem dX10_close_23 : decode cX10_close 23 = .ok (.iadd, 1) := by decide +kernel
theorem dX10_close_24 : decode cX10_close 24 = .ok (.if_icmp .ge 24, 3) := by decide +kernel
theorem dX10_close_27 : decode cX10_close 27 = .ok (.aload_n 0, 1) := by decide +kernel
theorem dX10_close_28 : decode cX10_close 28 = .ok (.getfield 13, 3) := by decide +kernel
theorem dX10_close_31 : decode cX10_close 31 = .ok (.iload_n 2, 1) := by decide +kernel
theorem dX10_close_32 : decode cX10_close 32 = .ok (.aload_n 0, 1) := by decide +kernel
theorem dX10_close_33 : decode cX10_close 33 = .ok (.getfield 13, 3) := by decide +kernel
theorem dX10_close_36 : decode cX10_close 36 = .ok (.iload_n 2, 1) := by decide +kernel
theorem dX10_close_37 : decode cX10_close 37 = .ok (.bipush 8, 2) := by decide +kernel
theorem dX10_close_39 : decode cX10_close 39 = .ok (.iadd, 1) := by decide +kernel
theorem dX10_close_40 : decode cX10_close 40 = .ok (.iaload, 1) := by decide +kernel
theorem dX10_close_41 : decode cX10_close 41 = .ok (.iastore, 1) := by decide +kernel
theorem dX10_close_42 : decode cX10_close 42 = .ok (.iinc 2 1, 3) := by decide +kernel
theorem dX10_close_45 : decode cX10_close 45 = .ok (.goto (-37), 3) := by decide +kernel
theorem dX10_close_48 : decode cX10_close 48 = .ok (.aload_n 0, 1) := by decide +kernel
theorem dX10_close_49 : decode cX10_close 49 = .ok (.getfield 13, 3) := by decide +kernel
theorem dX10_close_52 : decode cX10_close 52 = .ok (.bipush 117, 2) := by decide +kernel
theorem dX10_close_54 : decode cX10_close 54 = .ok (.dup2, 1) := by decide +kernel
theorem dX10_close_55 : decode cX10_close 55 = .ok (.iaload, 1) := by decide +kernel
theorem dX10_close_56 : decode cX10_close 56 = .ok (.iconst 1, 1) := by decide +kernel
theorem dX10_close_57 : decode cX10_close 57 = .ok (.isub, 1) := by decide +kernel
theorem dX10_close_58 : decode cX10_close 58 = .ok (.iastore, 1) := by decide +kernel
theorem dX10_close_59 : decode cX10_close 59 = .ok (.return_, 1) := by decide +kernel
def w_X10_close_B8 (Q9 : Mm → Prop) (K_4 : Int32 → Mm → Prop) (y_2 : Int32) (m_3 : Mm) : Prop :=
  (((118 + (8 * ((m_3.1 32 1 117) - 1))) ≤ y_2 → ∀ m_7 : Mm, m_7 = sI m_3 32 1 117 ((m_3.1 32 1 117) - 1) → (Q9 m_7)) ∧
  (¬ (118 + (8 * ((m_3.1 32 1 117) - 1))) ≤ y_2 → vp_in (y_2 + 8) 246 ∧ (vp_in y_2 246 ∧ ∀ m_10 : Mm, m_10 = sI m_3 32 1 y_2.toNatClampNeg (m_3.1 32 1 (y_2 + 8).toNatClampNeg) → (∀ x_11 : Int32, x_11 = y_2 + 1 → (K_4 x_11 m_10)))))
def w_X10_close (p0 : Int32) (mm : Mm) (Q9 : Mm → Prop) : Prop :=
  ∀ x_1 : Int32, x_1 = (118 + (8 * p0)) → (∃ n, itr (α := Int32 × Mm) (fun K a => w_X10_close_B8 Q9 (fun z0 z1 => K (z0, z1)) a.1 a.2) n (x_1, mm))
def rm_X10_close : Room := { frames := 0, cells := 0, slots := 0, locals := 0 }
theorem hy_X10_close : yX10_close.cls = RX10 ∧ yX10_close.cls ≠ "java/lang/invoke/MethodHandle" ∧ yX10_close.cls ≠ "java/lang/invoke/VarHandle" ∧ (parseMethodDescriptor yX10_close.desc).map (fun d => d.parameters.length) = some 1 := by decide +kernel
set_option maxRecDepth 100000 in
set_option maxHeartbeats 4000000 in
theorem c_X10_close {l : Launch} {D : va_G} {cA : Nat → ClassId} {ad : Nat → Nat → Nat} {A : Nat → Prop} (ax : Ax ad GM A) (p0 : Int32) (mm : Mm) (Q9 : Mm → Prop) (h : w_X10_close p0 mm Q9) : Met l yX10_close (.code yX10_close cX10_close 3 none :: TG) rm_X10_close (PcM TT D cA ad false GM (ZM) [.ref (ad 30 1), .int p0] mm) (AnsV TT D cA ad false GM A Q9) 0 0 A := by
  have zo := ZM_ok A
  unfold w_X10_close at h
  refine enterV pl_X10 ⟨rfl, rfl⟩ rfl (Nat.le_of_ble_eq_true rfl) ?_
  intro p e s m args below meth c QQ X hK hZ hnm hE
  refine q_bipush (v := 118) X dX10_close_0 (by decide) ?_
  refine q_bipush (v := 8) X dX10_close_2 (by decide) ?_
  refine q_iload_n (j := 1) X dX10_close_4 rfl rfl ?_
  refine q_imul X dX10_close_5 ?_
  refine q_iadd X dX10_close_6 ?_
  refine q_topi (fun x_1 ex_1 => ?_)
  have h := h x_1 ex_1
  refine q_istore_n (lv' := [(2, .int x_1), (0, .ref (ad 30 1)), (1, .int p0)]) X dX10_close_7 rfl (by decide) rfl ?_
  refine q_sub [1, 0] rfl ?_
  have L8 : ∀ (n : Nat) (y_2 : Int32) (m_3 : Mm), itr (α := Int32 × Mm) (fun K a => w_X10_close_B8 Q9 (fun z0 z1 => K (z0, z1)) a.1 a.2) n (y_2, m_3) → V p l e rm_X10_close s m args below meth c QQ 3 A 0 0 (Rep TT D cA ad false GM m_3) 8 [(0, .ref (ad 30 1)), (2, .int y_2)] [] := by
    intro n
    induction n with
    | zero => intro y_2 m_3 h; exact h.elim
    | succ n ih_5 =>
      intro y_2 m_3 h
      have h : w_X10_close_B8 Q9 (fun z0 z1 => itr (α := Int32 × Mm) (fun K a => w_X10_close_B8 Q9 (fun z0 z1 => K (z0, z1)) a.1 a.2) n (z0, z1)) y_2 m_3 := h
      unfold w_X10_close_B8 at h
      refine q_iload_n (j := 1) X dX10_close_8 rfl rfl ?_
      refine q_bipush (v := 118) X dX10_close_9 (by decide) ?_
      refine q_bipush (v := 8) X dX10_close_11 (by decide) ?_
      refine q_aload_n (j := 0) X dX10_close_13 rfl rfl ?_
      refine q_get (k := 3) (v := .ref (ad 32 1)) X hK rfl rfl (Nat.le_of_ble_eq_true rfl) inTX10 (gm (t := 30) (by decide) (ok1 (t := 30) (Nat.le_of_ble_eq_true rfl))) kw_7_10 rfl (rv_nn (a := ad 32) (r := 1) (ok1 (t := 32) (Nat.le_of_ble_eq_true rfl)).1) dX10_close_14 ?_
      refine q_bipush (v := 117) X dX10_close_17 (by decide) ?_
      refine q_iald (t := 32) (i := 1) (jn := 117) (v := .int (m_3.1 32 1 117)) X hK rfl rfl (gm (t := 32) (by decide) (ok1 (t := 32) (Nat.le_of_ble_eq_true rfl))) rfl (vpl (by decide +kernel)) (by decide +kernel) rfl dX10_close_19 ?_
      refine q_iconst (v := 1) X dX10_close_20 (by decide) ?_
      refine q_isub X dX10_close_21 ?_
      refine q_imul X dX10_close_22 ?_
      refine q_iadd X dX10_close_23 ?_
      refine q_icmp_ge (tgt := 48) X dX10_close_24 (by decide) (fun c_6 => ?_) (fun c_6 => ?_)
      · have h := h.1 c_6
        refine q_aload_n (j := 0) X dX10_close_48 rfl rfl ?_
        refine q_get (k := 3) (v := .ref (ad 32 1)) X hK rfl rfl (Nat.le_of_ble_eq_true rfl) inTX10 (gm (t := 30) (by decide) (ok1 (t := 30) (Nat.le_of_ble_eq_true rfl))) kw_7_10 rfl (rv_nn (a := ad 32) (r := 1) (ok1 (t := 32) (Nat.le_of_ble_eq_true rfl)).1) dX10_close_49 ?_
        refine q_bipush (v := 117) X dX10_close_52 (by decide) ?_
        refine q_dup2 X dX10_close_54 rfl rfl ?_
        refine q_iald (t := 32) (i := 1) (jn := 117) (v := .int (m_3.1 32 1 117)) X hK rfl rfl (gm (t := 32) (by decide) (ok1 (t := 32) (Nat.le_of_ble_eq_true rfl))) rfl (vpl (by decide +kernel)) (by decide +kernel) rfl dX10_close_55 ?_
        refine q_iconst (v := 1) X dX10_close_56 (by decide) ?_
        refine q_isub X dX10_close_57 ?_
        refine q_iast (t := 32) (i := 1) (jn := 117) X ax hK rfl rfl (gm (t := 32) (by decide) (ok1 (t := 32) (Nat.le_of_ble_eq_true rfl))) rfl (vpl (by decide +kernel)) (by decide +kernel) rfl dX10_close_58 ?_
        refine q_nmP (fun m_7 em_7 => ?_)
        have h := h m_7 em_7
        exact hE _ _ _ dX10_close_59 h
      · have h := h.2 c_6
        refine q_aload_n (j := 0) X dX10_close_27 rfl rfl ?_
        refine q_get (k := 3) (v := .ref (ad 32 1)) X hK rfl rfl (Nat.le_of_ble_eq_true rfl) inTX10 (gm (t := 30) (by decide) (ok1 (t := 30) (Nat.le_of_ble_eq_true rfl))) kw_7_10 rfl (rv_nn (a := ad 32) (r := 1) (ok1 (t := 32) (Nat.le_of_ble_eq_true rfl)).1) dX10_close_28 ?_
        refine q_iload_n (j := 1) X dX10_close_31 rfl rfl ?_
        refine q_aload_n (j := 0) X dX10_close_32 rfl rfl ?_
        refine q_get (k := 3) (v := .ref (ad 32 1)) X hK rfl rfl (Nat.le_of_ble_eq_true rfl) inTX10 (gm (t := 30) (by decide) (ok1 (t := 30) (Nat.le_of_ble_eq_true rfl))) kw_7_10 rfl (rv_nn (a := ad 32) (r := 1) (ok1 (t := 32) (Nat.le_of_ble_eq_true rfl)).1) dX10_close_33 ?_
        refine q_iload_n (j := 1) X dX10_close_36 rfl rfl ?_
        refine q_bipush (v := 8) X dX10_close_37 (by decide) ?_
        refine q_iadd X dX10_close_39 ?_
        obtain ⟨b_8, h⟩ := h
        refine q_iald (t := 32) (i := 1) (jn := (y_2 + 8).toNatClampNeg) (v := .int (m_3.1 32 1 (y_2 + 8).toNatClampNeg)) X hK rfl rfl (gm (t := 32) (by decide) (ok1 (t := 32) (Nat.le_of_ble_eq_true rfl))) rfl b_8 rfl rfl dX10_close_40 ?_
        obtain ⟨b_9, h⟩ := h
        refine q_iast (t := 32) (i := 1) (jn := y_2.toNatClampNeg) X ax hK rfl rfl (gm (t := 32) (by decide) (ok1 (t := 32) (Nat.le_of_ble_eq_true rfl))) rfl b_9 rfl rfl dX10_close_41 ?_
        refine q_nmP (fun m_10 em_10 => ?_)
        have h := h m_10 em_10
        obtain ⟨x_11, ex_11⟩ : ∃ z : Int32, z = y_2 + 1 := ⟨_, rfl⟩
        have h := h x_11 ex_11
        refine q_iinc (j := 1) (v := x_11) (lv' := [(2, .int x_11), (0, .ref (ad 30 1))]) X dX10_close_42 rfl (by rw [ex_11]; rfl) (by decide) rfl ?_
        refine q_goto (tgt := 8) X dX10_close_45 (by decide) ?_
        refine q_sub [1, 0] rfl ?_
        exact ih_5 x_11 m_10 h
  obtain ⟨n_12, h⟩ := h
  exact L8 n_12 x_1 mm h
theorem dX10_goes_0 : decode cX10_goes 0 = .ok (.aload_n 0, 1) := by decide +kernel
theorem dX10_goes_1 : decode cX10_goes 1 = .ok (.iload_n 1, 1) := by decide +kernel
theorem dX10_goes_2 : decode cX10_goes 2 = .ok (.iload_n 2, 1) := by decide +kernel
theorem dX10_goes_3 : decode cX10_goes 3 = .ok (.invokevirtual 48, 3) := by decide +kernel
theorem dX10_goes_6 : decode cX10_goes 6 = .ok (.istore_n 3, 1) := by decide +kernel
theorem dX10_goes_7 : decode cX10_goes 7 = .ok (.aload_n 0, 1) := by decide +kernel
theorem dX10_goes_8 : decode cX10_goes 8 = .ok (.iload_n 1, 1) := by decide +kernel
theorem dX10_goes_9 : decode cX10_goes 9 = .ok (.iconst 3, 1) := by decide +kernel
theorem dX10_goes_10 : decode cX10_goes 10 = .ok (.aload_n 0, 1) := by decide +kernel
theorem dX10_goes_11 : decode cX10_goes 11 = .ok (.iload_n 1, 1) := by decide +kernel
theorem dX10_goes_12 : decode cX10_goes 12 = .ok (.iconst 3, 1) := by decide +kernel
theorem dX10_goes_13 : decode cX10_goes 13 = .ok (.invokevirtual 41, 3) := by decide +kernel
theorem dX10_goes_16 : decode cX10_goes 16 = .ok (.iload_n 3, 1) := by decide +kernel
theorem dX10_goes_17 : decode cX10_goes 17 = .ok (.isub, 1) := by decide +kernel
theorem dX10_goes_18 : decode cX10_goes 18 = .ok (.invokevirtual 66, 3) := by decide +kernel
theorem dX10_goes_21 : decode cX10_goes 21 = .ok (.aload_n 0, 1) := by decide +kernel
theorem dX10_goes_22 : decode cX10_goes 22 = .ok (.iload_n 1, 1) := by decide +kernel
theorem dX10_goes_23 : decode cX10_goes 23 = .ok (.iconst 2, 1) := by decide +kernel
theorem dX10_goes_24 : decode cX10_goes 24 = .ok (.aload_n 0, 1) := by decide +kernel
theorem dX10_goes_25 : decode cX10_goes 25 = .ok (.iload_n 1, 1) := by decide +kernel
theorem dX10_goes_26 : decode cX10_goes 26 = .ok (.iconst 2, 1) := by decide +kernel
theorem dX10_goes_27 : decode cX10_goes 27 = .ok (.invokevirtual 41, 3) := by decide +kernel
theorem dX10_goes_30 : decode cX10_goes 30 = .ok (.iload_n 2, 1) := by decide +kernel
theorem dX10_goes_31 : decode cX10_goes 31 = .ok (.isub, 1) := by decide +kernel
theorem dX10_goes_32 : decode cX10_goes 32 = .ok (.invokevirtual 66, 3) := by decide +kernel
theorem dX10_goes_35 : decode cX10_goes 35 = .ok (.aload_n 0, 1) := by decide +kernel
theorem dX10_goes_36 : decode cX10_goes 36 = .ok (.iload_n 1, 1) := by decide +kernel
theorem dX10_goes_37 : decode cX10_goes 37 = .ok (.iconst 2, 1) := by decide +kernel
theorem dX10_goes_38 : decode cX10_goes 38 = .ok (.invokevirtual 41, 3) := by decide +kernel
theorem dX10_goes_41 : decode cX10_goes 41 = .ok (.ifCond .ne 8, 3) := by decide +kernel
theorem dX10_goes_44 : decode cX10_goes 44 = .ok (.aload_n 0, 1) := by decide +kernel
theorem dX10_goes_45 : decode cX10_goes 45 = .ok (.iload_n 1, 1) := by decide +kernel
theorem dX10_goes_46 : decode cX10_goes 46 = .ok (.invokevirtual 70, 3) := by decide +kernel
theorem dX10_goes_49 : decode cX10_goes 49 = .ok (.return_, 1) := by decide +kernel
def w_X10_goes (p0 : Int32) (p1 : Int32) (mm : Mm) (Q9 : Mm → Prop) : Prop :=
  w_X10_share p0 p1 mm (fun (r_1 : Int32) => w_X10_of p0 3 mm (fun (r_3 : Int32) => w_X10_put p0 3 (r_3 - r_1) mm (fun (m_6 : Mm) => w_X10_of p0 2 m_6 (fun (r_7 : Int32) => w_X10_put p0 2 (r_7 - p1) m_6 (fun (m_10 : Mm) => w_X10_of p0 2 m_10 (fun (r_11 : Int32) => ((¬ r_11 = 0 → Q9 m_10) ∧
  (r_11 = 0 → w_X10_close p0 m_10 (fun (m_15 : Mm) => Q9 m_15)))))))))
def rm_X10_goes : Room := { frames := 2, cells := 0, slots := 0, locals := 44 }
theorem hy_X10_goes : yX10_goes.cls = RX10 ∧ yX10_goes.cls ≠ "java/lang/invoke/MethodHandle" ∧ yX10_goes.cls ≠ "java/lang/invoke/VarHandle" ∧ (parseMethodDescriptor yX10_goes.desc).map (fun d => d.parameters.length) = some 2 := by decide +kernel
set_option maxRecDepth 100000 in
set_option maxHeartbeats 4000000 in
theorem c_X10_goes {l : Launch} {D : va_G} {cA : Nat → ClassId} {ad : Nat → Nat → Nat} {A : Nat → Prop} (ax : Ax ad GM A) (p0 : Int32) (p1 : Int32) (mm : Mm) (Q9 : Mm → Prop) (h : w_X10_goes p0 p1 mm Q9) : Met l yX10_goes (.code yX10_goes cX10_goes 4 none :: TG) rm_X10_goes (PcM TT D cA ad false GM (ZM) [.ref (ad 30 1), .int p0, .int p1] mm) (AnsV TT D cA ad false GM A Q9) 0 0 A := by
  have zo := ZM_ok A
  unfold w_X10_goes at h
  refine enterV pl_X10 ⟨rfl, rfl⟩ rfl (Nat.le_of_ble_eq_true rfl) ?_
  intro p e s m args below meth c QQ X hK hZ hnm hE
  refine q_aload_n (j := 0) X dX10_goes_0 rfl rfl ?_
  refine q_iload_n (j := 1) X dX10_goes_1 rfl rfl ?_
  refine q_iload_n (j := 2) X dX10_goes_2 rfl rfl ?_
  refine q_calli (q_runV X hK hZ zo (gm (t := 30) (by decide) (ok1 (t := 30) (Nat.le_of_ble_eq_true rfl))) rfl rfl [.int p0, .int p1] [] rfl rfl (Nat.le_of_ble_eq_true rfl) dX10_goes_3 ⟨Nat.le_of_ble_eq_true rfl, Nat.le_of_ble_eq_true rfl⟩ (c_X10_share ax p0 p1 mm _ h) rfl rfl (gV kw_7_111 kw_7_113 ks_92 kw_1_11 kw_7_114) hy_X10_share ⟨Nat.le_of_ble_eq_true rfl, Nat.le_of_ble_eq_true rfl⟩) (fun r_1 m_2 h => ?_)
  obtain ⟨h, hm⟩ := h
  subst hm
  refine q_istore_n (lv' := [(3, .int r_1), (0, .ref (ad 30 1)), (1, .int p0), (2, .int p1)]) X dX10_goes_6 rfl (by decide) rfl ?_
  refine q_aload_n (j := 1) X dX10_goes_7 rfl rfl ?_
  refine q_iload_n (j := 2) X dX10_goes_8 rfl rfl ?_
  refine q_iconst (v := 3) X dX10_goes_9 (by decide) ?_
  refine q_aload_n (j := 1) X dX10_goes_10 rfl rfl ?_
  refine q_iload_n (j := 2) X dX10_goes_11 rfl rfl ?_
  refine q_iconst (v := 3) X dX10_goes_12 (by decide) ?_
  refine q_calli (q_runV X hK hZ zo (gm (t := 30) (by decide) (ok1 (t := 30) (Nat.le_of_ble_eq_true rfl))) rfl rfl [.int p0, .int 3] [.int 3, .int p0, .ref (ad 30 1)] rfl rfl (Nat.le_of_ble_eq_true rfl) dX10_goes_13 ⟨Nat.le_of_ble_eq_true rfl, Nat.le_of_ble_eq_true rfl⟩ (c_X10_of ax p0 3 mm _ h) rfl rfl (gV kw_7_95 kw_7_97 ks_88 kw_1_11 kw_7_98) hy_X10_of ⟨Nat.le_of_ble_eq_true rfl, Nat.le_of_ble_eq_true rfl⟩) (fun r_3 m_4 h => ?_)
  obtain ⟨h, hm⟩ := h
  subst hm
  refine q_iload_n (j := 0) X dX10_goes_16 rfl rfl ?_
  refine q_isub X dX10_goes_17 ?_
  refine q_callv (q_runV X hK hZ zo (gm (t := 30) (by decide) (ok1 (t := 30) (Nat.le_of_ble_eq_true rfl))) rfl rfl [.int p0, .int 3, .int (r_3 - r_1)] [] rfl rfl (Nat.le_of_ble_eq_true rfl) dX10_goes_18 ⟨Nat.le_of_ble_eq_true rfl, Nat.le_of_ble_eq_true rfl⟩ (c_X10_put ax p0 3 (r_3 - r_1) mm _ h) rfl rfl (gV kw_7_149 kw_7_151 ks_100 kw_1_11 kw_7_152) hy_X10_put ⟨Nat.le_of_ble_eq_true rfl, Nat.le_of_ble_eq_true rfl⟩) (fun m_6 h => ?_)
  refine q_aload_n (j := 1) X dX10_goes_21 rfl rfl ?_
  refine q_iload_n (j := 2) X dX10_goes_22 rfl rfl ?_
  refine q_iconst (v := 2) X dX10_goes_23 (by decide) ?_
  refine q_aload_n (j := 1) X dX10_goes_24 rfl rfl ?_
  refine q_iload_n (j := 2) X dX10_goes_25 rfl rfl ?_
  refine q_iconst (v := 2) X dX10_goes_26 (by decide) ?_
  refine q_calli (q_runV X hK hZ zo (gm (t := 30) (by decide) (ok1 (t := 30) (Nat.le_of_ble_eq_true rfl))) rfl rfl [.int p0, .int 2] [.int 2, .int p0, .ref (ad 30 1)] rfl rfl (Nat.le_of_ble_eq_true rfl) dX10_goes_27 ⟨Nat.le_of_ble_eq_true rfl, Nat.le_of_ble_eq_true rfl⟩ (c_X10_of ax p0 2 m_6 _ h) rfl rfl (gV kw_7_95 kw_7_97 ks_88 kw_1_11 kw_7_98) hy_X10_of ⟨Nat.le_of_ble_eq_true rfl, Nat.le_of_ble_eq_true rfl⟩) (fun r_7 m_8 h => ?_)
  obtain ⟨h, hm⟩ := h
  subst hm
  refine q_iload_n (j := 3) X dX10_goes_30 rfl rfl ?_
  refine q_isub X dX10_goes_31 ?_
  refine q_callv (q_runV X hK hZ zo (gm (t := 30) (by decide) (ok1 (t := 30) (Nat.le_of_ble_eq_true rfl))) rfl rfl [.int p0, .int 2, .int (r_7 - p1)] [] rfl rfl (Nat.le_of_ble_eq_true rfl) dX10_goes_32 ⟨Nat.le_of_ble_eq_true rfl, Nat.le_of_ble_eq_true rfl⟩ (c_X10_put ax p0 2 (r_7 - p1) m_6 _ h) rfl rfl (gV kw_7_149 kw_7_151 ks_100 kw_1_11 kw_7_152) hy_X10_put ⟨Nat.le_of_ble_eq_true rfl, Nat.le_of_ble_eq_true rfl⟩) (fun m_10 h => ?_)
  refine q_aload_n (j := 1) X dX10_goes_35 rfl rfl ?_
  refine q_iload_n (j := 2) X dX10_goes_36 rfl rfl ?_
  refine q_iconst (v := 2) X dX10_goes_37 (by decide) ?_
  refine q_calli (q_runV X hK hZ zo (gm (t := 30) (by decide) (ok1 (t := 30) (Nat.le_of_ble_eq_true rfl))) rfl rfl [.int p0, .int 2] [] rfl rfl (Nat.le_of_ble_eq_true rfl) dX10_goes_38 ⟨Nat.le_of_ble_eq_true rfl, Nat.le_of_ble_eq_true rfl⟩ (c_X10_of ax p0 2 m_10 _ h) rfl rfl (gV kw_7_95 kw_7_97 ks_88 kw_1_11 kw_7_98) hy_X10_of ⟨Nat.le_of_ble_eq_true rfl, Nat.le_of_ble_eq_true rfl⟩) (fun r_11 m_12 h => ?_)
  obtain ⟨h, hm⟩ := h
  subst hm
  refine q_if_ne (tgt := 49) X dX10_goes_41 (by decide) (fun c_13 => ?_) (fun c_13 => ?_)
  · have h := h.1 c_13
    exact hE _ _ _ dX10_goes_49 h
  · have h := h.2 c_13
    refine q_aload_n (j := 1) X dX10_goes_44 rfl rfl ?_
    refine q_iload_n (j := 2) X dX10_goes_45 rfl rfl ?_
    refine q_callv (q_runV X hK hZ zo (gm (t := 30) (by decide) (ok1 (t := 30) (Nat.le_of_ble_eq_true rfl))) rfl rfl [.int p0] [] rfl rfl (Nat.le_of_ble_eq_true rfl) dX10_goes_46 ⟨Nat.le_of_ble_eq_true rfl, Nat.le_of_ble_eq_true rfl⟩ (c_X10_close ax p0 m_10 _ h) rfl rfl (gV kw_7_181 kw_7_183 ks_107 kw_1_11 kw_7_184) hy_X10_close ⟨Nat.le_of_ble_eq_true rfl, Nat.le_of_ble_eq_true rfl⟩) (fun m_15 h => ?_)
    exact hE _ _ _ dX10_goes_49 h
theorem dX10_total_0 : decode cX10_total 0 = .ok (.aload_n 0, 1) := by decide +kernel
theorem dX10_total_1 : decode cX10_total 1 = .ok (.getfield 13, 3) := by decide +kernel
theorem dX10_total_4 : decode cX10_total 4 = .ok (.bipush 32, 2) := by decide +kernel
theorem dX10_total_6 : decode cX10_total 6 = .ok (.bipush 6, 2) := by decide +kernel
theorem dX10_total_8 : decode cX10_total 8 = .ok (.iload_n 1, 1) := by decide +kernel
theorem dX10_total_9 : decode cX10_total 9 = .ok (.imul, 1) := by decide +kernel
theorem dX10_total_10 : decode cX10_total 10 = .ok (.iadd, 1) := by decide +kernel
theorem dX10_total_11 : decode cX10_total 11 = .ok (.iload_n 2, 1) := by decide +kernel
theorem dX10_total_12 : decode cX10_total 12 = .ok (.iadd, 1) := by decide +kernel
theorem dX10_total_13 : decode cX10_total 13 = .ok (.dup2, 1) := by decide +kernel
theorem dX10_total_14 : decode cX10_total 14 = .ok (.iaload, 1) := by decide +kernel
theorem dX10_total_15 : decode cX10_total 15 = .ok (.iload_n 3, 1) := by decide +kernel
theorem dX10_total_16 : decode cX10_total 16 = .ok (.iadd, 1) := by decide +kernel
theorem dX10_total_17 : decode cX10_total 17 = .ok (.iastore, 1) := by decide +kernel
theorem dX10_total_18 : decode cX10_total 18 = .ok (.return_, 1) := by decide +kernel
def w_X10_total (p0 : Int32) (p1 : Int32) (p2 : Int32) (mm : Mm) (Q9 : Mm → Prop) : Prop :=
  vp_in ((32 + (6 * p0)) + p1) 246 ∧ (∀ m_2 : Mm, m_2 = sI mm 32 1 ((32 + (6 * p0)) + p1).toNatClampNeg ((mm.1 32 1 ((32 + (6 * p0)) + p1).toNatClampNeg) + p2) → (Q9 m_2))
def rm_X10_total : Room := { frames := 0, cells := 0, slots := 0, locals := 0 }
theorem hy_X10_total : yX10_total.cls = RX10 ∧ yX10_total.cls ≠ "java/lang/invoke/MethodHandle" ∧ yX10_total.cls ≠ "java/lang/invoke/VarHandle" ∧ (parseMethodDescriptor yX10_total.desc).map (fun d => d.parameters.length) = some 3 := by decide +kernel
set_option maxRecDepth 100000 in
set_option maxHeartbeats 4000000 in
theorem c_X10_total {l : Launch} {D : va_G} {cA : Nat → ClassId} {ad : Nat → Nat → Nat} {A : Nat → Prop} (ax : Ax ad GM A) (p0 : Int32) (p1 : Int32) (p2 : Int32) (mm : Mm) (Q9 : Mm → Prop) (h : w_X10_total p0 p1 p2 mm Q9) : Met l yX10_total (.code yX10_total cX10_total 4 none :: TG) rm_X10_total (PcM TT D cA ad false GM (ZM) [.ref (ad 30 1), .int p0, .int p1, .int p2] mm) (AnsV TT D cA ad false GM A Q9) 0 0 A := by
  have zo := ZM_ok A
  unfold w_X10_total at h
  refine enterV pl_X10 ⟨rfl, rfl⟩ rfl (Nat.le_of_ble_eq_true rfl) ?_
  intro p e s m args below meth c QQ X hK hZ hnm hE
  refine q_aload_n (j := 0) X dX10_total_0 rfl rfl ?_
  refine q_get (k := 3) (v := .ref (ad 32 1)) X hK rfl rfl (Nat.le_of_ble_eq_true rfl) inTX10 (gm (t := 30) (by decide) (ok1 (t := 30) (Nat.le_of_ble_eq_true rfl))) kw_7_10 rfl (rv_nn (a := ad 32) (r := 1) (ok1 (t := 32) (Nat.le_of_ble_eq_true rfl)).1) dX10_total_1 ?_
  refine q_bipush (v := 32) X dX10_total_4 (by decide) ?_
  refine q_bipush (v := 6) X dX10_total_6 (by decide) ?_
  refine q_iload_n (j := 1) X dX10_total_8 rfl rfl ?_
  refine q_imul X dX10_total_9 ?_
  refine q_iadd X dX10_total_10 ?_
  refine q_iload_n (j := 2) X dX10_total_11 rfl rfl ?_
  refine q_iadd X dX10_total_12 ?_
  refine q_dup2 X dX10_total_13 rfl rfl ?_
  obtain ⟨b_1, h⟩ := h
  refine q_iald (t := 32) (i := 1) (jn := ((32 + (6 * p0)) + p1).toNatClampNeg) (v := .int (mm.1 32 1 ((32 + (6 * p0)) + p1).toNatClampNeg)) X hK rfl rfl (gm (t := 32) (by decide) (ok1 (t := 32) (Nat.le_of_ble_eq_true rfl))) rfl b_1 rfl rfl dX10_total_14 ?_
  refine q_iload_n (j := 3) X dX10_total_15 rfl rfl ?_
  refine q_iadd X dX10_total_16 ?_
  refine q_iast (t := 32) (i := 1) (jn := ((32 + (6 * p0)) + p1).toNatClampNeg) X ax hK rfl rfl (gm (t := 32) (by decide) (ok1 (t := 32) (Nat.le_of_ble_eq_true rfl))) rfl b_1 rfl rfl dX10_total_17 ?_
  refine q_nmP (fun m_2 em_2 => ?_)
  have h := h m_2 em_2
  exact hE _ _ _ dX10_total_18 h
theorem dX10_makes_0 : decode cX10_makes 0 = .ok (.aload_n 0, 1) := by decide +kernel
theorem dX10_makes_1 : decode cX10_makes 1 = .ok (.getfield 13, 3) := by decide +kernel
theorem dX10_makes_4 : decode cX10_makes 4 = .ok (.bipush 117, 2) := by decide +kernel
theorem dX10_makes_6 : decode cX10_makes 6 = .ok (.iaload, 1) := by decide +kernel
theorem dX10_makes_7 : decode cX10_makes 7 = .ok (.istore 5, 2) := by decide +kernel
theorem dX10_makes_9 : decode cX10_makes 9 = .ok (.aload_n 0, 1) := by decide +kernel
theorem dX10_makes_10 : decode cX10_makes 10 = .ok (.iload 5, 2) := by decide +kernel
theorem dX10_makes_12 : decode cX10_makes 12 = .ok (.iconst 0, 1) := by decide +kernel
theorem dX10_makes_13 : decode cX10_makes 13 = .ok (.aload_n 0, 1) := by decide +kernel
theorem dX10_makes_14 : decode cX10_makes 14 = .ok (.getfield 13, 3) := by decide +kernel
theorem dX10_makes_17 : decode cX10_makes 17 = .ok (.iconst 1, 1) := by decide +kernel
theorem dX10_makes_18 : decode cX10_makes 18 = .ok (.iaload, 1) := by decide +kernel
theorem dX10_makes_19 : decode cX10_makes 19 = .ok (.invokevirtual 66, 3) := by decide +kernel
theorem dX10_makes_22 : decode cX10_makes 22 = .ok (.aload_n 0, 1) := by decide +kernel
theorem dX10_makes_23 : decode cX10_makes 23 = .ok (.iload 5, 2) := by decide +kernel
theorem dX10_makes_25 : decode cX10_makes 25 = .ok (.iconst 1, 1) := by decide +kernel
theorem dX10_makes_26 : decode cX10_makes 26 = .ok (.iload_n 1, 1) := by decide +kernel
theorem dX10_makes_27 : decode cX10_makes 27 = .ok (.invokevirtual 66, 3) := by decide +kernel
theorem dX10_makes_30 : decode cX10_makes 30 = .ok (.aload_n 0, 1) := by decide +kernel
theorem dX10_makes_31 : decode cX10_makes 31 = .ok (.iload 5, 2) := by decide +kernel
theorem dX10_makes_33 : decode cX10_makes 33 = .ok (.iconst 2, 1) := by decide +kernel
theorem dX10_makes_34 : decode cX10_makes 34 = .ok (.iload_n 2, 1) := by decide +kernel
theorem dX10_makes_35 : decode cX10_makes 35 = .ok (.invokevirtual 66, 3) := by decide +kernel
theorem dX10_makes_38 : decode cX10_makes 38 = .ok (.aload_n 0, 1) := by decide +kernel
theorem dX10_makes_39 : decode cX10_makes 39 = .ok (.iload 5, 2) := by decide +kernel
theorem dX10_makes_41 : decode cX10_makes 41 = .ok (.iconst 3, 1) := by decide +kernel
theorem dX10_makes_42 : decode cX10_makes 42 = .ok (.iload_n 3, 1) := by decide +kernel
theorem dX10_makes_43 : decode cX10_makes 43 = .ok (.invokevirtual 66, 3) := by decide +kernel
theorem dX10_makes_46 : decode cX10_makes 46 = .ok (.aload_n 0, 1) := by decide +kernel
theorem dX10_makes_47 : decode cX10_makes 47 = .ok (.iload 5, 2) := by decide +kernel
theorem dX10_makes_49 : decode cX10_makes 49 = .ok (.iconst 4, 1) := by decide +kernel
theorem dX10_makes_50 : decode cX10_makes 50 = .ok (.iload 4, 2) := by decide +kernel
theorem dX10_makes_52 : decode cX10_makes 52 = .ok (.invokevirtual 66, 3) := by decide +kernel
theorem dX10_makes_55 : decode cX10_makes 55 = .ok (.aload_n 0, 1) := by decide +kernel
theorem dX10_makes_56 : decode cX10_makes 56 = .ok (.iload 5, 2) := by decide +kernel
theorem dX10_makes_58 : decode cX10_makes 58 = .ok (.iconst 5, 1) := by decide +kernel
theorem dX10_makes_59 : decode cX10_makes 59 = .ok (.iconst 0, 1) := by decide +kernel
theorem dX10_makes_60 : decode cX10_makes 60 = .ok (.invokevirtual 66, 3) := by decide +kernel
theorem dX10_makes_63 : decode cX10_makes 63 = .ok (.aload_n 0, 1) := by decide +kernel
theorem dX10_makes_64 : decode cX10_makes 64 = .ok (.iload 5, 2) := by decide +kernel
theorem dX10_makes_66 : decode cX10_makes 66 = .ok (.bipush 6, 2) := by decide +kernel
theorem dX10_makes_68 : decode cX10_makes 68 = .ok (.iconst 0, 1) := by decide +kernel
theorem dX10_makes_69 : decode cX10_makes 69 = .ok (.invokevirtual 66, 3) := by decide +kernel
theorem dX10_makes_72 : decode cX10_makes 72 = .ok (.aload_n 0, 1) := by decide +kernel
theorem dX10_makes_73 : decode cX10_makes 73 = .ok (.iload 5, 2) := by decide +kernel
theorem dX10_makes_75 : decode cX10_makes 75 = .ok (.bipush 7, 2) := by decide +kernel
theorem dX10_makes_77 : decode cX10_makes 77 = .ok (.iconst 1, 1) := by decide +kernel
theorem dX10_makes_78 : decode cX10_makes 78 = .ok (.invokevirtual 66, 3) := by decide +kernel
theorem dX10_makes_81 : decode cX10_makes 81 = .ok (.aload_n 0, 1) := by decide +kernel
theorem dX10_makes_82 : decode cX10_makes 82 = .ok (.getfield 13, 3) := by decide +kernel
theorem dX10_makes_85 : decode cX10_makes 85 = .ok (.bipush 117, 2) := by decide +kernel
theorem dX10_makes_87 : decode cX10_makes 87 = .ok (.dup2, 1) := by decide +kernel
theorem dX10_makes_88 : decode cX10_makes 88 = .ok (.iaload, 1) := by decide +kernel
theorem dX10_makes_89 : decode cX10_makes 89 = .ok (.iconst 1, 1) := by decide +kernel
theorem dX10_makes_90 : decode cX10_makes 90 = .ok (.iadd, 1) := by decide +kernel
theorem dX10_makes_91 : decode cX10_makes 91 = .ok (.iastore, 1) := by decide +kernel
theorem dX10_makes_92 : decode cX10_makes 92 = .ok (.aload_n 0, 1) := by decide +kernel
theorem dX10_makes_93 : decode cX10_makes 93 = .ok (.getfield 13, 3) := by decide +kernel
theorem dX10_makes_96 : decode cX10_makes 96 = .ok (.iconst 1, 1) := by decide +kernel
theorem dX10_makes_97 : decode cX10_makes 97 = .ok (.dup2, 1) := by decide +kernel
theorem dX10_makes_98 : decode cX10_makes 98 = .ok (.iaload, 1) := by decide +kernel
theorem dX10_makes_99 : decode cX10_makes 99 = .ok (.iconst 1, 1) := by decide +kernel
theorem dX10_makes_100 : decode cX10_makes 100 = .ok (.iadd, 1) := by decide +kernel
theorem dX10_makes_101 : decode cX10_makes 101 = .ok (.iastore, 1) := by decide +kernel
theorem dX10_makes_102 : decode cX10_makes 102 = .ok (.aload_n 0, 1) := by decide +kernel
theorem dX10_makes_103 : decode cX10_makes 103 = .ok (.getfield 13, 3) := by decide +kernel
theorem dX10_makes_106 : decode cX10_makes 106 = .ok (.iconst 1, 1) := by decide +kernel
theorem dX10_makes_107 : decode cX10_makes 107 = .ok (.iaload, 1) := by decide +kernel
theorem dX10_makes_108 : decode cX10_makes 108 = .ok (.iconst 1, 1) := by decide +kernel
theorem dX10_makes_109 : decode cX10_makes 109 = .ok (.isub, 1) := by decide +kernel
theorem dX10_makes_110 : decode cX10_makes 110 = .ok (.ireturn, 1) := by decide +kernel
def w_X10_makes (p0 : Int32) (p1 : Int32) (p2 : Int32) (p3 : Int32) (mm : Mm) (Q9 : Int32 → Mm → Prop) : Prop :=
  ∀ x_1 : Int32, x_1 = (mm.1 32 1 117) → (w_X10_put x_1 0 (mm.1 32 1 1) mm (fun (m_3 : Mm) => w_X10_put x_1 1 p0 m_3 (fun (m_5 : Mm) => w_X10_put x_1 2 p1 m_5 (fun (m_7 : Mm) => w_X10_put x_1 3 p2 m_7 (fun (m_9 : Mm) => w_X10_put x_1 4 p3 m_9 (fun (m_11 : Mm) => w_X10_put x_1 5 0 m_11 (fun (m_13 : Mm) => w_X10_put x_1 6 0 m_13 (fun (m_15 : Mm) => w_X10_put x_1 7 1 m_15 (fun (m_17 : Mm) => ∀ m_18 : Mm, m_18 = sI m_17 32 1 117 ((m_17.1 32 1 117) + 1) → (∀ m_19 : Mm, m_19 = sI m_18 32 1 1 ((m_18.1 32 1 1) + 1) → (Q9 ((m_19.1 32 1 1) - 1) m_19)))))))))))
def rm_X10_makes : Room := { frames := 1, cells := 0, slots := 0, locals := 23 }
theorem hy_X10_makes : yX10_makes.cls = RX10 ∧ yX10_makes.cls ≠ "java/lang/invoke/MethodHandle" ∧ yX10_makes.cls ≠ "java/lang/invoke/VarHandle" ∧ (parseMethodDescriptor yX10_makes.desc).map (fun d => d.parameters.length) = some 4 := by decide +kernel
set_option maxRecDepth 100000 in
set_option maxHeartbeats 4000000 in
theorem c_X10_makes {l : Launch} {D : va_G} {cA : Nat → ClassId} {ad : Nat → Nat → Nat} {A : Nat → Prop} (ax : Ax ad GM A) (p0 : Int32) (p1 : Int32) (p2 : Int32) (p3 : Int32) (mm : Mm) (Q9 : Int32 → Mm → Prop) (h : w_X10_makes p0 p1 p2 p3 mm Q9) : Met l yX10_makes (.code yX10_makes cX10_makes 6 (some .int) :: TG) rm_X10_makes (PcM TT D cA ad false GM (ZM) [.ref (ad 30 1), .int p0, .int p1, .int p2, .int p3] mm) (AnsI TT D cA ad false GM A Q9) 0 0 A := by
  have zo := ZM_ok A
  unfold w_X10_makes at h
  refine enterI pl_X10 ⟨rfl, rfl⟩ rfl (Nat.le_of_ble_eq_true rfl) ?_
  intro p e s m args below meth c QQ X hK hZ hnm hE
  refine q_aload_n (j := 0) X dX10_makes_0 rfl rfl ?_
  refine q_get (k := 3) (v := .ref (ad 32 1)) X hK rfl rfl (Nat.le_of_ble_eq_true rfl) inTX10 (gm (t := 30) (by decide) (ok1 (t := 30) (Nat.le_of_ble_eq_true rfl))) kw_7_10 rfl (rv_nn (a := ad 32) (r := 1) (ok1 (t := 32) (Nat.le_of_ble_eq_true rfl)).1) dX10_makes_1 ?_
  refine q_bipush (v := 117) X dX10_makes_4 (by decide) ?_
  refine q_iald (t := 32) (i := 1) (jn := 117) (v := .int (mm.1 32 1 117)) X hK rfl rfl (gm (t := 32) (by decide) (ok1 (t := 32) (Nat.le_of_ble_eq_true rfl))) rfl (vpl (by decide +kernel)) (by decide +kernel) rfl dX10_makes_6 ?_
  refine q_topi (fun x_1 ex_1 => ?_)
  have h := h x_1 ex_1
  refine q_istore (lv' := [(5, .int x_1), (0, .ref (ad 30 1)), (1, .int p0), (2, .int p1), (3, .int p2), (4, .int p3)]) X dX10_makes_7 (by decide) rfl ?_
  refine q_aload_n (j := 1) X dX10_makes_9 rfl rfl ?_
  refine q_iload (j := 0) X dX10_makes_10 rfl ?_
  refine q_iconst (v := 0) X dX10_makes_12 (by decide) ?_
  refine q_aload_n (j := 1) X dX10_makes_13 rfl rfl ?_
  refine q_get (k := 3) (v := .ref (ad 32 1)) X hK rfl rfl (Nat.le_of_ble_eq_true rfl) inTX10 (gm (t := 30) (by decide) (ok1 (t := 30) (Nat.le_of_ble_eq_true rfl))) kw_7_10 rfl (rv_nn (a := ad 32) (r := 1) (ok1 (t := 32) (Nat.le_of_ble_eq_true rfl)).1) dX10_makes_14 ?_
  refine q_iconst (v := 1) X dX10_makes_17 (by decide) ?_
  refine q_iald (t := 32) (i := 1) (jn := 1) (v := .int (mm.1 32 1 1)) X hK rfl rfl (gm (t := 32) (by decide) (ok1 (t := 32) (Nat.le_of_ble_eq_true rfl))) rfl (vpl (by decide +kernel)) (by decide +kernel) rfl dX10_makes_18 ?_
  refine q_callv (q_runV X hK hZ zo (gm (t := 30) (by decide) (ok1 (t := 30) (Nat.le_of_ble_eq_true rfl))) rfl rfl [.int x_1, .int 0, .int (mm.1 32 1 1)] [] rfl rfl (Nat.le_of_ble_eq_true rfl) dX10_makes_19 ⟨Nat.le_of_ble_eq_true rfl, Nat.le_of_ble_eq_true rfl⟩ (c_X10_put ax x_1 0 (mm.1 32 1 1) mm _ h) rfl rfl (gV kw_7_149 kw_7_151 ks_100 kw_1_11 kw_7_152) hy_X10_put ⟨Nat.le_of_ble_eq_true rfl, Nat.le_of_ble_eq_true rfl⟩) (fun m_3 h => ?_)
  refine q_aload_n (j := 1) X dX10_makes_22 rfl rfl ?_
  refine q_iload (j := 0) X dX10_makes_23 rfl ?_
  refine q_iconst (v := 1) X dX10_makes_25 (by decide) ?_
  refine q_iload_n (j := 2) X dX10_makes_26 rfl rfl ?_
  refine q_callv (q_runV X hK hZ zo (gm (t := 30) (by decide) (ok1 (t := 30) (Nat.le_of_ble_eq_true rfl))) rfl rfl [.int x_1, .int 1, .int p0] [] rfl rfl (Nat.le_of_ble_eq_true rfl) dX10_makes_27 ⟨Nat.le_of_ble_eq_true rfl, Nat.le_of_ble_eq_true rfl⟩ (c_X10_put ax x_1 1 p0 m_3 _ h) rfl rfl (gV kw_7_149 kw_7_151 ks_100 kw_1_11 kw_7_152) hy_X10_put ⟨Nat.le_of_ble_eq_true rfl, Nat.le_of_ble_eq_true rfl⟩) (fun m_5 h => ?_)
  refine q_aload_n (j := 1) X dX10_makes_30 rfl rfl ?_
  refine q_iload (j := 0) X dX10_makes_31 rfl ?_
  refine q_iconst (v := 2) X dX10_makes_33 (by decide) ?_
  refine q_iload_n (j := 3) X dX10_makes_34 rfl rfl ?_
  refine q_callv (q_runV X hK hZ zo (gm (t := 30) (by decide) (ok1 (t := 30) (Nat.le_of_ble_eq_true rfl))) rfl rfl [.int x_1, .int 2, .int p1] [] rfl rfl (Nat.le_of_ble_eq_true rfl) dX10_makes_35 ⟨Nat.le_of_ble_eq_true rfl, Nat.le_of_ble_eq_true rfl⟩ (c_X10_put ax x_1 2 p1 m_5 _ h) rfl rfl (gV kw_7_149 kw_7_151 ks_100 kw_1_11 kw_7_152) hy_X10_put ⟨Nat.le_of_ble_eq_true rfl, Nat.le_of_ble_eq_true rfl⟩) (fun m_7 h => ?_)
  refine q_aload_n (j := 1) X dX10_makes_38 rfl rfl ?_
  refine q_iload (j := 0) X dX10_makes_39 rfl ?_
  refine q_iconst (v := 3) X dX10_makes_41 (by decide) ?_
  refine q_iload_n (j := 4) X dX10_makes_42 rfl rfl ?_
  refine q_callv (q_runV X hK hZ zo (gm (t := 30) (by decide) (ok1 (t := 30) (Nat.le_of_ble_eq_true rfl))) rfl rfl [.int x_1, .int 3, .int p2] [] rfl rfl (Nat.le_of_ble_eq_true rfl) dX10_makes_43 ⟨Nat.le_of_ble_eq_true rfl, Nat.le_of_ble_eq_true rfl⟩ (c_X10_put ax x_1 3 p2 m_7 _ h) rfl rfl (gV kw_7_149 kw_7_151 ks_100 kw_1_11 kw_7_152) hy_X10_put ⟨Nat.le_of_ble_eq_true rfl, Nat.le_of_ble_eq_true rfl⟩) (fun m_9 h => ?_)
  refine q_aload_n (j := 1) X dX10_makes_46 rfl rfl ?_
  refine q_iload (j := 0) X dX10_makes_47 rfl ?_
  refine q_iconst (v := 4) X dX10_makes_49 (by decide) ?_
  refine q_iload (j := 5) X dX10_makes_50 rfl ?_
  refine q_callv (q_runV X hK hZ zo (gm (t := 30) (by decide) (ok1 (t := 30) (Nat.le_of_ble_eq_true rfl))) rfl rfl [.int x_1, .int 4, .int p3] [] rfl rfl (Nat.le_of_ble_eq_true rfl) dX10_makes_52 ⟨Nat.le_of_ble_eq_true rfl, Nat.le_of_ble_eq_true rfl⟩ (c_X10_put ax x_1 4 p3 m_9 _ h) rfl rfl (gV kw_7_149 kw_7_151 ks_100 kw_1_11 kw_7_152) hy_X10_put ⟨Nat.le_of_ble_eq_true rfl, Nat.le_of_ble_eq_true rfl⟩) (fun m_11 h => ?_)
  refine q_aload_n (j := 1) X dX10_makes_55 rfl rfl ?_
  refine q_iload (j := 0) X dX10_makes_56 rfl ?_
  refine q_iconst (v := 5) X dX10_makes_58 (by decide) ?_
  refine q_iconst (v := 0) X dX10_makes_59 (by decide) ?_
  refine q_callv (q_runV X hK hZ zo (gm (t := 30) (by decide) (ok1 (t := 30) (Nat.le_of_ble_eq_true rfl))) rfl rfl [.int x_1, .int 5, .int 0] [] rfl rfl (Nat.le_of_ble_eq_true rfl) dX10_makes_60 ⟨Nat.le_of_ble_eq_true rfl, Nat.le_of_ble_eq_true rfl⟩ (c_X10_put ax x_1 5 0 m_11 _ h) rfl rfl (gV kw_7_149 kw_7_151 ks_100 kw_1_11 kw_7_152) hy_X10_put ⟨Nat.le_of_ble_eq_true rfl, Nat.le_of_ble_eq_true rfl⟩) (fun m_13 h => ?_)
  refine q_aload_n (j := 1) X dX10_makes_63 rfl rfl ?_
  refine q_iload (j := 0) X dX10_makes_64 rfl ?_
  refine q_bipush (v := 6) X dX10_makes_66 (by decide) ?_
  refine q_iconst (v := 0) X dX10_makes_68 (by decide) ?_
  refine q_callv (q_runV X hK hZ zo (gm (t := 30) (by decide) (ok1 (t := 30) (Nat.le_of_ble_eq_true rfl))) rfl rfl [.int x_1, .int 6, .int 0] [] rfl rfl (Nat.le_of_ble_eq_true rfl) dX10_makes_69 ⟨Nat.le_of_ble_eq_true rfl, Nat.le_of_ble_eq_true rfl⟩ (c_X10_put ax x_1 6 0 m_13 _ h) rfl rfl (gV kw_7_149 kw_7_151 ks_100 kw_1_11 kw_7_152) hy_X10_put ⟨Nat.le_of_ble_eq_true rfl, Nat.le_of_ble_eq_true rfl⟩) (fun m_15 h => ?_)
  refine q_aload_n (j := 1) X dX10_makes_72 rfl rfl ?_
  refine q_iload (j := 0) X dX10_makes_73 rfl ?_
  refine q_bipush (v := 7) X dX10_makes_75 (by decide) ?_
  refine q_iconst (v := 1) X dX10_makes_77 (by decide) ?_
  refine q_callv (q_runV X hK hZ zo (gm (t := 30) (by decide) (ok1 (t := 30) (Nat.le_of_ble_eq_true rfl))) rfl rfl [.int x_1, .int 7, .int 1] [] rfl rfl (Nat.le_of_ble_eq_true rfl) dX10_makes_78 ⟨Nat.le_of_ble_eq_true rfl, Nat.le_of_ble_eq_true rfl⟩ (c_X10_put ax x_1 7 1 m_15 _ h) rfl rfl (gV kw_7_149 kw_7_151 ks_100 kw_1_11 kw_7_152) hy_X10_put ⟨Nat.le_of_ble_eq_true rfl, Nat.le_of_ble_eq_true rfl⟩) (fun m_17 h => ?_)
  refine q_aload_n (j := 1) X dX10_makes_81 rfl rfl ?_
  refine q_get (k := 3) (v := .ref (ad 32 1)) X hK rfl rfl (Nat.le_of_ble_eq_true rfl) inTX10 (gm (t := 30) (by decide) (ok1 (t := 30) (Nat.le_of_ble_eq_true rfl))) kw_7_10 rfl (rv_nn (a := ad 32) (r := 1) (ok1 (t := 32) (Nat.le_of_ble_eq_true rfl)).1) dX10_makes_82 ?_
  refine q_bipush (v := 117) X dX10_makes_85 (by decide) ?_
  refine q_dup2 X dX10_makes_87 rfl rfl ?_
  refine q_iald (t := 32) (i := 1) (jn := 117) (v := .int (m_17.1 32 1 117)) X hK rfl rfl (gm (t := 32) (by decide) (ok1 (t := 32) (Nat.le_of_ble_eq_true rfl))) rfl (vpl (by decide +kernel)) (by decide +kernel) rfl dX10_makes_88 ?_
  refine q_iconst (v := 1) X dX10_makes_89 (by decide) ?_
  refine q_iadd X dX10_makes_90 ?_
  refine q_iast (t := 32) (i := 1) (jn := 117) X ax hK rfl rfl (gm (t := 32) (by decide) (ok1 (t := 32) (Nat.le_of_ble_eq_true rfl))) rfl (vpl (by decide +kernel)) (by decide +kernel) rfl dX10_makes_91 ?_
  refine q_nmP (fun m_18 em_18 => ?_)
  have h := h m_18 em_18
  refine q_aload_n (j := 1) X dX10_makes_92 rfl rfl ?_
  refine q_get (k := 3) (v := .ref (ad 32 1)) X hK rfl rfl (Nat.le_of_ble_eq_true rfl) inTX10 (gm (t := 30) (by decide) (ok1 (t := 30) (Nat.le_of_ble_eq_true rfl))) kw_7_10 rfl (rv_nn (a := ad 32) (r := 1) (ok1 (t := 32) (Nat.le_of_ble_eq_true rfl)).1) dX10_makes_93 ?_
  refine q_iconst (v := 1) X dX10_makes_96 (by decide) ?_
  refine q_dup2 X dX10_makes_97 rfl rfl ?_
  refine q_iald (t := 32) (i := 1) (jn := 1) (v := .int (m_18.1 32 1 1)) X hK rfl rfl (gm (t := 32) (by decide) (ok1 (t := 32) (Nat.le_of_ble_eq_true rfl))) rfl (vpl (by decide +kernel)) (by decide +kernel) rfl dX10_makes_98 ?_
  refine q_iconst (v := 1) X dX10_makes_99 (by decide) ?_
  refine q_iadd X dX10_makes_100 ?_
  refine q_iast (t := 32) (i := 1) (jn := 1) X ax hK rfl rfl (gm (t := 32) (by decide) (ok1 (t := 32) (Nat.le_of_ble_eq_true rfl))) rfl (vpl (by decide +kernel)) (by decide +kernel) rfl dX10_makes_101 ?_
  refine q_nmP (fun m_19 em_19 => ?_)
  have h := h m_19 em_19
  refine q_aload_n (j := 1) X dX10_makes_102 rfl rfl ?_
  refine q_get (k := 3) (v := .ref (ad 32 1)) X hK rfl rfl (Nat.le_of_ble_eq_true rfl) inTX10 (gm (t := 30) (by decide) (ok1 (t := 30) (Nat.le_of_ble_eq_true rfl))) kw_7_10 rfl (rv_nn (a := ad 32) (r := 1) (ok1 (t := 32) (Nat.le_of_ble_eq_true rfl)).1) dX10_makes_103 ?_
  refine q_iconst (v := 1) X dX10_makes_106 (by decide) ?_
  refine q_iald (t := 32) (i := 1) (jn := 1) (v := .int (m_19.1 32 1 1)) X hK rfl rfl (gm (t := 32) (by decide) (ok1 (t := 32) (Nat.le_of_ble_eq_true rfl))) rfl (vpl (by decide +kernel)) (by decide +kernel) rfl dX10_makes_107 ?_
  refine q_iconst (v := 1) X dX10_makes_108 (by decide) ?_
  refine q_isub X dX10_makes_109 ?_
  exact hE _ _ _ _ dX10_makes_110 h
theorem dX10_enterOn_0 : decode cX10_enterOn 0 = .ok (.aload_n 0, 1) := by decide +kernel
theorem dX10_enterOn_1 : decode cX10_enterOn 1 = .ok (.iload_n 1, 1) := by decide +kernel
theorem dX10_enterOn_2 : decode cX10_enterOn 2 = .ok (.iconst 0, 1) := by decide +kernel
theorem dX10_enterOn_3 : decode cX10_enterOn 3 = .ok (.iload_n 2, 1) := by decide +kernel
theorem dX10_enterOn_4 : decode cX10_enterOn 4 = .ok (.invokevirtual 74, 3) := by decide +kernel
theorem dX10_enterOn_7 : decode cX10_enterOn 7 = .ok (.aload_n 0, 1) := by decide +kernel
theorem dX10_enterOn_8 : decode cX10_enterOn 8 = .ok (.iload_n 1, 1) := by decide +kernel
theorem dX10_enterOn_9 : decode cX10_enterOn 9 = .ok (.iload_n 2, 1) := by decide +kernel
theorem dX10_enterOn_10 : decode cX10_enterOn 10 = .ok (.iload_n 3, 1) := by decide +kernel
theorem dX10_enterOn_11 : decode cX10_enterOn 11 = .ok (.iload 4, 2) := by decide +kernel
theorem dX10_enterOn_13 : decode cX10_enterOn 13 = .ok (.invokevirtual 77, 3) := by decide +kernel
theorem dX10_enterOn_16 : decode cX10_enterOn 16 = .ok (.ireturn, 1) := by decide +kernel
def w_X10_enterOn (p0 : Int32) (p1 : Int32) (p2 : Int32) (p3 : Int32) (mm : Mm) (Q9 : Int32 → Mm → Prop) : Prop :=
  w_X10_total p0 0 p1 mm (fun (m_2 : Mm) => w_X10_makes p0 p1 p2 p3 m_2 (fun (r_3 : Int32) (m_4 : Mm) => Q9 r_3 m_4))
def rm_X10_enterOn : Room := { frames := 2, cells := 0, slots := 0, locals := 48 }
theorem hy_X10_enterOn : yX10_enterOn.cls = RX10 ∧ yX10_enterOn.cls ≠ "java/lang/invoke/MethodHandle" ∧ yX10_enterOn.cls ≠ "java/lang/invoke/VarHandle" ∧ (parseMethodDescriptor yX10_enterOn.desc).map (fun d => d.parameters.length) = some 4 := by decide +kernel
set_option maxRecDepth 100000 in
set_option maxHeartbeats 4000000 in
theorem c_X10_enterOn {l : Launch} {D : va_G} {cA : Nat → ClassId} {ad : Nat → Nat → Nat} {A : Nat → Prop} (ax : Ax ad GM A) (p0 : Int32) (p1 : Int32) (p2 : Int32) (p3 : Int32) (mm : Mm) (Q9 : Int32 → Mm → Prop) (h : w_X10_enterOn p0 p1 p2 p3 mm Q9) : Met l yX10_enterOn (.code yX10_enterOn cX10_enterOn 5 (some .int) :: TG) rm_X10_enterOn (PcM TT D cA ad false GM (ZM) [.ref (ad 30 1), .int p0, .int p1, .int p2, .int p3] mm) (AnsI TT D cA ad false GM A Q9) 0 0 A := by
  have zo := ZM_ok A
  unfold w_X10_enterOn at h
  refine enterI pl_X10 ⟨rfl, rfl⟩ rfl (Nat.le_of_ble_eq_true rfl) ?_
  intro p e s m args below meth c QQ X hK hZ hnm hE
  refine q_aload_n (j := 0) X dX10_enterOn_0 rfl rfl ?_
  refine q_iload_n (j := 1) X dX10_enterOn_1 rfl rfl ?_
  refine q_iconst (v := 0) X dX10_enterOn_2 (by decide) ?_
  refine q_iload_n (j := 2) X dX10_enterOn_3 rfl rfl ?_
  refine q_callv (q_runV X hK hZ zo (gm (t := 30) (by decide) (ok1 (t := 30) (Nat.le_of_ble_eq_true rfl))) rfl rfl [.int p0, .int 0, .int p1] [] rfl rfl (Nat.le_of_ble_eq_true rfl) dX10_enterOn_4 ⟨Nat.le_of_ble_eq_true rfl, Nat.le_of_ble_eq_true rfl⟩ (c_X10_total ax p0 0 p1 mm _ h) rfl rfl (gV kw_7_141 kw_7_143 ks_98 kw_1_11 kw_7_144) hy_X10_total ⟨Nat.le_of_ble_eq_true rfl, Nat.le_of_ble_eq_true rfl⟩) (fun m_2 h => ?_)
  refine q_aload_n (j := 0) X dX10_enterOn_7 rfl rfl ?_
  refine q_iload_n (j := 1) X dX10_enterOn_8 rfl rfl ?_
  refine q_iload_n (j := 2) X dX10_enterOn_9 rfl rfl ?_
  refine q_iload_n (j := 3) X dX10_enterOn_10 rfl rfl ?_
  refine q_iload (j := 4) X dX10_enterOn_11 rfl ?_
  refine q_calli (q_runV X hK hZ zo (gm (t := 30) (by decide) (ok1 (t := 30) (Nat.le_of_ble_eq_true rfl))) rfl rfl [.int p0, .int p1, .int p2, .int p3] [] rfl rfl (Nat.le_of_ble_eq_true rfl) dX10_enterOn_13 ⟨Nat.le_of_ble_eq_true rfl, Nat.le_of_ble_eq_true rfl⟩ (c_X10_makes ax p0 p1 p2 p3 m_2 _ h) rfl rfl (gV kw_7_145 kw_7_147 ks_99 kw_1_11 kw_7_148) hy_X10_makes ⟨Nat.le_of_ble_eq_true rfl, Nat.le_of_ble_eq_true rfl⟩) (fun r_3 m_4 h => ?_)
  exact hE _ _ _ _ dX10_enterOn_16 h
theorem dX10_files_0 : decode cX10_files 0 = .ok (.aload_n 0, 1) := by decide +kernel
theorem dX10_files_1 : decode cX10_files 1 = .ok (.getfield 13, 3) := by decide +kernel
theorem dX10_files_4 : decode cX10_files 4 = .ok (.bipush 68, 2) := by decide +kernel
theorem dX10_files_6 : decode cX10_files 6 = .ok (.dup2, 1) := by decide +kernel
theorem dX10_files_7 : decode cX10_files 7 = .ok (.iaload, 1) := by decide +kernel
theorem dX10_files_8 : decode cX10_files 8 = .ok (.aload_n 0, 1) := by decide +kernel
theorem dX10_files_9 : decode cX10_files 9 = .ok (.getfield 13, 3) := by decide +kernel
theorem dX10_files_12 : decode cX10_files 12 = .ok (.bipush 68, 2) := by decide +kernel
theorem dX10_files_14 : decode cX10_files 14 = .ok (.iaload, 1) := by decide +kernel
theorem dX10_files_15 : decode cX10_files 15 = .ok (.bipush 12, 2) := by decide +kernel
theorem dX10_files_17 : decode cX10_files 17 = .ok (.if_icmp .ge 7, 3) := by decide +kernel
theorem dX10_files_20 : decode cX10_files 20 = .ok (.iconst 1, 1) := by decide +kernel
theorem dX10_files_21 : decode cX10_files 21 = .ok (.goto 4, 3) := by decide +kernel
theorem dX10_files_24 : decode cX10_files 24 = .ok (.iconst 0, 1) := by decide +kernel
theorem dX10_files_25 : decode cX10_files 25 = .ok (.iadd, 1) := by decide +kernel
theorem dX10_files_26 : decode cX10_files 26 = .ok (.iastore, 1) := by decide +kernel
theorem dX10_files_27 : decode cX10_files 27 = .ok (.bipush 69, 2) := by decide +kernel
theorem dX10_files_29 : decode cX10_files 29 = .ok (.iconst 4, 1) := by decide +kernel
theorem dX10_files_30 : decode cX10_files 30 = .ok (.aload_n 0, 1) := by decide +kernel
theorem dX10_files_31 : decode cX10_files 31 = .ok (.getfield 13, 3) := by decide +kernel
theorem dX10_files_34 : decode cX10_files 34 = .ok (.bipush 68, 2) := by decide +kernel
theorem dX10_files_36 : decode cX10_files 36 = .ok (.iaload, 1) := by decide +kernel
theorem dX10_files_37 : decode cX10_files 37 = .ok (.imul, 1) := by decide +kernel
theorem dX10_files_38 : decode cX10_files 38 = .ok (.iadd, 1) := by decide +kernel
theorem dX10_files_39 : decode cX10_files 39 = .ok (.iconst 1, 1) := by decide +kernel
theorem dX10_files_40 : decode cX10_files 40 = .ok (.isub, 1) := by decide +kernel
theorem dX10_files_41 : decode cX10_files 41 = .ok (.istore 4, 2) := by decide +kernel
theorem dX10_files_43 : decode cX10_files 43 = .ok (.iload 4, 2) := by decide +kernel
theorem dX10_files_45 : decode cX10_files 45 = .ok (.bipush 73, 2) := by decide +kernel
theorem dX10_files_47 : decode cX10_files 47 = .ok (.if_icmp .lt 25, 3) := by decide +kernel
theorem dX10_files_50 : decode cX10_files 50 = .ok (.aload_n 0, 1) := by decide +kernel
theorem dX10_files_51 : decode cX10_files 51 = .ok (.getfield 13, 3) := by decide +kernel
theorem dX10_files_54 : decode cX10_files 54 = .ok (.iload 4, 2) := by decide +kernel
theorem dX10_files_56 : decode cX10_files 56 = .ok (.aload_n 0, 1) := by decide +kernel
theorem dX10_files_57 : decode cX10_files 57 = .ok (.getfield 13, 3) := by decide +kernel
theorem dX10_files_60 : decode cX10_files 60 = .ok (.iload 4, 2) := by decide +kernel
theorem dX10_files_62 : decode cX10_files 62 = .ok (.iconst 4, 1) := by decide +kernel
theorem dX10_files_63 : decode cX10_files 63 = .ok (.isub, 1) := by decide +kernel
theorem dX10_files_64 : decode cX10_files 64 = .ok (.iaload, 1) := by decide +kernel
theorem dX10_files_65 : decode cX10_files 65 = .ok (.iastore, 1) := by decide +kernel
theorem dX10_files_66 : decode cX10_files 66 = .ok (.iinc 4 (-1), 3) := by decide +kernel
theorem dX10_files_69 : decode cX10_files 69 = .ok (.goto (-26), 3) := by decide +kernel
theorem dX10_files_72 : decode cX10_files 72 = .ok (.aload_n 0, 1) := by decide +kernel
theorem dX10_files_73 : decode cX10_files 73 = .ok (.getfield 13, 3) := by decide +kernel
theorem dX10_files_76 : decode cX10_files 76 = .ok (.bipush 69, 2) := by decide +kernel
theorem dX10_files_78 : decode cX10_files 78 = .ok (.iload_n 1, 1) := by decide +kernel
theorem dX10_files_79 : decode cX10_files 79 = .ok (.iastore, 1) := by decide +kernel
theorem dX10_files_80 : decode cX10_files 80 = .ok (.aload_n 0, 1) := by decide +kernel
theorem dX10_files_81 : decode cX10_files 81 = .ok (.getfield 13, 3) := by decide +kernel
theorem dX10_files_84 : decode cX10_files 84 = .ok (.bipush 70, 2) := by decide +kernel
theorem dX10_files_86 : decode cX10_files 86 = .ok (.iload_n 2, 1) := by decide +kernel
theorem dX10_files_87 : decode cX10_files 87 = .ok (.iastore, 1) := by decide +kernel
theorem dX10_files_88 : decode cX10_files 88 = .ok (.aload_n 0, 1) := by decide +kernel
theorem dX10_files_89 : decode cX10_files 89 = .ok (.getfield 13, 3) := by decide +kernel
theorem dX10_files_92 : decode cX10_files 92 = .ok (.bipush 71, 2) := by decide +kernel
theorem dX10_files_94 : decode cX10_files 94 = .ok (.iload_n 3, 1) := by decide +kernel
theorem dX10_files_95 : decode cX10_files 95 = .ok (.iastore, 1) := by decide +kernel
theorem dX10_files_96 : decode cX10_files 96 = .ok (.aload_n 0, 1) := by decide +kernel
theorem dX10_files_97 : decode cX10_files 97 = .ok (.getfield 13, 3) := by decide +kernel
theorem dX10_files_100 : decode cX10_files 100 = .ok (.bipush 72, 2) := by decide +kernel
theorem dX10_files_102 : decode cX10_files 102 = .ok (.aload_n 0, 1) := by decide +kernel
theorem dX10_files_103 : decode cX10_files 103 = .ok (.getfield 13, 3) := by decide +kernel
theorem dX10_files_106 : decode cX10_files 106 = .ok (.iconst 0, 1) := by decide +kernel
theorem dX10_files_107 : decode cX10_files 107 = .ok (.iaload, 1) := by decide +kernel
theorem dX10_files_108 : decode cX10_files 108 = .ok (.iastore, 1) := by decide +kernel
theorem dX10_files_109 : decode cX10_files 109 = .ok (.return_, 1) := by decide +kernel
def w_X10_files_B43 (p0 : Int32) (p1 : Int32) (p2 : Int32) (Q9 : Mm → Prop) (K_6 : Int32 → Mm → Prop) (y_4 : Int32) (m_5 : Mm) : Prop :=
  ((y_4 < 73 → ∀ m_9 : Mm, m_9 = sI m_5 32 1 69 p0 → (∀ m_10 : Mm, m_10 = sI m_9 32 1 70 p1 → (∀ m_11 : Mm, m_11 = sI m_10 32 1 71 p2 → (∀ m_12 : Mm, m_12 = sI m_11 32 1 72 (m_11.1 32 1 0) → (Q9 m_12))))) ∧
  (¬ y_4 < 73 → vp_in (y_4 - 4) 246 ∧ (vp_in y_4 246 ∧ ∀ m_15 : Mm, m_15 = sI m_5 32 1 y_4.toNatClampNeg (m_5.1 32 1 (y_4 - 4).toNatClampNeg) → (∀ x_16 : Int32, x_16 = y_4 + (-1) → (K_6 x_16 m_15)))))
def w_X10_files_J25 (p0 : Int32) (p1 : Int32) (p2 : Int32) (mm : Mm) (Q9 : Mm → Prop) (y_1 : Int32) : Prop :=
  ∀ m_2 : Mm, m_2 = sI mm 32 1 68 ((mm.1 32 1 68) + y_1) → (∀ x_3 : Int32, x_3 = ((69 + (4 * (m_2.1 32 1 68))) - 1) → (∃ n, itr (α := Int32 × Mm) (fun K a => w_X10_files_B43 p0 p1 p2 Q9 (fun z0 z1 => K (z0, z1)) a.1 a.2) n (x_3, m_2)))
def w_X10_files (p0 : Int32) (p1 : Int32) (p2 : Int32) (mm : Mm) (Q9 : Mm → Prop) : Prop :=
  ((12 ≤ (mm.1 32 1 68) → w_X10_files_J25 p0 p1 p2 mm Q9 0) ∧
  (¬ 12 ≤ (mm.1 32 1 68) → w_X10_files_J25 p0 p1 p2 mm Q9 1))
def rm_X10_files : Room := { frames := 0, cells := 0, slots := 0, locals := 0 }
theorem hy_X10_files : yX10_files.cls = RX10 ∧ yX10_files.cls ≠ "java/lang/invoke/MethodHandle" ∧ yX10_files.cls ≠ "java/lang/invoke/VarHandle" ∧ (parseMethodDescriptor yX10_files.desc).map (fun d => d.parameters.length) = some 3 := by decide +kernel
set_option maxRecDepth 100000 in
set_option maxHeartbeats 4000000 in
theorem c_X10_files {l : Launch} {D : va_G} {cA : Nat → ClassId} {ad : Nat → Nat → Nat} {A : Nat → Prop} (ax : Ax ad GM A) (p0 : Int32) (p1 : Int32) (p2 : Int32) (mm : Mm) (Q9 : Mm → Prop) (h : w_X10_files p0 p1 p2 mm Q9) : Met l yX10_files (.code yX10_files cX10_files 5 none :: TG) rm_X10_files (PcM TT D cA ad false GM (ZM) [.ref (ad 30 1), .int p0, .int p1, .int p2] mm) (AnsV TT D cA ad false GM A Q9) 0 0 A := by
  have zo := ZM_ok A
  unfold w_X10_files at h
  refine enterV pl_X10 ⟨rfl, rfl⟩ rfl (Nat.le_of_ble_eq_true rfl) ?_
  intro p e s m args below meth c QQ X hK hZ hnm hE
  refine q_aload_n (j := 0) X dX10_files_0 rfl rfl ?_
  refine q_get (k := 3) (v := .ref (ad 32 1)) X hK rfl rfl (Nat.le_of_ble_eq_true rfl) inTX10 (gm (t := 30) (by decide) (ok1 (t := 30) (Nat.le_of_ble_eq_true rfl))) kw_7_10 rfl (rv_nn (a := ad 32) (r := 1) (ok1 (t := 32) (Nat.le_of_ble_eq_true rfl)).1) dX10_files_1 ?_
  refine q_bipush (v := 68) X dX10_files_4 (by decide) ?_
  refine q_dup2 X dX10_files_6 rfl rfl ?_
  refine q_iald (t := 32) (i := 1) (jn := 68) (v := .int (mm.1 32 1 68)) X hK rfl rfl (gm (t := 32) (by decide) (ok1 (t := 32) (Nat.le_of_ble_eq_true rfl))) rfl (vpl (by decide +kernel)) (by decide +kernel) rfl dX10_files_7 ?_
  refine q_aload_n (j := 0) X dX10_files_8 rfl rfl ?_
  refine q_get (k := 3) (v := .ref (ad 32 1)) X hK rfl rfl (Nat.le_of_ble_eq_true rfl) inTX10 (gm (t := 30) (by decide) (ok1 (t := 30) (Nat.le_of_ble_eq_true rfl))) kw_7_10 rfl (rv_nn (a := ad 32) (r := 1) (ok1 (t := 32) (Nat.le_of_ble_eq_true rfl)).1) dX10_files_9 ?_
  refine q_bipush (v := 68) X dX10_files_12 (by decide) ?_
  refine q_iald (t := 32) (i := 1) (jn := 68) (v := .int (mm.1 32 1 68)) X hK rfl rfl (gm (t := 32) (by decide) (ok1 (t := 32) (Nat.le_of_ble_eq_true rfl))) rfl (vpl (by decide +kernel)) (by decide +kernel) rfl dX10_files_14 ?_
  refine q_bipush (v := 12) X dX10_files_15 (by decide) ?_
  have J25 : ∀ (y_1 : Int32), w_X10_files_J25 p0 p1 p2 mm Q9 y_1 → V p l e rm_X10_files s m args below meth c QQ 5 A 0 0 (Rep TT D cA ad false GM mm) 25 [(0, .ref (ad 30 1)), (1, .int p0), (2, .int p1), (3, .int p2)] [.int y_1, .int (mm.1 32 1 68), .int 68, .ref (ad 32 1)] := by
    intro y_1 h
    unfold w_X10_files_J25 at h
    refine q_iadd X dX10_files_25 ?_
    refine q_iast (t := 32) (i := 1) (jn := 68) X ax hK rfl rfl (gm (t := 32) (by decide) (ok1 (t := 32) (Nat.le_of_ble_eq_true rfl))) rfl (vpl (by decide +kernel)) (by decide +kernel) rfl dX10_files_26 ?_
    refine q_nmP (fun m_2 em_2 => ?_)
    have h := h m_2 em_2
    refine q_bipush (v := 69) X dX10_files_27 (by decide) ?_
    refine q_iconst (v := 4) X dX10_files_29 (by decide) ?_
    refine q_aload_n (j := 0) X dX10_files_30 rfl rfl ?_
    refine q_get (k := 3) (v := .ref (ad 32 1)) X hK rfl rfl (Nat.le_of_ble_eq_true rfl) inTX10 (gm (t := 30) (by decide) (ok1 (t := 30) (Nat.le_of_ble_eq_true rfl))) kw_7_10 rfl (rv_nn (a := ad 32) (r := 1) (ok1 (t := 32) (Nat.le_of_ble_eq_true rfl)).1) dX10_files_31 ?_
    refine q_bipush (v := 68) X dX10_files_34 (by decide) ?_
    refine q_iald (t := 32) (i := 1) (jn := 68) (v := .int (m_2.1 32 1 68)) X hK rfl rfl (gm (t := 32) (by decide) (ok1 (t := 32) (Nat.le_of_ble_eq_true rfl))) rfl (vpl (by decide +kernel)) (by decide +kernel) rfl dX10_files_36 ?_
    refine q_imul X dX10_files_37 ?_
    refine q_iadd X dX10_files_38 ?_
    refine q_iconst (v := 1) X dX10_files_39 (by decide) ?_
    refine q_isub X dX10_files_40 ?_
    refine q_topi (fun x_3 ex_3 => ?_)
    have h := h x_3 ex_3
    refine q_istore (lv' := [(4, .int x_3), (0, .ref (ad 30 1)), (1, .int p0), (2, .int p1), (3, .int p2)]) X dX10_files_41 (by decide) rfl ?_
    refine q_sub [1, 2, 3, 4, 0] rfl ?_
    have L43 : ∀ (n : Nat) (y_4 : Int32) (m_5 : Mm), itr (α := Int32 × Mm) (fun K a => w_X10_files_B43 p0 p1 p2 Q9 (fun z0 z1 => K (z0, z1)) a.1 a.2) n (y_4, m_5) → V p l e rm_X10_files s m args below meth c QQ 5 A 0 0 (Rep TT D cA ad false GM m_5) 43 [(0, .ref (ad 30 1)), (1, .int p0), (2, .int p1), (3, .int p2), (4, .int y_4)] [] := by
      intro n
      induction n with
      | zero => intro y_4 m_5 h; exact h.elim
      | succ n ih_7 =>
        intro y_4 m_5 h
        have h : w_X10_files_B43 p0 p1 p2 Q9 (fun z0 z1 => itr (α := Int32 × Mm) (fun K a => w_X10_files_B43 p0 p1 p2 Q9 (fun z0 z1 => K (z0, z1)) a.1 a.2) n (z0, z1)) y_4 m_5 := h
        unfold w_X10_files_B43 at h
        refine q_iload (j := 4) X dX10_files_43 rfl ?_
        refine q_bipush (v := 73) X dX10_files_45 (by decide) ?_
        refine q_icmp_lt (tgt := 72) X dX10_files_47 (by decide) (fun c_8 => ?_) (fun c_8 => ?_)
        · have h := h.1 c_8
          refine q_aload_n (j := 0) X dX10_files_72 rfl rfl ?_
          refine q_get (k := 3) (v := .ref (ad 32 1)) X hK rfl rfl (Nat.le_of_ble_eq_true rfl) inTX10 (gm (t := 30) (by decide) (ok1 (t := 30) (Nat.le_of_ble_eq_true rfl))) kw_7_10 rfl (rv_nn (a := ad 32) (r := 1) (ok1 (t := 32) (Nat.le_of_ble_eq_true rfl)).1) dX10_files_73 ?_
          refine q_bipush (v := 69) X dX10_files_76 (by decide) ?_
          refine q_iload_n (j := 1) X dX10_files_78 rfl rfl ?_
          refine q_iast (t := 32) (i := 1) (jn := 69) X ax hK rfl rfl (gm (t := 32) (by decide) (ok1 (t := 32) (Nat.le_of_ble_eq_true rfl))) rfl (vpl (by decide +kernel)) (by decide +kernel) rfl dX10_files_79 ?_
          refine q_nmP (fun m_9 em_9 => ?_)
          have h := h m_9 em_9
          refine q_aload_n (j := 0) X dX10_files_80 rfl rfl ?_
          refine q_get (k := 3) (v := .ref (ad 32 1)) X hK rfl rfl (Nat.le_of_ble_eq_true rfl) inTX10 (gm (t := 30) (by decide) (ok1 (t := 30) (Nat.le_of_ble_eq_true rfl))) kw_7_10 rfl (rv_nn (a := ad 32) (r := 1) (ok1 (t := 32) (Nat.le_of_ble_eq_true rfl)).1) dX10_files_81 ?_
          refine q_bipush (v := 70) X dX10_files_84 (by decide) ?_
          refine q_iload_n (j := 2) X dX10_files_86 rfl rfl ?_
          refine q_iast (t := 32) (i := 1) (jn := 70) X ax hK rfl rfl (gm (t := 32) (by decide) (ok1 (t := 32) (Nat.le_of_ble_eq_true rfl))) rfl (vpl (by decide +kernel)) (by decide +kernel) rfl dX10_files_87 ?_
          refine q_nmP (fun m_10 em_10 => ?_)
          have h := h m_10 em_10
          refine q_aload_n (j := 0) X dX10_files_88 rfl rfl ?_
          refine q_get (k := 3) (v := .ref (ad 32 1)) X hK rfl rfl (Nat.le_of_ble_eq_true rfl) inTX10 (gm (t := 30) (by decide) (ok1 (t := 30) (Nat.le_of_ble_eq_true rfl))) kw_7_10 rfl (rv_nn (a := ad 32) (r := 1) (ok1 (t := 32) (Nat.le_of_ble_eq_true rfl)).1) dX10_files_89 ?_
          refine q_bipush (v := 71) X dX10_files_92 (by decide) ?_
          refine q_iload_n (j := 3) X dX10_files_94 rfl rfl ?_
          refine q_iast (t := 32) (i := 1) (jn := 71) X ax hK rfl rfl (gm (t := 32) (by decide) (ok1 (t := 32) (Nat.le_of_ble_eq_true rfl))) rfl (vpl (by decide +kernel)) (by decide +kernel) rfl dX10_files_95 ?_
          refine q_nmP (fun m_11 em_11 => ?_)
          have h := h m_11 em_11
          refine q_aload_n (j := 0) X dX10_files_96 rfl rfl ?_
          refine q_get (k := 3) (v := .ref (ad 32 1)) X hK rfl rfl (Nat.le_of_ble_eq_true rfl) inTX10 (gm (t := 30) (by decide) (ok1 (t := 30) (Nat.le_of_ble_eq_true rfl))) kw_7_10 rfl (rv_nn (a := ad 32) (r := 1) (ok1 (t := 32) (Nat.le_of_ble_eq_true rfl)).1) dX10_files_97 ?_
          refine q_bipush (v := 72) X dX10_files_100 (by decide) ?_
          refine q_aload_n (j := 0) X dX10_files_102 rfl rfl ?_
          refine q_get (k := 3) (v := .ref (ad 32 1)) X hK rfl rfl (Nat.le_of_ble_eq_true rfl) inTX10 (gm (t := 30) (by decide) (ok1 (t := 30) (Nat.le_of_ble_eq_true rfl))) kw_7_10 rfl (rv_nn (a := ad 32) (r := 1) (ok1 (t := 32) (Nat.le_of_ble_eq_true rfl)).1) dX10_files_103 ?_
          refine q_iconst (v := 0) X dX10_files_106 (by decide) ?_
          refine q_iald (t := 32) (i := 1) (jn := 0) (v := .int (m_11.1 32 1 0)) X hK rfl rfl (gm (t := 32) (by decide) (ok1 (t := 32) (Nat.le_of_ble_eq_true rfl))) rfl (vpl (by decide +kernel)) (by decide +kernel) rfl dX10_files_107 ?_
          refine q_iast (t := 32) (i := 1) (jn := 72) X ax hK rfl rfl (gm (t := 32) (by decide) (ok1 (t := 32) (Nat.le_of_ble_eq_true rfl))) rfl (vpl (by decide +kernel)) (by decide +kernel) rfl dX10_files_108 ?_
          refine q_nmP (fun m_12 em_12 => ?_)
          have h := h m_12 em_12
          exact hE _ _ _ dX10_files_109 h
        · have h := h.2 c_8
          refine q_aload_n (j := 0) X dX10_files_50 rfl rfl ?_
          refine q_get (k := 3) (v := .ref (ad 32 1)) X hK rfl rfl (Nat.le_of_ble_eq_true rfl) inTX10 (gm (t := 30) (by decide) (ok1 (t := 30) (Nat.le_of_ble_eq_true rfl))) kw_7_10 rfl (rv_nn (a := ad 32) (r := 1) (ok1 (t := 32) (Nat.le_of_ble_eq_true rfl)).1) dX10_files_51 ?_
          refine q_iload (j := 4) X dX10_files_54 rfl ?_
          refine q_aload_n (j := 0) X dX10_files_56 rfl rfl ?_
          refine q_get (k := 3) (v := .ref (ad 32 1)) X hK rfl rfl (Nat.le_of_ble_eq_true rfl) inTX10 (gm (t := 30) (by decide) (ok1 (t := 30) (Nat.le_of_ble_eq_true rfl))) kw_7_10 rfl (rv_nn (a := ad 32) (r := 1) (ok1 (t := 32) (Nat.le_of_ble_eq_true rfl)).1) dX10_files_57 ?_
          refine q_iload (j := 4) X dX10_files_60 rfl ?_
          refine q_iconst (v := 4) X dX10_files_62 (by decide) ?_
          refine q_isub X dX10_files_63 ?_
          obtain ⟨b_13, h⟩ := h
          refine q_iald (t := 32) (i := 1) (jn := (y_4 - 4).toNatClampNeg) (v := .int (m_5.1 32 1 (y_4 - 4).toNatClampNeg)) X hK rfl rfl (gm (t := 32) (by decide) (ok1 (t := 32) (Nat.le_of_ble_eq_true rfl))) rfl b_13 rfl rfl dX10_files_64 ?_
          obtain ⟨b_14, h⟩ := h
          refine q_iast (t := 32) (i := 1) (jn := y_4.toNatClampNeg) X ax hK rfl rfl (gm (t := 32) (by decide) (ok1 (t := 32) (Nat.le_of_ble_eq_true rfl))) rfl b_14 rfl rfl dX10_files_65 ?_
          refine q_nmP (fun m_15 em_15 => ?_)
          have h := h m_15 em_15
          obtain ⟨x_16, ex_16⟩ : ∃ z : Int32, z = y_4 + (-1) := ⟨_, rfl⟩
          have h := h x_16 ex_16
          refine q_iinc (j := 4) (v := x_16) (lv' := [(4, .int x_16), (0, .ref (ad 30 1)), (1, .int p0), (2, .int p1), (3, .int p2)]) X dX10_files_66 rfl (by rw [ex_16]; rfl) (by decide) rfl ?_
          refine q_goto (tgt := 43) X dX10_files_69 (by decide) ?_
          refine q_sub [1, 2, 3, 4, 0] rfl ?_
          exact ih_7 x_16 m_15 h
    obtain ⟨n_17, h⟩ := h
    exact L43 n_17 x_3 m_2 h
  refine q_icmp_ge (tgt := 24) X dX10_files_17 (by decide) (fun c_18 => ?_) (fun c_18 => ?_)
  · have h := h.1 c_18
    refine q_iconst (v := 0) X dX10_files_24 (by decide) ?_
    refine q_sub [0, 1, 2, 3] rfl ?_
    exact J25 0 h
  · have h := h.2 c_18
    refine q_iconst (v := 1) X dX10_files_20 (by decide) ?_
    refine q_goto (tgt := 25) X dX10_files_21 (by decide) ?_
    refine q_sub [0, 1, 2, 3] rfl ?_
    exact J25 1 h
