theorem dX10_merge_0 : decode cX10_merge 0 = .ok (.aload_n 0, 1) := by decide +kernel
theorem dX10_merge_1 : decode cX10_merge 1 = .ok (.iload_n 1, 1) := by decide +kernel
theorem dX10_merge_2 : decode cX10_merge 2 = .ok (.invokevirtual 156, 3) := by decide +kernel
theorem dX10_merge_5 : decode cX10_merge 5 = .ok (.istore_n 3, 1) := by decide +kernel
theorem dX10_merge_6 : decode cX10_merge 6 = .ok (.aload_n 0, 1) := by decide +kernel
theorem dX10_merge_7 : decode cX10_merge 7 = .ok (.iload_n 2, 1) := by decide +kernel
theorem dX10_merge_8 : decode cX10_merge 8 = .ok (.invokevirtual 156, 3) := by decide +kernel
theorem dX10_merge_11 : decode cX10_merge 11 = .ok (.istore 4, 2) := by decide +kernel
theorem dX10_merge_13 : decode cX10_merge 13 = .ok (.aload_n 0, 1) := by decide +kernel
theorem dX10_merge_14 : decode cX10_merge 14 = .ok (.iload_n 3, 1) := by decide +kernel
theorem dX10_merge_15 : decode cX10_merge 15 = .ok (.iconst (-1), 1) := by decide +kernel
theorem dX10_merge_16 : decode cX10_merge 16 = .ok (.if_icmp .eq 9, 3) := by decide +kernel
theorem dX10_merge_19 : decode cX10_merge 19 = .ok (.iload 4, 2) := by decide +kernel
theorem dX10_merge_21 : decode cX10_merge 21 = .ok (.iconst (-1), 1) := by decide +kernel
theorem dX10_merge_22 : decode cX10_merge 22 = .ok (.if_icmp .ne 7, 3) := by decide +kernel
theorem dX10_merge_25 : decode cX10_merge 25 = .ok (.iconst 1, 1) := by decide +kernel
theorem dX10_merge_26 : decode cX10_merge 26 = .ok (.goto 28, 3) := by decide +kernel
theorem dX10_merge_29 : decode cX10_merge 29 = .ok (.iload_n 3, 1) := by decide +kernel
theorem dX10_merge_30 : decode cX10_merge 30 = .ok (.iload 4, 2) := by decide +kernel
theorem dX10_merge_32 : decode cX10_merge 32 = .ok (.if_icmp .ne 7, 3) := by decide +kernel
theorem dX10_merge_35 : decode cX10_merge 35 = .ok (.iconst 2, 1) := by decide +kernel
theorem dX10_merge_36 : decode cX10_merge 36 = .ok (.goto 18, 3) := by decide +kernel
theorem dX10_merge_39 : decode cX10_merge 39 = .ok (.aload_n 0, 1) := by decide +kernel
theorem dX10_merge_40 : decode cX10_merge 40 = .ok (.iload_n 3, 1) := by decide +kernel
theorem dX10_merge_41 : decode cX10_merge 41 = .ok (.iload 4, 2) := by decide +kernel
theorem dX10_merge_43 : decode cX10_merge 43 = .ok (.invokevirtual 188, 3) := by decide +kernel
theorem dX10_merge_46 : decode cX10_merge 46 = .ok (.ifCond .eq 7, 3) := by decide +kernel
theorem dX10_merge_49 : decode cX10_merge 49 = .ok (.iconst 0, 1) := by decide +kernel
theorem dX10_merge_50 : decode cX10_merge 50 = .ok (.goto 4, 3) := by decide +kernel
theorem dX10_merge_53 : decode cX10_merge 53 = .ok (.iconst 3, 1) := by decide +kernel
theorem dX10_merge_54 : decode cX10_merge 54 = .ok (.invokevirtual 147, 3) := by decide +kernel
theorem dX10_merge_57 : decode cX10_merge 57 = .ok (.ifCond .eq 5, 3) := by decide +kernel
theorem dX10_merge_60 : decode cX10_merge 60 = .ok (.iconst 0, 1) := by decide +kernel
theorem dX10_merge_61 : decode cX10_merge 61 = .ok (.ireturn, 1) := by decide +kernel
theorem dX10_merge_62 : decode cX10_merge 62 = .ok (.aload_n 0, 1) := by decide +kernel
theorem dX10_merge_63 : decode cX10_merge 63 = .ok (.invokevirtual 150, 3) := by decide +kernel
theorem dX10_merge_66 : decode cX10_merge 66 = .ok (.aload_n 0, 1) := by decide +kernel
theorem dX10_merge_67 : decode cX10_merge 67 = .ok (.iload_n 3, 1) := by decide +kernel
theorem dX10_merge_68 : decode cX10_merge 68 = .ok (.iconst 2, 1) := by decide +kernel
theorem dX10_merge_69 : decode cX10_merge 69 = .ok (.invokevirtual 41, 3) := by decide +kernel
theorem dX10_merge_72 : decode cX10_merge 72 = .ok (.aload_n 0, 1) := by decide +kernel
theorem dX10_merge_73 : decode cX10_merge 73 = .ok (.iload 4, 2) := by decide +kernel
theorem dX10_merge_75 : decode cX10_merge 75 = .ok (.iconst 2, 1) := by decide +kernel
theorem dX10_merge_76 : decode cX10_merge 76 = .ok (.invokevirtual 41, 3) := by decide +kernel
theorem dX10_merge_79 : decode cX10_merge 79 = .ok (.iadd, 1) := by decide +kernel
theorem dX10_merge_80 : decode cX10_merge 80 = .ok (.istore 5, 2) := by decide +kernel
theorem dX10_merge_82 : decode cX10_merge 82 = .ok (.aload_n 0, 1) := by decide +kernel
theorem dX10_merge_83 : decode cX10_merge 83 = .ok (.iload_n 3, 1) := by decide +kernel
theorem dX10_merge_84 : decode cX10_merge 84 = .ok (.iconst 2, 1) := by decide +kernel
theorem dX10_merge_85 : decode cX10_merge 85 = .ok (.iload 5, 2) := by decide +kernel
theorem dX10_merge_87 : decode cX10_merge 87 = .ok (.invokevirtual 66, 3) := by decide +kernel
theorem dX10_merge_90 : decode cX10_merge 90 = .ok (.aload_n 0, 1) := by decide +kernel
theorem dX10_merge_91 : decode cX10_merge 91 = .ok (.iload_n 3, 1) := by decide +kernel
theorem dX10_merge_92 : decode cX10_merge 92 = .ok (.iconst 3, 1) := by decide +kernel
theorem dX10_merge_93 : decode cX10_merge 93 = .ok (.aload_n 0, 1) := by decide +kernel
theorem dX10_merge_94 : decode cX10_merge 94 = .ok (.iload_n 3, 1) := by decide +kernel
theorem dX10_merge_95 : decode cX10_merge 95 = .ok (.iconst 3, 1) := by decide +kernel
theorem dX10_merge_96 : decode cX10_merge 96 = .ok (.invokevirtual 41, 3) := by decide +kernel
theorem dX10_merge_99 : decode cX10_merge 99 = .ok (.aload_n 0, 1) := by decide +kernel
theorem dX10_merge_100 : decode cX10_merge 100 = .ok (.iload 4, 2) := by decide +kernel
theorem dX10_merge_102 : decode cX10_merge 102 = .ok (.iconst 3, 1) := by decide +kernel
theorem dX10_merge_103 : decode cX10_merge 103 = .ok (.invokevirtual 41, 3) := by decide +kernel
theorem dX10_merge_106 : decode cX10_merge 106 = .ok (.iadd, 1) := by decide +kernel
theorem dX10_merge_107 : decode cX10_merge 107 = .ok (.invokevirtual 66, 3) := by decide +kernel
theorem dX10_merge_110 : decode cX10_merge 110 = .ok (.aload_n 0, 1) := by decide +kernel
theorem dX10_merge_111 : decode cX10_merge 111 = .ok (.iload_n 3, 1) := by decide +kernel
theorem dX10_merge_112 : decode cX10_merge 112 = .ok (.iconst 5, 1) := by decide +kernel
theorem dX10_merge_113 : decode cX10_merge 113 = .ok (.aload_n 0, 1) := by decide +kernel
theorem dX10_merge_114 : decode cX10_merge 114 = .ok (.iload_n 3, 1) := by decide +kernel
theorem dX10_merge_115 : decode cX10_merge 115 = .ok (.iconst 5, 1) := by decide +kernel
theorem dX10_merge_116 : decode cX10_merge 116 = .ok (.invokevirtual 41, 3) := by decide +kernel
theorem dX10_merge_119 : decode cX10_merge 119 = .ok (.aload_n 0, 1) := by decide +kernel
theorem dX10_merge_120 : decode cX10_merge 120 = .ok (.iload 4, 2) := by decide +kernel
theorem dX10_merge_122 : decode cX10_merge 122 = .ok (.iconst 5, 1) := by decide +kernel
theorem dX10_merge_123 : decode cX10_merge 123 = .ok (.invokevirtual 41, 3) := by decide +kernel
theorem dX10_merge_126 : decode cX10_merge 126 = .ok (.if_icmp .le 12, 3) := by decide +kernel
theorem dX10_merge_129 : decode cX10_merge 129 = .ok (.aload_n 0, 1) := by decide +kernel
theorem dX10_merge_130 : decode cX10_merge 130 = .ok (.iload_n 3, 1) := by decide +kernel
theorem dX10_merge_131 : decode cX10_merge 131 = .ok (.iconst 5, 1) := by decide +kernel
theorem dX10_merge_132 : decode cX10_merge 132 = .ok (.invokevirtual 41, 3) := by decide +kernel
theorem dX10_merge_135 : decode cX10_merge 135 = .ok (.goto 10, 3) := by decide +kernel
theorem dX10_merge_138 : decode cX10_merge 138 = .ok (.aload_n 0, 1) := by decide +kernel
theorem dX10_merge_139 : decode cX10_merge 139 = .ok (.iload 4, 2) := by decide +kernel
theorem dX10_merge_141 : decode cX10_merge 141 = .ok (.iconst 5, 1) := by decide +kernel
theorem dX10_merge_142 : decode cX10_merge 142 = .ok (.invokevirtual 41, 3) := by decide +kernel
theorem dX10_merge_145 : decode cX10_merge 145 = .ok (.invokevirtual 66, 3) := by decide +kernel
theorem dX10_merge_148 : decode cX10_merge 148 = .ok (.aload_n 0, 1) := by decide +kernel
theorem dX10_merge_149 : decode cX10_merge 149 = .ok (.iload_n 3, 1) := by decide +kernel
theorem dX10_merge_150 : decode cX10_merge 150 = .ok (.bipush 6, 2) := by decide +kernel
theorem dX10_merge_152 : decode cX10_merge 152 = .ok (.aload_n 0, 1) := by decide +kernel
theorem dX10_merge_153 : decode cX10_merge 153 = .ok (.iload_n 3, 1) := by decide +kernel
theorem dX10_merge_154 : decode cX10_merge 154 = .ok (.bipush 6, 2) := by decide +kernel
theorem dX10_merge_156 : decode cX10_merge 156 = .ok (.invokevirtual 41, 3) := by decide +kernel
theorem dX10_merge_159 : decode cX10_merge 159 = .ok (.aload_n 0, 1) := by decide +kernel
theorem dX10_merge_160 : decode cX10_merge 160 = .ok (.iload 4, 2) := by decide +kernel
theorem dX10_merge_162 : decode cX10_merge 162 = .ok (.bipush 6, 2) := by decide +kernel
theorem dX10_merge_164 : decode cX10_merge 164 = .ok (.invokevirtual 41, 3) := by decide +kernel
theorem dX10_merge_167 : decode cX10_merge 167 = .ok (.if_icmp .ge 13, 3) := by decide +kernel
theorem dX10_merge_170 : decode cX10_merge 170 = .ok (.aload_n 0, 1) := by decide +kernel
theorem dX10_merge_171 : decode cX10_merge 171 = .ok (.iload_n 3, 1) := by decide +kernel
theorem dX10_merge_172 : decode cX10_merge 172 = .ok (.bipush 6, 2) := by decide +kernel
theorem dX10_merge_174 : decode cX10_merge 174 = .ok (.invokevirtual 41, 3) := by decide +kernel
theorem dX10_merge_177 : decode cX10_merge 177 = .ok (.goto 11, 3) := by decide +kernel
theorem dX10_merge_180 : decode cX10_merge 180 = .ok (.aload_n 0, 1) := by decide +kernel
theorem dX10_merge_181 : decode cX10_merge 181 = .ok (.iload 4, 2) := by decide +kernel
theorem dX10_merge_183 : decode cX10_merge 183 = .ok (.bipush 6, 2) := by decide +kernel
theorem dX10_merge_185 : decode cX10_merge 185 = .ok (.invokevirtual 41, 3) := by decide +kernel
theorem dX10_merge_188 : decode cX10_merge 188 = .ok (.invokevirtual 66, 3) := by decide +kernel
theorem dX10_merge_191 : decode cX10_merge 191 = .ok (.aload_n 0, 1) := by decide +kernel
theorem dX10_merge_192 : decode cX10_merge 192 = .ok (.iload 4, 2) := by decide +kernel
theorem dX10_merge_194 : decode cX10_merge 194 = .ok (.invokevirtual 70, 3) := by decide +kernel
theorem dX10_merge_197 : decode cX10_merge 197 = .ok (.iload 5, 2) := by decide +kernel
theorem dX10_merge_199 : decode cX10_merge 199 = .ok (.ireturn, 1) := by decide +kernel
def w_X10_merge_J145 (Q9 : Int32 → Mm → Prop) (r_1 : Int32) (r_3 : Int32) (x_15 : Int32) (m_23 : Mm) (y_28 : Int32) : Prop :=
  w_X10_put r_1 5 y_28 m_23 (fun (m_30 : Mm) => w_X10_of r_1 6 m_30 (fun (r_31 : Int32) => w_X10_of r_3 6 m_30 (fun (r_33 : Int32) => ((r_33 ≤ r_31 → w_X10_of r_3 6 m_30 (fun (r_36 : Int32) => w_X10_put r_1 6 r_36 m_30 (fun (m_39 : Mm) => w_X10_close r_3 m_39 (fun (m_41 : Mm) => Q9 x_15 m_41)))) ∧
  (¬ r_33 ≤ r_31 → w_X10_of r_1 6 m_30 (fun (r_42 : Int32) => w_X10_put r_1 6 r_42 m_30 (fun (m_45 : Mm) => w_X10_close r_3 m_45 (fun (m_47 : Mm) => Q9 x_15 m_47))))))))
def w_X10_merge_J54 (mm : Mm) (Q9 : Int32 → Mm → Prop) (r_1 : Int32) (r_3 : Int32) (y_5 : Int32) : Prop :=
  w_X10_refused y_5 mm (fun (r_6 : Int32) (m_7 : Mm) => ((r_6 = 0 → w_X10_saves m_7 (fun (m_10 : Mm) => w_X10_of r_1 2 m_10 (fun (r_11 : Int32) => w_X10_of r_3 2 m_10 (fun (r_13 : Int32) => ∀ x_15 : Int32, x_15 = (r_11 + r_13) → (w_X10_put r_1 2 x_15 m_10 (fun (m_17 : Mm) => w_X10_of r_1 3 m_17 (fun (r_18 : Int32) => w_X10_of r_3 3 m_17 (fun (r_20 : Int32) => w_X10_put r_1 3 (r_18 + r_20) m_17 (fun (m_23 : Mm) => w_X10_of r_1 5 m_23 (fun (r_24 : Int32) => w_X10_of r_3 5 m_23 (fun (r_26 : Int32) => ((r_24 ≤ r_26 → w_X10_of r_3 5 m_23 (fun (r_49 : Int32) => w_X10_merge_J145 Q9 r_1 r_3 x_15 m_23 r_49)) ∧
  (¬ r_24 ≤ r_26 → w_X10_of r_1 5 m_23 (fun (r_51 : Int32) => w_X10_merge_J145 Q9 r_1 r_3 x_15 m_23 r_51)))))))))))))) ∧
  (¬ r_6 = 0 → Q9 0 m_7)))
def w_X10_merge_J25 (mm : Mm) (Q9 : Int32 → Mm → Prop) (r_1 : Int32) (r_3 : Int32) : Prop :=
  w_X10_merge_J54 mm Q9 r_1 r_3 1
def w_X10_merge (p0 : Int32) (p1 : Int32) (mm : Mm) (Q9 : Int32 → Mm → Prop) : Prop :=
  w_X10_find p0 mm (fun (r_1 : Int32) => w_X10_find p1 mm (fun (r_3 : Int32) => ((r_1 = (-1) → w_X10_merge_J25 mm Q9 r_1 r_3) ∧
  (¬ r_1 = (-1) → ((¬ r_3 = (-1) → ((¬ r_1 = r_3 → w_X10_canMerge r_1 r_3 mm (fun (r_56 : Int32) => ((r_56 = 0 → w_X10_merge_J54 mm Q9 r_1 r_3 3) ∧
  (¬ r_56 = 0 → w_X10_merge_J54 mm Q9 r_1 r_3 0)))) ∧
  (r_1 = r_3 → w_X10_merge_J54 mm Q9 r_1 r_3 2))) ∧
  (r_3 = (-1) → w_X10_merge_J25 mm Q9 r_1 r_3))))))
def rm_X10_merge : Room := { frames := 2, cells := 0, slots := 0, locals := 45 }
theorem hy_X10_merge : yX10_merge.cls = RX10 ∧ yX10_merge.cls ≠ "java/lang/invoke/MethodHandle" ∧ yX10_merge.cls ≠ "java/lang/invoke/VarHandle" ∧ (parseMethodDescriptor yX10_merge.desc).map (fun d => d.parameters.length) = some 2 := by decide +kernel
set_option maxRecDepth 100000 in
set_option maxHeartbeats 4000000 in
theorem c_X10_merge {l : Launch} {D : va_G} {cA : Nat → ClassId} {ad : Nat → Nat → Nat} {A : Nat → Prop} (ax : Ax ad GM A) (p0 : Int32) (p1 : Int32) (mm : Mm) (Q9 : Int32 → Mm → Prop) (h : w_X10_merge p0 p1 mm Q9) : Met l yX10_merge (.code yX10_merge cX10_merge 6 (some .int) :: TG) rm_X10_merge (PcM TT D cA ad false GM (ZM) [.ref (ad 30 1), .int p0, .int p1] mm) (AnsI TT D cA ad false GM A Q9) 0 0 A := by
  have zo := ZM_ok A
  unfold w_X10_merge at h
  refine enterI pl_X10 ⟨rfl, rfl⟩ rfl (Nat.le_of_ble_eq_true rfl) ?_
  intro p e s m args below meth c QQ X hK hZ hnm hE
  refine q_aload_n (j := 0) X dX10_merge_0 rfl rfl ?_
  refine q_iload_n (j := 1) X dX10_merge_1 rfl rfl ?_
  refine q_calli (q_runV X hK hZ zo (gm (t := 30) (by decide) (ok1 (t := 30) (Nat.le_of_ble_eq_true rfl))) rfl rfl [.int p0] [] rfl rfl (Nat.le_of_ble_eq_true rfl) dX10_merge_2 ⟨Nat.le_of_ble_eq_true rfl, Nat.le_of_ble_eq_true rfl⟩ (c_X10_find ax p0 mm _ h) rfl rfl (gV kw_7_157 kw_7_159 ks_101 kw_1_11 kw_7_160) hy_X10_find ⟨Nat.le_of_ble_eq_true rfl, Nat.le_of_ble_eq_true rfl⟩) (fun r_1 m_2 h => ?_)
  obtain ⟨h, hm⟩ := h
  subst hm
  refine q_istore_n (lv' := [(3, .int r_1), (0, .ref (ad 30 1)), (1, .int p0), (2, .int p1)]) X dX10_merge_5 rfl (by decide) rfl ?_
  refine q_aload_n (j := 1) X dX10_merge_6 rfl rfl ?_
  refine q_iload_n (j := 3) X dX10_merge_7 rfl rfl ?_
  refine q_calli (q_runV X hK hZ zo (gm (t := 30) (by decide) (ok1 (t := 30) (Nat.le_of_ble_eq_true rfl))) rfl rfl [.int p1] [] rfl rfl (Nat.le_of_ble_eq_true rfl) dX10_merge_8 ⟨Nat.le_of_ble_eq_true rfl, Nat.le_of_ble_eq_true rfl⟩ (c_X10_find ax p1 mm _ h) rfl rfl (gV kw_7_157 kw_7_159 ks_101 kw_1_11 kw_7_160) hy_X10_find ⟨Nat.le_of_ble_eq_true rfl, Nat.le_of_ble_eq_true rfl⟩) (fun r_3 m_4 h => ?_)
  obtain ⟨h, hm⟩ := h
  subst hm
  refine q_istore (lv' := [(4, .int r_3), (3, .int r_1), (0, .ref (ad 30 1)), (1, .int p0), (2, .int p1)]) X dX10_merge_11 (by decide) rfl ?_
  refine q_aload_n (j := 2) X dX10_merge_13 rfl rfl ?_
  refine q_iload_n (j := 1) X dX10_merge_14 rfl rfl ?_
  refine q_iconst (v := (-1)) X dX10_merge_15 (by decide) ?_
  have J54 : ∀ (y_5 : Int32), w_X10_merge_J54 mm Q9 r_1 r_3 y_5 → V p l e rm_X10_merge s m args below meth c QQ 6 A 0 0 (Rep TT D cA ad false GM mm) 54 [(0, .ref (ad 30 1)), (3, .int r_1), (4, .int r_3)] [.int y_5, .ref (ad 30 1)] := by
    intro y_5 h
    unfold w_X10_merge_J54 at h
    refine q_calli (q_runV X hK hZ zo (gm (t := 30) (by decide) (ok1 (t := 30) (Nat.le_of_ble_eq_true rfl))) rfl rfl [.int y_5] [] rfl rfl (Nat.le_of_ble_eq_true rfl) dX10_merge_54 ⟨Nat.le_of_ble_eq_true rfl, Nat.le_of_ble_eq_true rfl⟩ (c_X10_refused ax y_5 mm _ h) rfl rfl (gV kw_7_126 kw_7_128 ks_95 kw_1_11 kw_7_129) hy_X10_refused ⟨Nat.le_of_ble_eq_true rfl, Nat.le_of_ble_eq_true rfl⟩) (fun r_6 m_7 h => ?_)
    refine q_if_eq (tgt := 62) X dX10_merge_57 (by decide) (fun c_8 => ?_) (fun c_8 => ?_)
    · have h := h.1 c_8
      refine q_aload_n (j := 0) X dX10_merge_62 rfl rfl ?_
      refine q_callv (q_runV X hK hZ zo (gm (t := 30) (by decide) (ok1 (t := 30) (Nat.le_of_ble_eq_true rfl))) rfl rfl [] [] rfl rfl (Nat.le_of_ble_eq_true rfl) dX10_merge_63 ⟨Nat.le_of_ble_eq_true rfl, Nat.le_of_ble_eq_true rfl⟩ (c_X10_saves ax m_7 _ h) rfl rfl (gV kw_7_130 kw_7_132 ks_96 kw_1_11 kw_7_133) hy_X10_saves ⟨Nat.le_of_ble_eq_true rfl, Nat.le_of_ble_eq_true rfl⟩) (fun m_10 h => ?_)
      refine q_aload_n (j := 0) X dX10_merge_66 rfl rfl ?_
      refine q_iload_n (j := 1) X dX10_merge_67 rfl rfl ?_
      refine q_iconst (v := 2) X dX10_merge_68 (by decide) ?_
      refine q_calli (q_runV X hK hZ zo (gm (t := 30) (by decide) (ok1 (t := 30) (Nat.le_of_ble_eq_true rfl))) rfl rfl [.int r_1, .int 2] [] rfl rfl (Nat.le_of_ble_eq_true rfl) dX10_merge_69 ⟨Nat.le_of_ble_eq_true rfl, Nat.le_of_ble_eq_true rfl⟩ (c_X10_of ax r_1 2 m_10 _ h) rfl rfl (gV kw_7_95 kw_7_97 ks_88 kw_1_11 kw_7_98) hy_X10_of ⟨Nat.le_of_ble_eq_true rfl, Nat.le_of_ble_eq_true rfl⟩) (fun r_11 m_12 h => ?_)
      obtain ⟨h, hm⟩ := h
      subst hm
      refine q_aload_n (j := 0) X dX10_merge_72 rfl rfl ?_
      refine q_iload (j := 2) X dX10_merge_73 rfl ?_
      refine q_iconst (v := 2) X dX10_merge_75 (by decide) ?_
      refine q_calli (q_runV X hK hZ zo (gm (t := 30) (by decide) (ok1 (t := 30) (Nat.le_of_ble_eq_true rfl))) rfl rfl [.int r_3, .int 2] [.int r_11] rfl rfl (Nat.le_of_ble_eq_true rfl) dX10_merge_76 ⟨Nat.le_of_ble_eq_true rfl, Nat.le_of_ble_eq_true rfl⟩ (c_X10_of ax r_3 2 m_10 _ h) rfl rfl (gV kw_7_95 kw_7_97 ks_88 kw_1_11 kw_7_98) hy_X10_of ⟨Nat.le_of_ble_eq_true rfl, Nat.le_of_ble_eq_true rfl⟩) (fun r_13 m_14 h => ?_)
      obtain ⟨h, hm⟩ := h
      subst hm
      refine q_iadd X dX10_merge_79 ?_
      refine q_topi (fun x_15 ex_15 => ?_)
      have h := h x_15 ex_15
      refine q_istore (lv' := [(5, .int x_15), (0, .ref (ad 30 1)), (3, .int r_1), (4, .int r_3)]) X dX10_merge_80 (by decide) rfl ?_
      refine q_aload_n (j := 1) X dX10_merge_82 rfl rfl ?_
      refine q_iload_n (j := 2) X dX10_merge_83 rfl rfl ?_
      refine q_iconst (v := 2) X dX10_merge_84 (by decide) ?_
      refine q_iload (j := 0) X dX10_merge_85 rfl ?_
      refine q_callv (q_runV X hK hZ zo (gm (t := 30) (by decide) (ok1 (t := 30) (Nat.le_of_ble_eq_true rfl))) rfl rfl [.int r_1, .int 2, .int x_15] [] rfl rfl (Nat.le_of_ble_eq_true rfl) dX10_merge_87 ⟨Nat.le_of_ble_eq_true rfl, Nat.le_of_ble_eq_true rfl⟩ (c_X10_put ax r_1 2 x_15 m_10 _ h) rfl rfl (gV kw_7_149 kw_7_151 ks_100 kw_1_11 kw_7_152) hy_X10_put ⟨Nat.le_of_ble_eq_true rfl, Nat.le_of_ble_eq_true rfl⟩) (fun m_17 h => ?_)
      refine q_aload_n (j := 1) X dX10_merge_90 rfl rfl ?_
      refine q_iload_n (j := 2) X dX10_merge_91 rfl rfl ?_
      refine q_iconst (v := 3) X dX10_merge_92 (by decide) ?_
      refine q_aload_n (j := 1) X dX10_merge_93 rfl rfl ?_
      refine q_iload_n (j := 2) X dX10_merge_94 rfl rfl ?_
      refine q_iconst (v := 3) X dX10_merge_95 (by decide) ?_
      refine q_calli (q_runV X hK hZ zo (gm (t := 30) (by decide) (ok1 (t := 30) (Nat.le_of_ble_eq_true rfl))) rfl rfl [.int r_1, .int 3] [.int 3, .int r_1, .ref (ad 30 1)] rfl rfl (Nat.le_of_ble_eq_true rfl) dX10_merge_96 ⟨Nat.le_of_ble_eq_true rfl, Nat.le_of_ble_eq_true rfl⟩ (c_X10_of ax r_1 3 m_17 _ h) rfl rfl (gV kw_7_95 kw_7_97 ks_88 kw_1_11 kw_7_98) hy_X10_of ⟨Nat.le_of_ble_eq_true rfl, Nat.le_of_ble_eq_true rfl⟩) (fun r_18 m_19 h => ?_)
      obtain ⟨h, hm⟩ := h
      subst hm
      refine q_aload_n (j := 1) X dX10_merge_99 rfl rfl ?_
      refine q_iload (j := 3) X dX10_merge_100 rfl ?_
      refine q_iconst (v := 3) X dX10_merge_102 (by decide) ?_
      refine q_calli (q_runV X hK hZ zo (gm (t := 30) (by decide) (ok1 (t := 30) (Nat.le_of_ble_eq_true rfl))) rfl rfl [.int r_3, .int 3] [.int r_18, .int 3, .int r_1, .ref (ad 30 1)] rfl rfl (Nat.le_of_ble_eq_true rfl) dX10_merge_103 ⟨Nat.le_of_ble_eq_true rfl, Nat.le_of_ble_eq_true rfl⟩ (c_X10_of ax r_3 3 m_17 _ h) rfl rfl (gV kw_7_95 kw_7_97 ks_88 kw_1_11 kw_7_98) hy_X10_of ⟨Nat.le_of_ble_eq_true rfl, Nat.le_of_ble_eq_true rfl⟩) (fun r_20 m_21 h => ?_)
      obtain ⟨h, hm⟩ := h
      subst hm
      refine q_iadd X dX10_merge_106 ?_
      refine q_callv (q_runV X hK hZ zo (gm (t := 30) (by decide) (ok1 (t := 30) (Nat.le_of_ble_eq_true rfl))) rfl rfl [.int r_1, .int 3, .int (r_18 + r_20)] [] rfl rfl (Nat.le_of_ble_eq_true rfl) dX10_merge_107 ⟨Nat.le_of_ble_eq_true rfl, Nat.le_of_ble_eq_true rfl⟩ (c_X10_put ax r_1 3 (r_18 + r_20) m_17 _ h) rfl rfl (gV kw_7_149 kw_7_151 ks_100 kw_1_11 kw_7_152) hy_X10_put ⟨Nat.le_of_ble_eq_true rfl, Nat.le_of_ble_eq_true rfl⟩) (fun m_23 h => ?_)
      refine q_aload_n (j := 1) X dX10_merge_110 rfl rfl ?_
      refine q_iload_n (j := 2) X dX10_merge_111 rfl rfl ?_
      refine q_iconst (v := 5) X dX10_merge_112 (by decide) ?_
      refine q_aload_n (j := 1) X dX10_merge_113 rfl rfl ?_
      refine q_iload_n (j := 2) X dX10_merge_114 rfl rfl ?_
      refine q_iconst (v := 5) X dX10_merge_115 (by decide) ?_
      refine q_calli (q_runV X hK hZ zo (gm (t := 30) (by decide) (ok1 (t := 30) (Nat.le_of_ble_eq_true rfl))) rfl rfl [.int r_1, .int 5] [.int 5, .int r_1, .ref (ad 30 1)] rfl rfl (Nat.le_of_ble_eq_true rfl) dX10_merge_116 ⟨Nat.le_of_ble_eq_true rfl, Nat.le_of_ble_eq_true rfl⟩ (c_X10_of ax r_1 5 m_23 _ h) rfl rfl (gV kw_7_95 kw_7_97 ks_88 kw_1_11 kw_7_98) hy_X10_of ⟨Nat.le_of_ble_eq_true rfl, Nat.le_of_ble_eq_true rfl⟩) (fun r_24 m_25 h => ?_)
      obtain ⟨h, hm⟩ := h
      subst hm
      refine q_aload_n (j := 1) X dX10_merge_119 rfl rfl ?_
      refine q_iload (j := 3) X dX10_merge_120 rfl ?_
      refine q_iconst (v := 5) X dX10_merge_122 (by decide) ?_
      refine q_calli (q_runV X hK hZ zo (gm (t := 30) (by decide) (ok1 (t := 30) (Nat.le_of_ble_eq_true rfl))) rfl rfl [.int r_3, .int 5] [.int r_24, .int 5, .int r_1, .ref (ad 30 1)] rfl rfl (Nat.le_of_ble_eq_true rfl) dX10_merge_123 ⟨Nat.le_of_ble_eq_true rfl, Nat.le_of_ble_eq_true rfl⟩ (c_X10_of ax r_3 5 m_23 _ h) rfl rfl (gV kw_7_95 kw_7_97 ks_88 kw_1_11 kw_7_98) hy_X10_of ⟨Nat.le_of_ble_eq_true rfl, Nat.le_of_ble_eq_true rfl⟩) (fun r_26 m_27 h => ?_)
      obtain ⟨h, hm⟩ := h
      subst hm
      have J145 : ∀ (y_28 : Int32), w_X10_merge_J145 Q9 r_1 r_3 x_15 m_23 y_28 → V p l e rm_X10_merge s m args below meth c QQ 6 A 0 0 (Rep TT D cA ad false GM m_23) 145 [(0, .ref (ad 30 1)), (3, .int r_1), (4, .int r_3), (5, .int x_15)] [.int y_28, .int 5, .int r_1, .ref (ad 30 1)] := by
        intro y_28 h
        unfold w_X10_merge_J145 at h
        refine q_callv (q_runV X hK hZ zo (gm (t := 30) (by decide) (ok1 (t := 30) (Nat.le_of_ble_eq_true rfl))) rfl rfl [.int r_1, .int 5, .int y_28] [] rfl rfl (Nat.le_of_ble_eq_true rfl) dX10_merge_145 ⟨Nat.le_of_ble_eq_true rfl, Nat.le_of_ble_eq_true rfl⟩ (c_X10_put ax r_1 5 y_28 m_23 _ h) rfl rfl (gV kw_7_149 kw_7_151 ks_100 kw_1_11 kw_7_152) hy_X10_put ⟨Nat.le_of_ble_eq_true rfl, Nat.le_of_ble_eq_true rfl⟩) (fun m_30 h => ?_)
        refine q_aload_n (j := 0) X dX10_merge_148 rfl rfl ?_
        refine q_iload_n (j := 1) X dX10_merge_149 rfl rfl ?_
        refine q_bipush (v := 6) X dX10_merge_150 (by decide) ?_
        refine q_aload_n (j := 0) X dX10_merge_152 rfl rfl ?_
        refine q_iload_n (j := 1) X dX10_merge_153 rfl rfl ?_
        refine q_bipush (v := 6) X dX10_merge_154 (by decide) ?_
        refine q_calli (q_runV X hK hZ zo (gm (t := 30) (by decide) (ok1 (t := 30) (Nat.le_of_ble_eq_true rfl))) rfl rfl [.int r_1, .int 6] [.int 6, .int r_1, .ref (ad 30 1)] rfl rfl (Nat.le_of_ble_eq_true rfl) dX10_merge_156 ⟨Nat.le_of_ble_eq_true rfl, Nat.le_of_ble_eq_true rfl⟩ (c_X10_of ax r_1 6 m_30 _ h) rfl rfl (gV kw_7_95 kw_7_97 ks_88 kw_1_11 kw_7_98) hy_X10_of ⟨Nat.le_of_ble_eq_true rfl, Nat.le_of_ble_eq_true rfl⟩) (fun r_31 m_32 h => ?_)
        obtain ⟨h, hm⟩ := h
        subst hm
        refine q_aload_n (j := 0) X dX10_merge_159 rfl rfl ?_
        refine q_iload (j := 2) X dX10_merge_160 rfl ?_
        refine q_bipush (v := 6) X dX10_merge_162 (by decide) ?_
        refine q_calli (q_runV X hK hZ zo (gm (t := 30) (by decide) (ok1 (t := 30) (Nat.le_of_ble_eq_true rfl))) rfl rfl [.int r_3, .int 6] [.int r_31, .int 6, .int r_1, .ref (ad 30 1)] rfl rfl (Nat.le_of_ble_eq_true rfl) dX10_merge_164 ⟨Nat.le_of_ble_eq_true rfl, Nat.le_of_ble_eq_true rfl⟩ (c_X10_of ax r_3 6 m_30 _ h) rfl rfl (gV kw_7_95 kw_7_97 ks_88 kw_1_11 kw_7_98) hy_X10_of ⟨Nat.le_of_ble_eq_true rfl, Nat.le_of_ble_eq_true rfl⟩) (fun r_33 m_34 h => ?_)
        obtain ⟨h, hm⟩ := h
        subst hm
        refine q_icmp_ge (tgt := 180) X dX10_merge_167 (by decide) (fun c_35 => ?_) (fun c_35 => ?_)
        · have h := h.1 c_35
          refine q_aload_n (j := 0) X dX10_merge_180 rfl rfl ?_
          refine q_iload (j := 2) X dX10_merge_181 rfl ?_
          refine q_bipush (v := 6) X dX10_merge_183 (by decide) ?_
          refine q_calli (q_runV X hK hZ zo (gm (t := 30) (by decide) (ok1 (t := 30) (Nat.le_of_ble_eq_true rfl))) rfl rfl [.int r_3, .int 6] [.int 6, .int r_1, .ref (ad 30 1)] rfl rfl (Nat.le_of_ble_eq_true rfl) dX10_merge_185 ⟨Nat.le_of_ble_eq_true rfl, Nat.le_of_ble_eq_true rfl⟩ (c_X10_of ax r_3 6 m_30 _ h) rfl rfl (gV kw_7_95 kw_7_97 ks_88 kw_1_11 kw_7_98) hy_X10_of ⟨Nat.le_of_ble_eq_true rfl, Nat.le_of_ble_eq_true rfl⟩) (fun r_36 m_37 h => ?_)
          obtain ⟨h, hm⟩ := h
          subst hm
          refine q_callv (q_runV X hK hZ zo (gm (t := 30) (by decide) (ok1 (t := 30) (Nat.le_of_ble_eq_true rfl))) rfl rfl [.int r_1, .int 6, .int r_36] [] rfl rfl (Nat.le_of_ble_eq_true rfl) dX10_merge_188 ⟨Nat.le_of_ble_eq_true rfl, Nat.le_of_ble_eq_true rfl⟩ (c_X10_put ax r_1 6 r_36 m_30 _ h) rfl rfl (gV kw_7_149 kw_7_151 ks_100 kw_1_11 kw_7_152) hy_X10_put ⟨Nat.le_of_ble_eq_true rfl, Nat.le_of_ble_eq_true rfl⟩) (fun m_39 h => ?_)
          refine q_aload_n (j := 0) X dX10_merge_191 rfl rfl ?_
          refine q_iload (j := 2) X dX10_merge_192 rfl ?_
          refine q_callv (q_runV X hK hZ zo (gm (t := 30) (by decide) (ok1 (t := 30) (Nat.le_of_ble_eq_true rfl))) rfl rfl [.int r_3] [] rfl rfl (Nat.le_of_ble_eq_true rfl) dX10_merge_194 ⟨Nat.le_of_ble_eq_true rfl, Nat.le_of_ble_eq_true rfl⟩ (c_X10_close ax r_3 m_39 _ h) rfl rfl (gV kw_7_181 kw_7_183 ks_107 kw_1_11 kw_7_184) hy_X10_close ⟨Nat.le_of_ble_eq_true rfl, Nat.le_of_ble_eq_true rfl⟩) (fun m_41 h => ?_)
          refine q_iload (j := 3) X dX10_merge_197 rfl ?_
          exact hE _ _ _ _ dX10_merge_199 h
        · have h := h.2 c_35
          refine q_aload_n (j := 0) X dX10_merge_170 rfl rfl ?_
          refine q_iload_n (j := 1) X dX10_merge_171 rfl rfl ?_
          refine q_bipush (v := 6) X dX10_merge_172 (by decide) ?_
          refine q_calli (q_runV X hK hZ zo (gm (t := 30) (by decide) (ok1 (t := 30) (Nat.le_of_ble_eq_true rfl))) rfl rfl [.int r_1, .int 6] [.int 6, .int r_1, .ref (ad 30 1)] rfl rfl (Nat.le_of_ble_eq_true rfl) dX10_merge_174 ⟨Nat.le_of_ble_eq_true rfl, Nat.le_of_ble_eq_true rfl⟩ (c_X10_of ax r_1 6 m_30 _ h) rfl rfl (gV kw_7_95 kw_7_97 ks_88 kw_1_11 kw_7_98) hy_X10_of ⟨Nat.le_of_ble_eq_true rfl, Nat.le_of_ble_eq_true rfl⟩) (fun r_42 m_43 h => ?_)
          obtain ⟨h, hm⟩ := h
          subst hm
          refine q_goto (tgt := 188) X dX10_merge_177 (by decide) ?_
          refine q_callv (q_runV X hK hZ zo (gm (t := 30) (by decide) (ok1 (t := 30) (Nat.le_of_ble_eq_true rfl))) rfl rfl [.int r_1, .int 6, .int r_42] [] rfl rfl (Nat.le_of_ble_eq_true rfl) dX10_merge_188 ⟨Nat.le_of_ble_eq_true rfl, Nat.le_of_ble_eq_true rfl⟩ (c_X10_put ax r_1 6 r_42 m_30 _ h) rfl rfl (gV kw_7_149 kw_7_151 ks_100 kw_1_11 kw_7_152) hy_X10_put ⟨Nat.le_of_ble_eq_true rfl, Nat.le_of_ble_eq_true rfl⟩) (fun m_45 h => ?_)
          refine q_aload_n (j := 0) X dX10_merge_191 rfl rfl ?_
          refine q_iload (j := 2) X dX10_merge_192 rfl ?_
          refine q_callv (q_runV X hK hZ zo (gm (t := 30) (by decide) (ok1 (t := 30) (Nat.le_of_ble_eq_true rfl))) rfl rfl [.int r_3] [] rfl rfl (Nat.le_of_ble_eq_true rfl) dX10_merge_194 ⟨Nat.le_of_ble_eq_true rfl, Nat.le_of_ble_eq_true rfl⟩ (c_X10_close ax r_3 m_45 _ h) rfl rfl (gV kw_7_181 kw_7_183 ks_107 kw_1_11 kw_7_184) hy_X10_close ⟨Nat.le_of_ble_eq_true rfl, Nat.le_of_ble_eq_true rfl⟩) (fun m_47 h => ?_)
          refine q_iload (j := 3) X dX10_merge_197 rfl ?_
          exact hE _ _ _ _ dX10_merge_199 h
      refine q_icmp_le (tgt := 138) X dX10_merge_126 (by decide) (fun c_48 => ?_) (fun c_48 => ?_)
      · have h := h.1 c_48
        refine q_aload_n (j := 1) X dX10_merge_138 rfl rfl ?_
        refine q_iload (j := 3) X dX10_merge_139 rfl ?_
        refine q_iconst (v := 5) X dX10_merge_141 (by decide) ?_
        refine q_calli (q_runV X hK hZ zo (gm (t := 30) (by decide) (ok1 (t := 30) (Nat.le_of_ble_eq_true rfl))) rfl rfl [.int r_3, .int 5] [.int 5, .int r_1, .ref (ad 30 1)] rfl rfl (Nat.le_of_ble_eq_true rfl) dX10_merge_142 ⟨Nat.le_of_ble_eq_true rfl, Nat.le_of_ble_eq_true rfl⟩ (c_X10_of ax r_3 5 m_23 _ h) rfl rfl (gV kw_7_95 kw_7_97 ks_88 kw_1_11 kw_7_98) hy_X10_of ⟨Nat.le_of_ble_eq_true rfl, Nat.le_of_ble_eq_true rfl⟩) (fun r_49 m_50 h => ?_)
        obtain ⟨h, hm⟩ := h
        subst hm
        refine q_sub [1, 2, 3, 0] rfl ?_
        exact J145 r_49 h
      · have h := h.2 c_48
        refine q_aload_n (j := 1) X dX10_merge_129 rfl rfl ?_
        refine q_iload_n (j := 2) X dX10_merge_130 rfl rfl ?_
        refine q_iconst (v := 5) X dX10_merge_131 (by decide) ?_
        refine q_calli (q_runV X hK hZ zo (gm (t := 30) (by decide) (ok1 (t := 30) (Nat.le_of_ble_eq_true rfl))) rfl rfl [.int r_1, .int 5] [.int 5, .int r_1, .ref (ad 30 1)] rfl rfl (Nat.le_of_ble_eq_true rfl) dX10_merge_132 ⟨Nat.le_of_ble_eq_true rfl, Nat.le_of_ble_eq_true rfl⟩ (c_X10_of ax r_1 5 m_23 _ h) rfl rfl (gV kw_7_95 kw_7_97 ks_88 kw_1_11 kw_7_98) hy_X10_of ⟨Nat.le_of_ble_eq_true rfl, Nat.le_of_ble_eq_true rfl⟩) (fun r_51 m_52 h => ?_)
        obtain ⟨h, hm⟩ := h
        subst hm
        refine q_goto (tgt := 145) X dX10_merge_135 (by decide) ?_
        refine q_sub [1, 2, 3, 0] rfl ?_
        exact J145 r_51 h
    · have h := h.2 c_8
      refine q_iconst (v := 0) X dX10_merge_60 (by decide) ?_
      exact hE _ _ _ _ dX10_merge_61 h
  have J25 : w_X10_merge_J25 mm Q9 r_1 r_3  → V p l e rm_X10_merge s m args below meth c QQ 6 A 0 0 (Rep TT D cA ad false GM mm) 25 [(0, .ref (ad 30 1)), (3, .int r_1), (4, .int r_3)] [.ref (ad 30 1)] := by
    intro  h
    unfold w_X10_merge_J25 at h
    refine q_iconst (v := 1) X dX10_merge_25 (by decide) ?_
    refine q_goto (tgt := 54) X dX10_merge_26 (by decide) ?_
    refine q_sub [0, 1, 2] rfl ?_
    exact J54 1 h
  refine q_icmp_eq (tgt := 25) X dX10_merge_16 (by decide) (fun c_53 => ?_) (fun c_53 => ?_)
  · have h := h.1 c_53
    refine q_sub [2, 1, 0] rfl ?_
    exact J25  h
  · have h := h.2 c_53
    refine q_iload (j := 0) X dX10_merge_19 rfl ?_
    refine q_iconst (v := (-1)) X dX10_merge_21 (by decide) ?_
    refine q_icmp_ne (tgt := 29) X dX10_merge_22 (by decide) (fun c_54 => ?_) (fun c_54 => ?_)
    · have h := h.1 c_54
      refine q_iload_n (j := 1) X dX10_merge_29 rfl rfl ?_
      refine q_iload (j := 0) X dX10_merge_30 rfl ?_
      refine q_icmp_ne (tgt := 39) X dX10_merge_32 (by decide) (fun c_55 => ?_) (fun c_55 => ?_)
      · have h := h.1 c_55
        refine q_aload_n (j := 2) X dX10_merge_39 rfl rfl ?_
        refine q_iload_n (j := 1) X dX10_merge_40 rfl rfl ?_
        refine q_iload (j := 0) X dX10_merge_41 rfl ?_
        refine q_calli (q_runV X hK hZ zo (gm (t := 30) (by decide) (ok1 (t := 30) (Nat.le_of_ble_eq_true rfl))) rfl rfl [.int r_1, .int r_3] [.ref (ad 30 1)] rfl rfl (Nat.le_of_ble_eq_true rfl) dX10_merge_43 ⟨Nat.le_of_ble_eq_true rfl, Nat.le_of_ble_eq_true rfl⟩ (c_X10_canMerge ax r_1 r_3 mm _ h) rfl rfl (gV kw_8_2 kw_8_4 ks_117 kw_1_11 kw_8_5) hy_X10_canMerge ⟨Nat.le_of_ble_eq_true rfl, Nat.le_of_ble_eq_true rfl⟩) (fun r_56 m_57 h => ?_)
        obtain ⟨h, hm⟩ := h
        subst hm
        refine q_if_eq (tgt := 53) X dX10_merge_46 (by decide) (fun c_58 => ?_) (fun c_58 => ?_)
        · have h := h.1 c_58
          refine q_iconst (v := 3) X dX10_merge_53 (by decide) ?_
          refine q_sub [2, 1, 0] rfl ?_
          exact J54 3 h
        · have h := h.2 c_58
          refine q_iconst (v := 0) X dX10_merge_49 (by decide) ?_
          refine q_goto (tgt := 54) X dX10_merge_50 (by decide) ?_
          refine q_sub [2, 1, 0] rfl ?_
          exact J54 0 h
      · have h := h.2 c_55
        refine q_iconst (v := 2) X dX10_merge_35 (by decide) ?_
        refine q_goto (tgt := 54) X dX10_merge_36 (by decide) ?_
        refine q_sub [2, 1, 0] rfl ?_
        exact J54 2 h
    · have h := h.2 c_54
      refine q_sub [2, 1, 0] rfl ?_
      exact J25  h
theorem dX10_weigh_0 : decode cX10_weigh 0 = .ok (.aload_n 0, 1) := by decide +kernel
theorem dX10_weigh_1 : decode cX10_weigh 1 = .ok (.iload_n 1, 1) := by decide +kernel
theorem dX10_weigh_2 : decode cX10_weigh 2 = .ok (.invokevirtual 156, 3) := by decide +kernel
theorem dX10_weigh_5 : decode cX10_weigh 5 = .ok (.istore_n 3, 1) := by decide +kernel
theorem dX10_weigh_6 : decode cX10_weigh 6 = .ok (.aload_n 0, 1) := by decide +kernel
theorem dX10_weigh_7 : decode cX10_weigh 7 = .ok (.iload_n 3, 1) := by decide +kernel
theorem dX10_weigh_8 : decode cX10_weigh 8 = .ok (.iconst (-1), 1) := by decide +kernel
theorem dX10_weigh_9 : decode cX10_weigh 9 = .ok (.if_icmp .ne 7, 3) := by decide +kernel
theorem dX10_weigh_12 : decode cX10_weigh 12 = .ok (.iconst 1, 1) := by decide +kernel
theorem dX10_weigh_13 : decode cX10_weigh 13 = .ok (.goto 41, 3) := by decide +kernel
theorem dX10_weigh_16 : decode cX10_weigh 16 = .ok (.iload_n 2, 1) := by decide +kernel
theorem dX10_weigh_17 : decode cX10_weigh 17 = .ok (.i2l, 1) := by decide +kernel
theorem dX10_weigh_18 : decode cX10_weigh 18 = .ok (.lconst 0, 1) := by decide +kernel
theorem dX10_weigh_19 : decode cX10_weigh 19 = .ok (.aload_n 0, 1) := by decide +kernel
theorem dX10_weigh_20 : decode cX10_weigh 20 = .ok (.iload_n 3, 1) := by decide +kernel
theorem dX10_weigh_21 : decode cX10_weigh 21 = .ok (.iconst 2, 1) := by decide +kernel
theorem dX10_weigh_22 : decode cX10_weigh 22 = .ok (.invokevirtual 41, 3) := by decide +kernel
theorem dX10_weigh_25 : decode cX10_weigh 25 = .ok (.i2l, 1) := by decide +kernel
theorem dX10_weigh_26 : decode cX10_weigh 26 = .ok (.invokestatic 35, 3) := by decide +kernel
theorem dX10_weigh_29 : decode cX10_weigh 29 = .ok (.ifCond .ne 7, 3) := by decide +kernel
theorem dX10_weigh_32 : decode cX10_weigh 32 = .ok (.iconst 2, 1) := by decide +kernel
theorem dX10_weigh_33 : decode cX10_weigh 33 = .ok (.goto 21, 3) := by decide +kernel
theorem dX10_weigh_36 : decode cX10_weigh 36 = .ok (.aload_n 0, 1) := by decide +kernel
theorem dX10_weigh_37 : decode cX10_weigh 37 = .ok (.aload_n 0, 1) := by decide +kernel
theorem dX10_weigh_38 : decode cX10_weigh 38 = .ok (.iload_n 3, 1) := by decide +kernel
theorem dX10_weigh_39 : decode cX10_weigh 39 = .ok (.iconst 4, 1) := by decide +kernel
theorem dX10_weigh_40 : decode cX10_weigh 40 = .ok (.invokevirtual 41, 3) := by decide +kernel
theorem dX10_weigh_43 : decode cX10_weigh 43 = .ok (.invokevirtual 117, 3) := by decide +kernel
theorem dX10_weigh_46 : decode cX10_weigh 46 = .ok (.ifCond .eq 7, 3) := by decide +kernel
theorem dX10_weigh_49 : decode cX10_weigh 49 = .ok (.iconst 3, 1) := by decide +kernel
theorem dX10_weigh_50 : decode cX10_weigh 50 = .ok (.goto 4, 3) := by decide +kernel
theorem dX10_weigh_53 : decode cX10_weigh 53 = .ok (.iconst 0, 1) := by decide +kernel
theorem dX10_weigh_54 : decode cX10_weigh 54 = .ok (.invokevirtual 147, 3) := by decide +kernel
theorem dX10_weigh_57 : decode cX10_weigh 57 = .ok (.ifCond .eq 5, 3) := by decide +kernel
theorem dX10_weigh_60 : decode cX10_weigh 60 = .ok (.iconst 0, 1) := by decide +kernel
theorem dX10_weigh_61 : decode cX10_weigh 61 = .ok (.ireturn, 1) := by decide +kernel
theorem dX10_weigh_62 : decode cX10_weigh 62 = .ok (.aload_n 0, 1) := by decide +kernel
theorem dX10_weigh_63 : decode cX10_weigh 63 = .ok (.invokevirtual 150, 3) := by decide +kernel
theorem dX10_weigh_66 : decode cX10_weigh 66 = .ok (.aload_n 0, 1) := by decide +kernel
theorem dX10_weigh_67 : decode cX10_weigh 67 = .ok (.iload_n 3, 1) := by decide +kernel
theorem dX10_weigh_68 : decode cX10_weigh 68 = .ok (.iload_n 2, 1) := by decide +kernel
theorem dX10_weigh_69 : decode cX10_weigh 69 = .ok (.invokevirtual 192, 3) := by decide +kernel
theorem dX10_weigh_72 : decode cX10_weigh 72 = .ok (.ireturn, 1) := by decide +kernel
def w_X10_weigh_J54 (p1 : Int32) (mm : Mm) (Q9 : Int32 → Mm → Prop) (r_1 : Int32) (y_3 : Int32) : Prop :=
  w_X10_refused y_3 mm (fun (r_4 : Int32) (m_5 : Mm) => ((r_4 = 0 → w_X10_saves m_5 (fun (m_8 : Mm) => w_X10_weighOn r_1 p1 m_8 (fun (r_9 : Int32) (m_10 : Mm) => Q9 r_9 m_10))) ∧
  (¬ r_4 = 0 → Q9 0 m_5)))
def w_X10_weigh (p0 : Int32) (p1 : Int32) (mm : Mm) (Q9 : Int32 → Mm → Prop) : Prop :=
  w_X10_find p0 mm (fun (r_1 : Int32) => ((¬ r_1 = (-1) → w_X10_of r_1 2 mm (fun (r_12 : Int32) => w_X10_in (Int32.toInt64 p1) (0 : Int64) (Int32.toInt64 r_12) mm (fun (r_14 : Int32) => ((¬ r_14 = 0 → w_X10_of r_1 4 mm (fun (r_17 : Int32) => w_X10_isShut r_17 mm (fun (r_19 : Int32) => ((r_19 = 0 → w_X10_weigh_J54 p1 mm Q9 r_1 0) ∧
  (¬ r_19 = 0 → w_X10_weigh_J54 p1 mm Q9 r_1 3))))) ∧
  (r_14 = 0 → w_X10_weigh_J54 p1 mm Q9 r_1 2))))) ∧
  (r_1 = (-1) → w_X10_weigh_J54 p1 mm Q9 r_1 1)))
def rm_X10_weigh : Room := { frames := 5, cells := 0, slots := 0, locals := 118 }
theorem hy_X10_weigh : yX10_weigh.cls = RX10 ∧ yX10_weigh.cls ≠ "java/lang/invoke/MethodHandle" ∧ yX10_weigh.cls ≠ "java/lang/invoke/VarHandle" ∧ (parseMethodDescriptor yX10_weigh.desc).map (fun d => d.parameters.length) = some 2 := by decide +kernel
set_option maxRecDepth 100000 in
set_option maxHeartbeats 4000000 in
theorem c_X10_weigh {l : Launch} {D : va_G} {cA : Nat → ClassId} {ad : Nat → Nat → Nat} {A : Nat → Prop} (ax : Ax ad GM A) (p0 : Int32) (p1 : Int32) (mm : Mm) (Q9 : Int32 → Mm → Prop) (h : w_X10_weigh p0 p1 mm Q9) : Met l yX10_weigh (.code yX10_weigh cX10_weigh 4 (some .int) :: TG) rm_X10_weigh (PcM TT D cA ad false GM (ZM) [.ref (ad 30 1), .int p0, .int p1] mm) (AnsI TT D cA ad false GM A Q9) 0 0 A := by
  have zo := ZM_ok A
  unfold w_X10_weigh at h
  refine enterI pl_X10 ⟨rfl, rfl⟩ rfl (Nat.le_of_ble_eq_true rfl) ?_
  intro p e s m args below meth c QQ X hK hZ hnm hE
  refine q_aload_n (j := 0) X dX10_weigh_0 rfl rfl ?_
  refine q_iload_n (j := 1) X dX10_weigh_1 rfl rfl ?_
  refine q_calli (q_runV X hK hZ zo (gm (t := 30) (by decide) (ok1 (t := 30) (Nat.le_of_ble_eq_true rfl))) rfl rfl [.int p0] [] rfl rfl (Nat.le_of_ble_eq_true rfl) dX10_weigh_2 ⟨Nat.le_of_ble_eq_true rfl, Nat.le_of_ble_eq_true rfl⟩ (c_X10_find ax p0 mm _ h) rfl rfl (gV kw_7_157 kw_7_159 ks_101 kw_1_11 kw_7_160) hy_X10_find ⟨Nat.le_of_ble_eq_true rfl, Nat.le_of_ble_eq_true rfl⟩) (fun r_1 m_2 h => ?_)
  obtain ⟨h, hm⟩ := h
  subst hm
  refine q_istore_n (lv' := [(3, .int r_1), (0, .ref (ad 30 1)), (1, .int p0), (2, .int p1)]) X dX10_weigh_5 rfl (by decide) rfl ?_
  refine q_aload_n (j := 1) X dX10_weigh_6 rfl rfl ?_
  refine q_iload_n (j := 0) X dX10_weigh_7 rfl rfl ?_
  refine q_iconst (v := (-1)) X dX10_weigh_8 (by decide) ?_
  have J54 : ∀ (y_3 : Int32), w_X10_weigh_J54 p1 mm Q9 r_1 y_3 → V p l e rm_X10_weigh s m args below meth c QQ 4 A 0 0 (Rep TT D cA ad false GM mm) 54 [(0, .ref (ad 30 1)), (2, .int p1), (3, .int r_1)] [.int y_3, .ref (ad 30 1)] := by
    intro y_3 h
    unfold w_X10_weigh_J54 at h
    refine q_calli (q_runV X hK hZ zo (gm (t := 30) (by decide) (ok1 (t := 30) (Nat.le_of_ble_eq_true rfl))) rfl rfl [.int y_3] [] rfl rfl (Nat.le_of_ble_eq_true rfl) dX10_weigh_54 ⟨Nat.le_of_ble_eq_true rfl, Nat.le_of_ble_eq_true rfl⟩ (c_X10_refused ax y_3 mm _ h) rfl rfl (gV kw_7_126 kw_7_128 ks_95 kw_1_11 kw_7_129) hy_X10_refused ⟨Nat.le_of_ble_eq_true rfl, Nat.le_of_ble_eq_true rfl⟩) (fun r_4 m_5 h => ?_)
    refine q_if_eq (tgt := 62) X dX10_weigh_57 (by decide) (fun c_6 => ?_) (fun c_6 => ?_)
    · have h := h.1 c_6
      refine q_aload_n (j := 0) X dX10_weigh_62 rfl rfl ?_
      refine q_callv (q_runV X hK hZ zo (gm (t := 30) (by decide) (ok1 (t := 30) (Nat.le_of_ble_eq_true rfl))) rfl rfl [] [] rfl rfl (Nat.le_of_ble_eq_true rfl) dX10_weigh_63 ⟨Nat.le_of_ble_eq_true rfl, Nat.le_of_ble_eq_true rfl⟩ (c_X10_saves ax m_5 _ h) rfl rfl (gV kw_7_130 kw_7_132 ks_96 kw_1_11 kw_7_133) hy_X10_saves ⟨Nat.le_of_ble_eq_true rfl, Nat.le_of_ble_eq_true rfl⟩) (fun m_8 h => ?_)
      refine q_aload_n (j := 0) X dX10_weigh_66 rfl rfl ?_
      refine q_iload_n (j := 2) X dX10_weigh_67 rfl rfl ?_
      refine q_iload_n (j := 1) X dX10_weigh_68 rfl rfl ?_
      refine q_calli (q_runV X hK hZ zo (gm (t := 30) (by decide) (ok1 (t := 30) (Nat.le_of_ble_eq_true rfl))) rfl rfl [.int r_1, .int p1] [] rfl rfl (Nat.le_of_ble_eq_true rfl) dX10_weigh_69 ⟨Nat.le_of_ble_eq_true rfl, Nat.le_of_ble_eq_true rfl⟩ (c_X10_weighOn ax r_1 p1 m_8 _ h) rfl rfl (gV kw_8_10 kw_8_12 ks_118 kw_1_11 kw_8_13) hy_X10_weighOn ⟨Nat.le_of_ble_eq_true rfl, Nat.le_of_ble_eq_true rfl⟩) (fun r_9 m_10 h => ?_)
      exact hE _ _ _ _ dX10_weigh_72 h
    · have h := h.2 c_6
      refine q_iconst (v := 0) X dX10_weigh_60 (by decide) ?_
      exact hE _ _ _ _ dX10_weigh_61 h
  refine q_icmp_ne (tgt := 16) X dX10_weigh_9 (by decide) (fun c_11 => ?_) (fun c_11 => ?_)
  · have h := h.1 c_11
    refine q_iload_n (j := 3) X dX10_weigh_16 rfl rfl ?_
    refine q_i2l X dX10_weigh_17 ?_
    refine q_lconst (v := 0) X dX10_weigh_18 (by decide) ?_
    refine q_aload_n (j := 1) X dX10_weigh_19 rfl rfl ?_
    refine q_iload_n (j := 0) X dX10_weigh_20 rfl rfl ?_
    refine q_iconst (v := 2) X dX10_weigh_21 (by decide) ?_
    refine q_calli (q_runV X hK hZ zo (gm (t := 30) (by decide) (ok1 (t := 30) (Nat.le_of_ble_eq_true rfl))) rfl rfl [.int r_1, .int 2] [.long (0 : Int64), .long (Int32.toInt64 p1), .ref (ad 30 1)] rfl rfl (Nat.le_of_ble_eq_true rfl) dX10_weigh_22 ⟨Nat.le_of_ble_eq_true rfl, Nat.le_of_ble_eq_true rfl⟩ (c_X10_of ax r_1 2 mm _ h) rfl rfl (gV kw_7_95 kw_7_97 ks_88 kw_1_11 kw_7_98) hy_X10_of ⟨Nat.le_of_ble_eq_true rfl, Nat.le_of_ble_eq_true rfl⟩) (fun r_12 m_13 h => ?_)
    obtain ⟨h, hm⟩ := h
    subst hm
    refine q_i2l X dX10_weigh_25 ?_
    refine q_calli (q_runS X hK hZ zo [.long (Int32.toInt64 p1), .long (0 : Int64), .long (Int32.toInt64 r_12)] [.ref (ad 30 1)] rfl rfl (Nat.le_of_ble_eq_true rfl) dX10_weigh_26 ⟨Nat.le_of_ble_eq_true rfl, Nat.le_of_ble_eq_true rfl⟩ (c_X10_in ax (Int32.toInt64 p1) (0 : Int64) (Int32.toInt64 r_12) mm _ h) rfl rfl (gS kw_7_71 kw_7_72 kw_1_11 kw_7_73) hy_X10_in.2 ⟨Nat.le_of_ble_eq_true rfl, Nat.le_of_ble_eq_true rfl⟩) (fun r_14 m_15 h => ?_)
    obtain ⟨h, hm⟩ := h
    subst hm
    refine q_if_ne (tgt := 36) X dX10_weigh_29 (by decide) (fun c_16 => ?_) (fun c_16 => ?_)
    · have h := h.1 c_16
      refine q_aload_n (j := 1) X dX10_weigh_36 rfl rfl ?_
      refine q_aload_n (j := 1) X dX10_weigh_37 rfl rfl ?_
      refine q_iload_n (j := 0) X dX10_weigh_38 rfl rfl ?_
      refine q_iconst (v := 4) X dX10_weigh_39 (by decide) ?_
      refine q_calli (q_runV X hK hZ zo (gm (t := 30) (by decide) (ok1 (t := 30) (Nat.le_of_ble_eq_true rfl))) rfl rfl [.int r_1, .int 4] [.ref (ad 30 1), .ref (ad 30 1)] rfl rfl (Nat.le_of_ble_eq_true rfl) dX10_weigh_40 ⟨Nat.le_of_ble_eq_true rfl, Nat.le_of_ble_eq_true rfl⟩ (c_X10_of ax r_1 4 mm _ h) rfl rfl (gV kw_7_95 kw_7_97 ks_88 kw_1_11 kw_7_98) hy_X10_of ⟨Nat.le_of_ble_eq_true rfl, Nat.le_of_ble_eq_true rfl⟩) (fun r_17 m_18 h => ?_)
      obtain ⟨h, hm⟩ := h
      subst hm
      refine q_calli (q_runV X hK hZ zo (gm (t := 30) (by decide) (ok1 (t := 30) (Nat.le_of_ble_eq_true rfl))) rfl rfl [.int r_17] [.ref (ad 30 1)] rfl rfl (Nat.le_of_ble_eq_true rfl) dX10_weigh_43 ⟨Nat.le_of_ble_eq_true rfl, Nat.le_of_ble_eq_true rfl⟩ (c_X10_isShut ax r_17 mm _ h) rfl rfl (gV kw_7_87 kw_7_89 ks_86 kw_1_11 kw_7_90) hy_X10_isShut ⟨Nat.le_of_ble_eq_true rfl, Nat.le_of_ble_eq_true rfl⟩) (fun r_19 m_20 h => ?_)
      obtain ⟨h, hm⟩ := h
      subst hm
      refine q_if_eq (tgt := 53) X dX10_weigh_46 (by decide) (fun c_21 => ?_) (fun c_21 => ?_)
      · have h := h.1 c_21
        refine q_iconst (v := 0) X dX10_weigh_53 (by decide) ?_
        refine q_sub [1, 3, 0] rfl ?_
        exact J54 0 h
      · have h := h.2 c_21
        refine q_iconst (v := 3) X dX10_weigh_49 (by decide) ?_
        refine q_goto (tgt := 54) X dX10_weigh_50 (by decide) ?_
        refine q_sub [1, 3, 0] rfl ?_
        exact J54 3 h
    · have h := h.2 c_16
      refine q_iconst (v := 2) X dX10_weigh_32 (by decide) ?_
      refine q_goto (tgt := 54) X dX10_weigh_33 (by decide) ?_
      refine q_sub [1, 3, 0] rfl ?_
      exact J54 2 h
  · have h := h.2 c_11
    refine q_iconst (v := 1) X dX10_weigh_12 (by decide) ?_
    refine q_goto (tgt := 54) X dX10_weigh_13 (by decide) ?_
    refine q_sub [1, 3, 0] rfl ?_
    exact J54 1 h
theorem dX10_lock_0 : decode cX10_lock 0 = .ok (.aload_n 0, 1) := by decide +kernel
theorem dX10_lock_1 : decode cX10_lock 1 = .ok (.iload_n 1, 1) := by decide +kernel
theorem dX10_lock_2 : decode cX10_lock 2 = .ok (.invokestatic 137, 3) := by decide +kernel
theorem dX10_lock_5 : decode cX10_lock 5 = .ok (.ifCond .ne 7, 3) := by decide +kernel
theorem dX10_lock_8 : decode cX10_lock 8 = .ok (.iconst 1, 1) := by decide +kernel
theorem dX10_lock_9 : decode cX10_lock 9 = .ok (.goto 16, 3) := by decide +kernel
theorem dX10_lock_12 : decode cX10_lock 12 = .ok (.aload_n 0, 1) := by decide +kernel
theorem dX10_lock_13 : decode cX10_lock 13 = .ok (.iload_n 1, 1) := by decide +kernel
theorem dX10_lock_14 : decode cX10_lock 14 = .ok (.invokevirtual 117, 3) := by decide +kernel
theorem dX10_lock_17 : decode cX10_lock 17 = .ok (.ifCond .eq 7, 3) := by decide +kernel
theorem dX10_lock_20 : decode cX10_lock 20 = .ok (.iconst 2, 1) := by decide +kernel
theorem dX10_lock_21 : decode cX10_lock 21 = .ok (.goto 4, 3) := by decide +kernel
theorem dX10_lock_24 : decode cX10_lock 24 = .ok (.iconst 0, 1) := by decide +kernel
theorem dX10_lock_25 : decode cX10_lock 25 = .ok (.invokevirtual 147, 3) := by decide +kernel
theorem dX10_lock_28 : decode cX10_lock 28 = .ok (.ifCond .eq 5, 3) := by decide +kernel
theorem dX10_lock_31 : decode cX10_lock 31 = .ok (.iconst 0, 1) := by decide +kernel
theorem dX10_lock_32 : decode cX10_lock 32 = .ok (.ireturn, 1) := by decide +kernel
theorem dX10_lock_33 : decode cX10_lock 33 = .ok (.aload_n 0, 1) := by decide +kernel
theorem dX10_lock_34 : decode cX10_lock 34 = .ok (.invokevirtual 150, 3) := by decide +kernel
theorem dX10_lock_37 : decode cX10_lock 37 = .ok (.aload_n 0, 1) := by decide +kernel
theorem dX10_lock_38 : decode cX10_lock 38 = .ok (.iload_n 1, 1) := by decide +kernel
theorem dX10_lock_39 : decode cX10_lock 39 = .ok (.invokevirtual 195, 3) := by decide +kernel
theorem dX10_lock_42 : decode cX10_lock 42 = .ok (.ireturn, 1) := by decide +kernel
def w_X10_lock (p0 : Int32) (mm : Mm) (Q9 : Int32 → Mm → Prop) : Prop :=
  w_X10_isChamber p0 mm (fun (r_1 : Int32) => ((¬ r_1 = 0 → w_X10_isShut p0 mm (fun (r_4 : Int32) => ((r_4 = 0 → w_X10_refused 0 mm (fun (r_7 : Int32) (m_8 : Mm) => ((r_7 = 0 → w_X10_saves m_8 (fun (m_11 : Mm) => w_X10_lockOn p0 m_11 (fun (r_12 : Int32) (m_13 : Mm) => Q9 r_12 m_13))) ∧
  (¬ r_7 = 0 → Q9 0 m_8)))) ∧
  (¬ r_4 = 0 → w_X10_refused 2 mm (fun (r_14 : Int32) (m_15 : Mm) => ((r_14 = 0 → w_X10_saves m_15 (fun (m_18 : Mm) => w_X10_lockOn p0 m_18 (fun (r_19 : Int32) (m_20 : Mm) => Q9 r_19 m_20))) ∧
  (¬ r_14 = 0 → Q9 0 m_15))))))) ∧
  (r_1 = 0 → w_X10_refused 1 mm (fun (r_21 : Int32) (m_22 : Mm) => ((r_21 = 0 → w_X10_saves m_22 (fun (m_25 : Mm) => w_X10_lockOn p0 m_25 (fun (r_26 : Int32) (m_27 : Mm) => Q9 r_26 m_27))) ∧
  (¬ r_21 = 0 → Q9 0 m_22))))))
def rm_X10_lock : Room := { frames := 2, cells := 0, slots := 0, locals := 45 }
theorem hy_X10_lock : yX10_lock.cls = RX10 ∧ yX10_lock.cls ≠ "java/lang/invoke/MethodHandle" ∧ yX10_lock.cls ≠ "java/lang/invoke/VarHandle" ∧ (parseMethodDescriptor yX10_lock.desc).map (fun d => d.parameters.length) = some 1 := by decide +kernel
set_option maxRecDepth 100000 in
set_option maxHeartbeats 4000000 in
theorem c_X10_lock {l : Launch} {D : va_G} {cA : Nat → ClassId} {ad : Nat → Nat → Nat} {A : Nat → Prop} (ax : Ax ad GM A) (p0 : Int32) (mm : Mm) (Q9 : Int32 → Mm → Prop) (h : w_X10_lock p0 mm Q9) : Met l yX10_lock (.code yX10_lock cX10_lock 2 (some .int) :: TG) rm_X10_lock (PcM TT D cA ad false GM (ZM) [.ref (ad 30 1), .int p0] mm) (AnsI TT D cA ad false GM A Q9) 0 0 A := by
  have zo := ZM_ok A
  unfold w_X10_lock at h
  refine enterI pl_X10 ⟨rfl, rfl⟩ rfl (Nat.le_of_ble_eq_true rfl) ?_
  intro p e s m args below meth c QQ X hK hZ hnm hE
  refine q_aload_n (j := 0) X dX10_lock_0 rfl rfl ?_
  refine q_iload_n (j := 1) X dX10_lock_1 rfl rfl ?_
  refine q_calli (q_runS X hK hZ zo [.int p0] [.ref (ad 30 1)] rfl rfl (Nat.le_of_ble_eq_true rfl) dX10_lock_2 ⟨Nat.le_of_ble_eq_true rfl, Nat.le_of_ble_eq_true rfl⟩ (c_X10_isChamber ax p0 mm _ h) rfl rfl (gS kw_7_79 kw_7_80 kw_1_11 kw_7_81) hy_X10_isChamber.2 ⟨Nat.le_of_ble_eq_true rfl, Nat.le_of_ble_eq_true rfl⟩) (fun r_1 m_2 h => ?_)
  obtain ⟨h, hm⟩ := h
  subst hm
  refine q_if_ne (tgt := 12) X dX10_lock_5 (by decide) (fun c_3 => ?_) (fun c_3 => ?_)
  · have h := h.1 c_3
    refine q_aload_n (j := 0) X dX10_lock_12 rfl rfl ?_
    refine q_iload_n (j := 1) X dX10_lock_13 rfl rfl ?_
    refine q_calli (q_runV X hK hZ zo (gm (t := 30) (by decide) (ok1 (t := 30) (Nat.le_of_ble_eq_true rfl))) rfl rfl [.int p0] [.ref (ad 30 1)] rfl rfl (Nat.le_of_ble_eq_true rfl) dX10_lock_14 ⟨Nat.le_of_ble_eq_true rfl, Nat.le_of_ble_eq_true rfl⟩ (c_X10_isShut ax p0 mm _ h) rfl rfl (gV kw_7_87 kw_7_89 ks_86 kw_1_11 kw_7_90) hy_X10_isShut ⟨Nat.le_of_ble_eq_true rfl, Nat.le_of_ble_eq_true rfl⟩) (fun r_4 m_5 h => ?_)
    obtain ⟨h, hm⟩ := h
    subst hm
    refine q_if_eq (tgt := 24) X dX10_lock_17 (by decide) (fun c_6 => ?_) (fun c_6 => ?_)
    · have h := h.1 c_6
      refine q_iconst (v := 0) X dX10_lock_24 (by decide) ?_
      refine q_calli (q_runV X hK hZ zo (gm (t := 30) (by decide) (ok1 (t := 30) (Nat.le_of_ble_eq_true rfl))) rfl rfl [.int 0] [] rfl rfl (Nat.le_of_ble_eq_true rfl) dX10_lock_25 ⟨Nat.le_of_ble_eq_true rfl, Nat.le_of_ble_eq_true rfl⟩ (c_X10_refused ax 0 mm _ h) rfl rfl (gV kw_7_126 kw_7_128 ks_95 kw_1_11 kw_7_129) hy_X10_refused ⟨Nat.le_of_ble_eq_true rfl, Nat.le_of_ble_eq_true rfl⟩) (fun r_7 m_8 h => ?_)
      refine q_if_eq (tgt := 33) X dX10_lock_28 (by decide) (fun c_9 => ?_) (fun c_9 => ?_)
      · have h := h.1 c_9
        refine q_aload_n (j := 0) X dX10_lock_33 rfl rfl ?_
        refine q_callv (q_runV X hK hZ zo (gm (t := 30) (by decide) (ok1 (t := 30) (Nat.le_of_ble_eq_true rfl))) rfl rfl [] [] rfl rfl (Nat.le_of_ble_eq_true rfl) dX10_lock_34 ⟨Nat.le_of_ble_eq_true rfl, Nat.le_of_ble_eq_true rfl⟩ (c_X10_saves ax m_8 _ h) rfl rfl (gV kw_7_130 kw_7_132 ks_96 kw_1_11 kw_7_133) hy_X10_saves ⟨Nat.le_of_ble_eq_true rfl, Nat.le_of_ble_eq_true rfl⟩) (fun m_11 h => ?_)
        refine q_aload_n (j := 0) X dX10_lock_37 rfl rfl ?_
        refine q_iload_n (j := 1) X dX10_lock_38 rfl rfl ?_
        refine q_calli (q_runV X hK hZ zo (gm (t := 30) (by decide) (ok1 (t := 30) (Nat.le_of_ble_eq_true rfl))) rfl rfl [.int p0] [] rfl rfl (Nat.le_of_ble_eq_true rfl) dX10_lock_39 ⟨Nat.le_of_ble_eq_true rfl, Nat.le_of_ble_eq_true rfl⟩ (c_X10_lockOn ax p0 m_11 _ h) rfl rfl (gV kw_8_33 kw_8_35 ks_122 kw_1_11 kw_8_36) hy_X10_lockOn ⟨Nat.le_of_ble_eq_true rfl, Nat.le_of_ble_eq_true rfl⟩) (fun r_12 m_13 h => ?_)
        exact hE _ _ _ _ dX10_lock_42 h
      · have h := h.2 c_9
        refine q_iconst (v := 0) X dX10_lock_31 (by decide) ?_
        exact hE _ _ _ _ dX10_lock_32 h
    · have h := h.2 c_6
      refine q_iconst (v := 2) X dX10_lock_20 (by decide) ?_
      refine q_goto (tgt := 25) X dX10_lock_21 (by decide) ?_
      refine q_calli (q_runV X hK hZ zo (gm (t := 30) (by decide) (ok1 (t := 30) (Nat.le_of_ble_eq_true rfl))) rfl rfl [.int 2] [] rfl rfl (Nat.le_of_ble_eq_true rfl) dX10_lock_25 ⟨Nat.le_of_ble_eq_true rfl, Nat.le_of_ble_eq_true rfl⟩ (c_X10_refused ax 2 mm _ h) rfl rfl (gV kw_7_126 kw_7_128 ks_95 kw_1_11 kw_7_129) hy_X10_refused ⟨Nat.le_of_ble_eq_true rfl, Nat.le_of_ble_eq_true rfl⟩) (fun r_14 m_15 h => ?_)
      refine q_if_eq (tgt := 33) X dX10_lock_28 (by decide) (fun c_16 => ?_) (fun c_16 => ?_)
      · have h := h.1 c_16
        refine q_aload_n (j := 0) X dX10_lock_33 rfl rfl ?_
        refine q_callv (q_runV X hK hZ zo (gm (t := 30) (by decide) (ok1 (t := 30) (Nat.le_of_ble_eq_true rfl))) rfl rfl [] [] rfl rfl (Nat.le_of_ble_eq_true rfl) dX10_lock_34 ⟨Nat.le_of_ble_eq_true rfl, Nat.le_of_ble_eq_true rfl⟩ (c_X10_saves ax m_15 _ h) rfl rfl (gV kw_7_130 kw_7_132 ks_96 kw_1_11 kw_7_133) hy_X10_saves ⟨Nat.le_of_ble_eq_true rfl, Nat.le_of_ble_eq_true rfl⟩) (fun m_18 h => ?_)
        refine q_aload_n (j := 0) X dX10_lock_37 rfl rfl ?_
        refine q_iload_n (j := 1) X dX10_lock_38 rfl rfl ?_
        refine q_calli (q_runV X hK hZ zo (gm (t := 30) (by decide) (ok1 (t := 30) (Nat.le_of_ble_eq_true rfl))) rfl rfl [.int p0] [] rfl rfl (Nat.le_of_ble_eq_true rfl) dX10_lock_39 ⟨Nat.le_of_ble_eq_true rfl, Nat.le_of_ble_eq_true rfl⟩ (c_X10_lockOn ax p0 m_18 _ h) rfl rfl (gV kw_8_33 kw_8_35 ks_122 kw_1_11 kw_8_36) hy_X10_lockOn ⟨Nat.le_of_ble_eq_true rfl, Nat.le_of_ble_eq_true rfl⟩) (fun r_19 m_20 h => ?_)
        exact hE _ _ _ _ dX10_lock_42 h
      · have h := h.2 c_16
        refine q_iconst (v := 0) X dX10_lock_31 (by decide) ?_
        exact hE _ _ _ _ dX10_lock_32 h
  · have h := h.2 c_3
    refine q_iconst (v := 1) X dX10_lock_8 (by decide) ?_
    refine q_goto (tgt := 25) X dX10_lock_9 (by decide) ?_
    refine q_calli (q_runV X hK hZ zo (gm (t := 30) (by decide) (ok1 (t := 30) (Nat.le_of_ble_eq_true rfl))) rfl rfl [.int 1] [] rfl rfl (Nat.le_of_ble_eq_true rfl) dX10_lock_25 ⟨Nat.le_of_ble_eq_true rfl, Nat.le_of_ble_eq_true rfl⟩ (c_X10_refused ax 1 mm _ h) rfl rfl (gV kw_7_126 kw_7_128 ks_95 kw_1_11 kw_7_129) hy_X10_refused ⟨Nat.le_of_ble_eq_true rfl, Nat.le_of_ble_eq_true rfl⟩) (fun r_21 m_22 h => ?_)
    refine q_if_eq (tgt := 33) X dX10_lock_28 (by decide) (fun c_23 => ?_) (fun c_23 => ?_)
    · have h := h.1 c_23
      refine q_aload_n (j := 0) X dX10_lock_33 rfl rfl ?_
      refine q_callv (q_runV X hK hZ zo (gm (t := 30) (by decide) (ok1 (t := 30) (Nat.le_of_ble_eq_true rfl))) rfl rfl [] [] rfl rfl (Nat.le_of_ble_eq_true rfl) dX10_lock_34 ⟨Nat.le_of_ble_eq_true rfl, Nat.le_of_ble_eq_true rfl⟩ (c_X10_saves ax m_22 _ h) rfl rfl (gV kw_7_130 kw_7_132 ks_96 kw_1_11 kw_7_133) hy_X10_saves ⟨Nat.le_of_ble_eq_true rfl, Nat.le_of_ble_eq_true rfl⟩) (fun m_25 h => ?_)
      refine q_aload_n (j := 0) X dX10_lock_37 rfl rfl ?_
      refine q_iload_n (j := 1) X dX10_lock_38 rfl rfl ?_
      refine q_calli (q_runV X hK hZ zo (gm (t := 30) (by decide) (ok1 (t := 30) (Nat.le_of_ble_eq_true rfl))) rfl rfl [.int p0] [] rfl rfl (Nat.le_of_ble_eq_true rfl) dX10_lock_39 ⟨Nat.le_of_ble_eq_true rfl, Nat.le_of_ble_eq_true rfl⟩ (c_X10_lockOn ax p0 m_25 _ h) rfl rfl (gV kw_8_33 kw_8_35 ks_122 kw_1_11 kw_8_36) hy_X10_lockOn ⟨Nat.le_of_ble_eq_true rfl, Nat.le_of_ble_eq_true rfl⟩) (fun r_26 m_27 h => ?_)
      exact hE _ _ _ _ dX10_lock_42 h
    · have h := h.2 c_23
      refine q_iconst (v := 0) X dX10_lock_31 (by decide) ?_
      exact hE _ _ _ _ dX10_lock_32 h
theorem dX10_open_0 : decode cX10_open 0 = .ok (.aload_n 0, 1) := by decide +kernel
theorem dX10_open_1 : decode cX10_open 1 = .ok (.iload_n 1, 1) := by decide +kernel
theorem dX10_open_2 : decode cX10_open 2 = .ok (.invokestatic 137, 3) := by decide +kernel
theorem dX10_open_5 : decode cX10_open 5 = .ok (.ifCond .ne 7, 3) := by decide +kernel
theorem dX10_open_8 : decode cX10_open 8 = .ok (.iconst 1, 1) := by decide +kernel
theorem dX10_open_9 : decode cX10_open 9 = .ok (.goto 16, 3) := by decide +kernel
theorem dX10_open_12 : decode cX10_open 12 = .ok (.aload_n 0, 1) := by decide +kernel
theorem dX10_open_13 : decode cX10_open 13 = .ok (.iload_n 1, 1) := by decide +kernel
theorem dX10_open_14 : decode cX10_open 14 = .ok (.invokevirtual 117, 3) := by decide +kernel
theorem dX10_open_17 : decode cX10_open 17 = .ok (.ifCond .eq 7, 3) := by decide +kernel
theorem dX10_open_20 : decode cX10_open 20 = .ok (.iconst 0, 1) := by decide +kernel
theorem dX10_open_21 : decode cX10_open 21 = .ok (.goto 4, 3) := by decide +kernel
theorem dX10_open_24 : decode cX10_open 24 = .ok (.iconst 2, 1) := by decide +kernel
theorem dX10_open_25 : decode cX10_open 25 = .ok (.invokevirtual 147, 3) := by decide +kernel
theorem dX10_open_28 : decode cX10_open 28 = .ok (.ifCond .eq 5, 3) := by decide +kernel
theorem dX10_open_31 : decode cX10_open 31 = .ok (.iconst 0, 1) := by decide +kernel
theorem dX10_open_32 : decode cX10_open 32 = .ok (.ireturn, 1) := by decide +kernel
theorem dX10_open_33 : decode cX10_open 33 = .ok (.aload_n 0, 1) := by decide +kernel
theorem dX10_open_34 : decode cX10_open 34 = .ok (.invokevirtual 150, 3) := by decide +kernel
theorem dX10_open_37 : decode cX10_open 37 = .ok (.aload_n 0, 1) := by decide +kernel
theorem dX10_open_38 : decode cX10_open 38 = .ok (.iload_n 1, 1) := by decide +kernel
theorem dX10_open_39 : decode cX10_open 39 = .ok (.invokevirtual 198, 3) := by decide +kernel
theorem dX10_open_42 : decode cX10_open 42 = .ok (.ireturn, 1) := by decide +kernel
def w_X10_open (p0 : Int32) (mm : Mm) (Q9 : Int32 → Mm → Prop) : Prop :=
  w_X10_isChamber p0 mm (fun (r_1 : Int32) => ((¬ r_1 = 0 → w_X10_isShut p0 mm (fun (r_4 : Int32) => ((r_4 = 0 → w_X10_refused 2 mm (fun (r_7 : Int32) (m_8 : Mm) => ((r_7 = 0 → w_X10_saves m_8 (fun (m_11 : Mm) => w_X10_openOn p0 m_11 (fun (r_12 : Int32) (m_13 : Mm) => Q9 r_12 m_13))) ∧
  (¬ r_7 = 0 → Q9 0 m_8)))) ∧
  (¬ r_4 = 0 → w_X10_refused 0 mm (fun (r_14 : Int32) (m_15 : Mm) => ((r_14 = 0 → w_X10_saves m_15 (fun (m_18 : Mm) => w_X10_openOn p0 m_18 (fun (r_19 : Int32) (m_20 : Mm) => Q9 r_19 m_20))) ∧
  (¬ r_14 = 0 → Q9 0 m_15))))))) ∧
  (r_1 = 0 → w_X10_refused 1 mm (fun (r_21 : Int32) (m_22 : Mm) => ((r_21 = 0 → w_X10_saves m_22 (fun (m_25 : Mm) => w_X10_openOn p0 m_25 (fun (r_26 : Int32) (m_27 : Mm) => Q9 r_26 m_27))) ∧
  (¬ r_21 = 0 → Q9 0 m_22))))))
def rm_X10_open : Room := { frames := 2, cells := 0, slots := 0, locals := 47 }
theorem hy_X10_open : yX10_open.cls = RX10 ∧ yX10_open.cls ≠ "java/lang/invoke/MethodHandle" ∧ yX10_open.cls ≠ "java/lang/invoke/VarHandle" ∧ (parseMethodDescriptor yX10_open.desc).map (fun d => d.parameters.length) = some 1 := by decide +kernel
set_option maxRecDepth 100000 in
set_option maxHeartbeats 4000000 in
theorem c_X10_open {l : Launch} {D : va_G} {cA : Nat → ClassId} {ad : Nat → Nat → Nat} {A : Nat → Prop} (ax : Ax ad GM A) (p0 : Int32) (mm : Mm) (Q9 : Int32 → Mm → Prop) (h : w_X10_open p0 mm Q9) : Met l yX10_open (.code yX10_open cX10_open 2 (some .int) :: TG) rm_X10_open (PcM TT D cA ad false GM (ZM) [.ref (ad 30 1), .int p0] mm) (AnsI TT D cA ad false GM A Q9) 0 0 A := by
  have zo := ZM_ok A
  unfold w_X10_open at h
  refine enterI pl_X10 ⟨rfl, rfl⟩ rfl (Nat.le_of_ble_eq_true rfl) ?_
  intro p e s m args below meth c QQ X hK hZ hnm hE
  refine q_aload_n (j := 0) X dX10_open_0 rfl rfl ?_
  refine q_iload_n (j := 1) X dX10_open_1 rfl rfl ?_
  refine q_calli (q_runS X hK hZ zo [.int p0] [.ref (ad 30 1)] rfl rfl (Nat.le_of_ble_eq_true rfl) dX10_open_2 ⟨Nat.le_of_ble_eq_true rfl, Nat.le_of_ble_eq_true rfl⟩ (c_X10_isChamber ax p0 mm _ h) rfl rfl (gS kw_7_79 kw_7_80 kw_1_11 kw_7_81) hy_X10_isChamber.2 ⟨Nat.le_of_ble_eq_true rfl, Nat.le_of_ble_eq_true rfl⟩) (fun r_1 m_2 h => ?_)
  obtain ⟨h, hm⟩ := h
  subst hm
  refine q_if_ne (tgt := 12) X dX10_open_5 (by decide) (fun c_3 => ?_) (fun c_3 => ?_)
  · have h := h.1 c_3
    refine q_aload_n (j := 0) X dX10_open_12 rfl rfl ?_
    refine q_iload_n (j := 1) X dX10_open_13 rfl rfl ?_
    refine q_calli (q_runV X hK hZ zo (gm (t := 30) (by decide) (ok1 (t := 30) (Nat.le_of_ble_eq_true rfl))) rfl rfl [.int p0] [.ref (ad 30 1)] rfl rfl (Nat.le_of_ble_eq_true rfl) dX10_open_14 ⟨Nat.le_of_ble_eq_true rfl, Nat.le_of_ble_eq_true rfl⟩ (c_X10_isShut ax p0 mm _ h) rfl rfl (gV kw_7_87 kw_7_89 ks_86 kw_1_11 kw_7_90) hy_X10_isShut ⟨Nat.le_of_ble_eq_true rfl, Nat.le_of_ble_eq_true rfl⟩) (fun r_4 m_5 h => ?_)
    obtain ⟨h, hm⟩ := h
    subst hm
    refine q_if_eq (tgt := 24) X dX10_open_17 (by decide) (fun c_6 => ?_) (fun c_6 => ?_)
    · have h := h.1 c_6
      refine q_iconst (v := 2) X dX10_open_24 (by decide) ?_
      refine q_calli (q_runV X hK hZ zo (gm (t := 30) (by decide) (ok1 (t := 30) (Nat.le_of_ble_eq_true rfl))) rfl rfl [.int 2] [] rfl rfl (Nat.le_of_ble_eq_true rfl) dX10_open_25 ⟨Nat.le_of_ble_eq_true rfl, Nat.le_of_ble_eq_true rfl⟩ (c_X10_refused ax 2 mm _ h) rfl rfl (gV kw_7_126 kw_7_128 ks_95 kw_1_11 kw_7_129) hy_X10_refused ⟨Nat.le_of_ble_eq_true rfl, Nat.le_of_ble_eq_true rfl⟩) (fun r_7 m_8 h => ?_)
      refine q_if_eq (tgt := 33) X dX10_open_28 (by decide) (fun c_9 => ?_) (fun c_9 => ?_)
      · have h := h.1 c_9
        refine q_aload_n (j := 0) X dX10_open_33 rfl rfl ?_
        refine q_callv (q_runV X hK hZ zo (gm (t := 30) (by decide) (ok1 (t := 30) (Nat.le_of_ble_eq_true rfl))) rfl rfl [] [] rfl rfl (Nat.le_of_ble_eq_true rfl) dX10_open_34 ⟨Nat.le_of_ble_eq_true rfl, Nat.le_of_ble_eq_true rfl⟩ (c_X10_saves ax m_8 _ h) rfl rfl (gV kw_7_130 kw_7_132 ks_96 kw_1_11 kw_7_133) hy_X10_saves ⟨Nat.le_of_ble_eq_true rfl, Nat.le_of_ble_eq_true rfl⟩) (fun m_11 h => ?_)
        refine q_aload_n (j := 0) X dX10_open_37 rfl rfl ?_
        refine q_iload_n (j := 1) X dX10_open_38 rfl rfl ?_
        refine q_calli (q_runV X hK hZ zo (gm (t := 30) (by decide) (ok1 (t := 30) (Nat.le_of_ble_eq_true rfl))) rfl rfl [.int p0] [] rfl rfl (Nat.le_of_ble_eq_true rfl) dX10_open_39 ⟨Nat.le_of_ble_eq_true rfl, Nat.le_of_ble_eq_true rfl⟩ (c_X10_openOn ax p0 m_11 _ h) rfl rfl (gV kw_8_41 kw_8_43 ks_123 kw_1_11 kw_8_44) hy_X10_openOn ⟨Nat.le_of_ble_eq_true rfl, Nat.le_of_ble_eq_true rfl⟩) (fun r_12 m_13 h => ?_)
        exact hE _ _ _ _ dX10_open_42 h
      · have h := h.2 c_9
        refine q_iconst (v := 0) X dX10_open_31 (by decide) ?_
        exact hE _ _ _ _ dX10_open_32 h
    · have h := h.2 c_6
      refine q_iconst (v := 0) X dX10_open_20 (by decide) ?_
      refine q_goto (tgt := 25) X dX10_open_21 (by decide) ?_
      refine q_calli (q_runV X hK hZ zo (gm (t := 30) (by decide) (ok1 (t := 30) (Nat.le_of_ble_eq_true rfl))) rfl rfl [.int 0] [] rfl rfl (Nat.le_of_ble_eq_true rfl) dX10_open_25 ⟨Nat.le_of_ble_eq_true rfl, Nat.le_of_ble_eq_true rfl⟩ (c_X10_refused ax 0 mm _ h) rfl rfl (gV kw_7_126 kw_7_128 ks_95 kw_1_11 kw_7_129) hy_X10_refused ⟨Nat.le_of_ble_eq_true rfl, Nat.le_of_ble_eq_true rfl⟩) (fun r_14 m_15 h => ?_)
      refine q_if_eq (tgt := 33) X dX10_open_28 (by decide) (fun c_16 => ?_) (fun c_16 => ?_)
      · have h := h.1 c_16
        refine q_aload_n (j := 0) X dX10_open_33 rfl rfl ?_
        refine q_callv (q_runV X hK hZ zo (gm (t := 30) (by decide) (ok1 (t := 30) (Nat.le_of_ble_eq_true rfl))) rfl rfl [] [] rfl rfl (Nat.le_of_ble_eq_true rfl) dX10_open_34 ⟨Nat.le_of_ble_eq_true rfl, Nat.le_of_ble_eq_true rfl⟩ (c_X10_saves ax m_15 _ h) rfl rfl (gV kw_7_130 kw_7_132 ks_96 kw_1_11 kw_7_133) hy_X10_saves ⟨Nat.le_of_ble_eq_true rfl, Nat.le_of_ble_eq_true rfl⟩) (fun m_18 h => ?_)
        refine q_aload_n (j := 0) X dX10_open_37 rfl rfl ?_
        refine q_iload_n (j := 1) X dX10_open_38 rfl rfl ?_
        refine q_calli (q_runV X hK hZ zo (gm (t := 30) (by decide) (ok1 (t := 30) (Nat.le_of_ble_eq_true rfl))) rfl rfl [.int p0] [] rfl rfl (Nat.le_of_ble_eq_true rfl) dX10_open_39 ⟨Nat.le_of_ble_eq_true rfl, Nat.le_of_ble_eq_true rfl⟩ (c_X10_openOn ax p0 m_18 _ h) rfl rfl (gV kw_8_41 kw_8_43 ks_123 kw_1_11 kw_8_44) hy_X10_openOn ⟨Nat.le_of_ble_eq_true rfl, Nat.le_of_ble_eq_true rfl⟩) (fun r_19 m_20 h => ?_)
        exact hE _ _ _ _ dX10_open_42 h
      · have h := h.2 c_16
        refine q_iconst (v := 0) X dX10_open_31 (by decide) ?_
        exact hE _ _ _ _ dX10_open_32 h
  · have h := h.2 c_3
    refine q_iconst (v := 1) X dX10_open_8 (by decide) ?_
    refine q_goto (tgt := 25) X dX10_open_9 (by decide) ?_
    refine q_calli (q_runV X hK hZ zo (gm (t := 30) (by decide) (ok1 (t := 30) (Nat.le_of_ble_eq_true rfl))) rfl rfl [.int 1] [] rfl rfl (Nat.le_of_ble_eq_true rfl) dX10_open_25 ⟨Nat.le_of_ble_eq_true rfl, Nat.le_of_ble_eq_true rfl⟩ (c_X10_refused ax 1 mm _ h) rfl rfl (gV kw_7_126 kw_7_128 ks_95 kw_1_11 kw_7_129) hy_X10_refused ⟨Nat.le_of_ble_eq_true rfl, Nat.le_of_ble_eq_true rfl⟩) (fun r_21 m_22 h => ?_)
    refine q_if_eq (tgt := 33) X dX10_open_28 (by decide) (fun c_23 => ?_) (fun c_23 => ?_)
    · have h := h.1 c_23
      refine q_aload_n (j := 0) X dX10_open_33 rfl rfl ?_
      refine q_callv (q_runV X hK hZ zo (gm (t := 30) (by decide) (ok1 (t := 30) (Nat.le_of_ble_eq_true rfl))) rfl rfl [] [] rfl rfl (Nat.le_of_ble_eq_true rfl) dX10_open_34 ⟨Nat.le_of_ble_eq_true rfl, Nat.le_of_ble_eq_true rfl⟩ (c_X10_saves ax m_22 _ h) rfl rfl (gV kw_7_130 kw_7_132 ks_96 kw_1_11 kw_7_133) hy_X10_saves ⟨Nat.le_of_ble_eq_true rfl, Nat.le_of_ble_eq_true rfl⟩) (fun m_25 h => ?_)
      refine q_aload_n (j := 0) X dX10_open_37 rfl rfl ?_
      refine q_iload_n (j := 1) X dX10_open_38 rfl rfl ?_
      refine q_calli (q_runV X hK hZ zo (gm (t := 30) (by decide) (ok1 (t := 30) (Nat.le_of_ble_eq_true rfl))) rfl rfl [.int p0] [] rfl rfl (Nat.le_of_ble_eq_true rfl) dX10_open_39 ⟨Nat.le_of_ble_eq_true rfl, Nat.le_of_ble_eq_true rfl⟩ (c_X10_openOn ax p0 m_25 _ h) rfl rfl (gV kw_8_41 kw_8_43 ks_123 kw_1_11 kw_8_44) hy_X10_openOn ⟨Nat.le_of_ble_eq_true rfl, Nat.le_of_ble_eq_true rfl⟩) (fun r_26 m_27 h => ?_)
      exact hE _ _ _ _ dX10_open_42 h
    · have h := h.2 c_23
      refine q_iconst (v := 0) X dX10_open_31 (by decide) ?_
      exact hE _ _ _ _ dX10_open_32 h
theorem dX10_canBreak_0 : decode cX10_canBreak 0 = .ok (.aload_n 0, 1) := by decide +kernel
theorem dX10_canBreak_1 : decode cX10_canBreak 1 = .ok (.iload_n 1, 1) := by decide +kernel
theorem dX10_canBreak_2 : decode cX10_canBreak 2 = .ok (.invokevirtual 117, 3) := by decide +kernel
theorem dX10_canBreak_5 : decode cX10_canBreak 5 = .ok (.ifCond .eq 19, 3) := by decide +kernel
theorem dX10_canBreak_8 : decode cX10_canBreak 8 = .ok (.aload_n 0, 1) := by decide +kernel
theorem dX10_canBreak_9 : decode cX10_canBreak 9 = .ok (.getfield 13, 3) := by decide +kernel
theorem dX10_canBreak_12 : decode cX10_canBreak 12 = .ok (.bipush 15, 2) := by decide +kernel
theorem dX10_canBreak_14 : decode cX10_canBreak 14 = .ok (.iload_n 1, 1) := by decide +kernel
theorem dX10_canBreak_15 : decode cX10_canBreak 15 = .ok (.iadd, 1) := by decide +kernel
theorem dX10_canBreak_16 : decode cX10_canBreak 16 = .ok (.iaload, 1) := by decide +kernel
theorem dX10_canBreak_17 : decode cX10_canBreak 17 = .ok (.ifCond .ne 7, 3) := by decide +kernel
theorem dX10_canBreak_20 : decode cX10_canBreak 20 = .ok (.iconst 1, 1) := by decide +kernel
theorem dX10_canBreak_21 : decode cX10_canBreak 21 = .ok (.goto 4, 3) := by decide +kernel
theorem dX10_canBreak_24 : decode cX10_canBreak 24 = .ok (.iconst 0, 1) := by decide +kernel
theorem dX10_canBreak_25 : decode cX10_canBreak 25 = .ok (.ireturn, 1) := by decide +kernel
def w_X10_canBreak (p0 : Int32) (mm : Mm) (Q9 : Int32 → Prop) : Prop :=
  w_X10_isShut p0 mm (fun (r_1 : Int32) => ((r_1 = 0 → Q9 0) ∧
  (¬ r_1 = 0 → vp_in (15 + p0) 246 ∧ (((¬ (mm.1 32 1 (15 + p0).toNatClampNeg) = 0 → Q9 0) ∧
  ((mm.1 32 1 (15 + p0).toNatClampNeg) = 0 → Q9 1))))))
def rm_X10_canBreak : Room := { frames := 1, cells := 0, slots := 0, locals := 21 }
theorem hy_X10_canBreak : yX10_canBreak.cls = RX10 ∧ yX10_canBreak.cls ≠ "java/lang/invoke/MethodHandle" ∧ yX10_canBreak.cls ≠ "java/lang/invoke/VarHandle" ∧ (parseMethodDescriptor yX10_canBreak.desc).map (fun d => d.parameters.length) = some 1 := by decide +kernel
set_option maxRecDepth 100000 in
set_option maxHeartbeats 4000000 in
theorem c_X10_canBreak {l : Launch} {D : va_G} {cA : Nat → ClassId} {ad : Nat → Nat → Nat} {A : Nat → Prop} (ax : Ax ad GM A) (p0 : Int32) (mm : Mm) (Q9 : Int32 → Prop) (h : w_X10_canBreak p0 mm Q9) : Met l yX10_canBreak (.code yX10_canBreak cX10_canBreak 2 (some .boolean) :: TG) rm_X10_canBreak (PcM TT D cA ad false GM (ZM) [.ref (ad 30 1), .int p0] mm) (AnsI TT D cA ad false GM A (fun r mm' => Q9 r ∧ mm = mm')) 0 0 A := by
  have zo := ZM_ok A
  unfold w_X10_canBreak at h
  refine enterZ pl_X10 ⟨rfl, rfl⟩ rfl (Nat.le_of_ble_eq_true rfl) ?_
  intro p e s m args below meth c QQ X hK hZ hnm hE
  refine q_aload_n (j := 0) X dX10_canBreak_0 rfl rfl ?_
  refine q_iload_n (j := 1) X dX10_canBreak_1 rfl rfl ?_
  refine q_calli (q_runV X hK hZ zo (gm (t := 30) (by decide) (ok1 (t := 30) (Nat.le_of_ble_eq_true rfl))) rfl rfl [.int p0] [] rfl rfl (Nat.le_of_ble_eq_true rfl) dX10_canBreak_2 ⟨Nat.le_of_ble_eq_true rfl, Nat.le_of_ble_eq_true rfl⟩ (c_X10_isShut ax p0 mm _ h) rfl rfl (gV kw_7_87 kw_7_89 ks_86 kw_1_11 kw_7_90) hy_X10_isShut ⟨Nat.le_of_ble_eq_true rfl, Nat.le_of_ble_eq_true rfl⟩) (fun r_1 m_2 h => ?_)
  obtain ⟨h, hm⟩ := h
  subst hm
  refine q_if_eq (tgt := 24) X dX10_canBreak_5 (by decide) (fun c_3 => ?_) (fun c_3 => ?_)
  · have h := h.1 c_3
    refine q_iconst (v := 0) X dX10_canBreak_24 (by decide) ?_
    exact hE _ _ _ _ dX10_canBreak_25 (Or.inl rfl) ⟨h, rfl⟩
  · have h := h.2 c_3
    refine q_aload_n (j := 0) X dX10_canBreak_8 rfl rfl ?_
    refine q_get (k := 3) (v := .ref (ad 32 1)) X hK rfl rfl (Nat.le_of_ble_eq_true rfl) inTX10 (gm (t := 30) (by decide) (ok1 (t := 30) (Nat.le_of_ble_eq_true rfl))) kw_7_10 rfl (rv_nn (a := ad 32) (r := 1) (ok1 (t := 32) (Nat.le_of_ble_eq_true rfl)).1) dX10_canBreak_9 ?_
    refine q_bipush (v := 15) X dX10_canBreak_12 (by decide) ?_
    refine q_iload_n (j := 1) X dX10_canBreak_14 rfl rfl ?_
    refine q_iadd X dX10_canBreak_15 ?_
    obtain ⟨b_4, h⟩ := h
    refine q_iald (t := 32) (i := 1) (jn := (15 + p0).toNatClampNeg) (v := .int (mm.1 32 1 (15 + p0).toNatClampNeg)) X hK rfl rfl (gm (t := 32) (by decide) (ok1 (t := 32) (Nat.le_of_ble_eq_true rfl))) rfl b_4 rfl rfl dX10_canBreak_16 ?_
    refine q_if_ne (tgt := 24) X dX10_canBreak_17 (by decide) (fun c_5 => ?_) (fun c_5 => ?_)
    · have h := h.1 c_5
      refine q_iconst (v := 0) X dX10_canBreak_24 (by decide) ?_
      exact hE _ _ _ _ dX10_canBreak_25 (Or.inl rfl) ⟨h, rfl⟩
    · have h := h.2 c_5
      refine q_iconst (v := 1) X dX10_canBreak_20 (by decide) ?_
      refine q_goto (tgt := 25) X dX10_canBreak_21 (by decide) ?_
      exact hE _ _ _ _ dX10_canBreak_25 (Or.inr rfl) ⟨h, rfl⟩
theorem dX10_breakSeal_0 : decode cX10_breakSeal 0 = .ok (.aload_n 0, 1) := by decide +kernel
theorem dX10_breakSeal_1 : decode cX10_breakSeal 1 = .ok (.iload_n 1, 1) := by decide +kernel
theorem dX10_breakSeal_2 : decode cX10_breakSeal 2 = .ok (.invokestatic 137, 3) := by decide +kernel
theorem dX10_breakSeal_5 : decode cX10_breakSeal 5 = .ok (.ifCond .ne 7, 3) := by decide +kernel
theorem dX10_breakSeal_8 : decode cX10_breakSeal 8 = .ok (.iconst 1, 1) := by decide +kernel
theorem dX10_breakSeal_9 : decode cX10_breakSeal 9 = .ok (.goto 16, 3) := by decide +kernel
theorem dX10_breakSeal_12 : decode cX10_breakSeal 12 = .ok (.aload_n 0, 1) := by decide +kernel
theorem dX10_breakSeal_13 : decode cX10_breakSeal 13 = .ok (.iload_n 1, 1) := by decide +kernel
theorem dX10_breakSeal_14 : decode cX10_breakSeal 14 = .ok (.invokevirtual 201, 3) := by decide +kernel
theorem dX10_breakSeal_17 : decode cX10_breakSeal 17 = .ok (.ifCond .eq 7, 3) := by decide +kernel
theorem dX10_breakSeal_20 : decode cX10_breakSeal 20 = .ok (.iconst 0, 1) := by decide +kernel
theorem dX10_breakSeal_21 : decode cX10_breakSeal 21 = .ok (.goto 4, 3) := by decide +kernel
theorem dX10_breakSeal_24 : decode cX10_breakSeal 24 = .ok (.iconst 2, 1) := by decide +kernel
theorem dX10_breakSeal_25 : decode cX10_breakSeal 25 = .ok (.invokevirtual 147, 3) := by decide +kernel
theorem dX10_breakSeal_28 : decode cX10_breakSeal 28 = .ok (.ifCond .eq 5, 3) := by decide +kernel
theorem dX10_breakSeal_31 : decode cX10_breakSeal 31 = .ok (.iconst 0, 1) := by decide +kernel
theorem dX10_breakSeal_32 : decode cX10_breakSeal 32 = .ok (.ireturn, 1) := by decide +kernel
theorem dX10_breakSeal_33 : decode cX10_breakSeal 33 = .ok (.aload_n 0, 1) := by decide +kernel
theorem dX10_breakSeal_34 : decode cX10_breakSeal 34 = .ok (.invokevirtual 150, 3) := by decide +kernel
theorem dX10_breakSeal_37 : decode cX10_breakSeal 37 = .ok (.aload_n 0, 1) := by decide +kernel
theorem dX10_breakSeal_38 : decode cX10_breakSeal 38 = .ok (.iload_n 1, 1) := by decide +kernel
theorem dX10_breakSeal_39 : decode cX10_breakSeal 39 = .ok (.invokevirtual 204, 3) := by decide +kernel
theorem dX10_breakSeal_42 : decode cX10_breakSeal 42 = .ok (.ireturn, 1) := by decide +kernel
def w_X10_breakSeal (p0 : Int32) (mm : Mm) (Q9 : Int32 → Mm → Prop) : Prop :=
  w_X10_isChamber p0 mm (fun (r_1 : Int32) => ((¬ r_1 = 0 → w_X10_canBreak p0 mm (fun (r_4 : Int32) => ((r_4 = 0 → w_X10_refused 2 mm (fun (r_7 : Int32) (m_8 : Mm) => ((r_7 = 0 → w_X10_saves m_8 (fun (m_11 : Mm) => w_X10_breakOn p0 m_11 (fun (r_12 : Int32) (m_13 : Mm) => Q9 r_12 m_13))) ∧
  (¬ r_7 = 0 → Q9 0 m_8)))) ∧
  (¬ r_4 = 0 → w_X10_refused 0 mm (fun (r_14 : Int32) (m_15 : Mm) => ((r_14 = 0 → w_X10_saves m_15 (fun (m_18 : Mm) => w_X10_breakOn p0 m_18 (fun (r_19 : Int32) (m_20 : Mm) => Q9 r_19 m_20))) ∧
  (¬ r_14 = 0 → Q9 0 m_15))))))) ∧
  (r_1 = 0 → w_X10_refused 1 mm (fun (r_21 : Int32) (m_22 : Mm) => ((r_21 = 0 → w_X10_saves m_22 (fun (m_25 : Mm) => w_X10_breakOn p0 m_25 (fun (r_26 : Int32) (m_27 : Mm) => Q9 r_26 m_27))) ∧
  (¬ r_21 = 0 → Q9 0 m_22))))))
def rm_X10_breakSeal : Room := { frames := 2, cells := 0, slots := 0, locals := 45 }
theorem hy_X10_breakSeal : yX10_breakSeal.cls = RX10 ∧ yX10_breakSeal.cls ≠ "java/lang/invoke/MethodHandle" ∧ yX10_breakSeal.cls ≠ "java/lang/invoke/VarHandle" ∧ (parseMethodDescriptor yX10_breakSeal.desc).map (fun d => d.parameters.length) = some 1 := by decide +kernel
set_option maxRecDepth 100000 in
set_option maxHeartbeats 4000000 in
theorem c_X10_breakSeal {l : Launch} {D : va_G} {cA : Nat → ClassId} {ad : Nat → Nat → Nat} {A : Nat → Prop} (ax : Ax ad GM A) (p0 : Int32) (mm : Mm) (Q9 : Int32 → Mm → Prop) (h : w_X10_breakSeal p0 mm Q9) : Met l yX10_breakSeal (.code yX10_breakSeal cX10_breakSeal 2 (some .int) :: TG) rm_X10_breakSeal (PcM TT D cA ad false GM (ZM) [.ref (ad 30 1), .int p0] mm) (AnsI TT D cA ad false GM A Q9) 0 0 A := by
  have zo := ZM_ok A
  unfold w_X10_breakSeal at h
  refine enterI pl_X10 ⟨rfl, rfl⟩ rfl (Nat.le_of_ble_eq_true rfl) ?_
  intro p e s m args below meth c QQ X hK hZ hnm hE
  refine q_aload_n (j := 0) X dX10_breakSeal_0 rfl rfl ?_
  refine q_iload_n (j := 1) X dX10_breakSeal_1 rfl rfl ?_
  refine q_calli (q_runS X hK hZ zo [.int p0] [.ref (ad 30 1)] rfl rfl (Nat.le_of_ble_eq_true rfl) dX10_breakSeal_2 ⟨Nat.le_of_ble_eq_true rfl, Nat.le_of_ble_eq_true rfl⟩ (c_X10_isChamber ax p0 mm _ h) rfl rfl (gS kw_7_79 kw_7_80 kw_1_11 kw_7_81) hy_X10_isChamber.2 ⟨Nat.le_of_ble_eq_true rfl, Nat.le_of_ble_eq_true rfl⟩) (fun r_1 m_2 h => ?_)
  obtain ⟨h, hm⟩ := h
  subst hm
  refine q_if_ne (tgt := 12) X dX10_breakSeal_5 (by decide) (fun c_3 => ?_) (fun c_3 => ?_)
  · have h := h.1 c_3
    refine q_aload_n (j := 0) X dX10_breakSeal_12 rfl rfl ?_
    refine q_iload_n (j := 1) X dX10_breakSeal_13 rfl rfl ?_
    refine q_calli (q_runV X hK hZ zo (gm (t := 30) (by decide) (ok1 (t := 30) (Nat.le_of_ble_eq_true rfl))) rfl rfl [.int p0] [.ref (ad 30 1)] rfl rfl (Nat.le_of_ble_eq_true rfl) dX10_breakSeal_14 ⟨Nat.le_of_ble_eq_true rfl, Nat.le_of_ble_eq_true rfl⟩ (c_X10_canBreak ax p0 mm _ h) rfl rfl (gV kw_8_49 kw_8_51 ks_124 kw_1_11 kw_8_52) hy_X10_canBreak ⟨Nat.le_of_ble_eq_true rfl, Nat.le_of_ble_eq_true rfl⟩) (fun r_4 m_5 h => ?_)
    obtain ⟨h, hm⟩ := h
    subst hm
    refine q_if_eq (tgt := 24) X dX10_breakSeal_17 (by decide) (fun c_6 => ?_) (fun c_6 => ?_)
    · have h := h.1 c_6
      refine q_iconst (v := 2) X dX10_breakSeal_24 (by decide) ?_
      refine q_calli (q_runV X hK hZ zo (gm (t := 30) (by decide) (ok1 (t := 30) (Nat.le_of_ble_eq_true rfl))) rfl rfl [.int 2] [] rfl rfl (Nat.le_of_ble_eq_true rfl) dX10_breakSeal_25 ⟨Nat.le_of_ble_eq_true rfl, Nat.le_of_ble_eq_true rfl⟩ (c_X10_refused ax 2 mm _ h) rfl rfl (gV kw_7_126 kw_7_128 ks_95 kw_1_11 kw_7_129) hy_X10_refused ⟨Nat.le_of_ble_eq_true rfl, Nat.le_of_ble_eq_true rfl⟩) (fun r_7 m_8 h => ?_)
      refine q_if_eq (tgt := 33) X dX10_breakSeal_28 (by decide) (fun c_9 => ?_) (fun c_9 => ?_)
      · have h := h.1 c_9
        refine q_aload_n (j := 0) X dX10_breakSeal_33 rfl rfl ?_
        refine q_callv (q_runV X hK hZ zo (gm (t := 30) (by decide) (ok1 (t := 30) (Nat.le_of_ble_eq_true rfl))) rfl rfl [] [] rfl rfl (Nat.le_of_ble_eq_true rfl) dX10_breakSeal_34 ⟨Nat.le_of_ble_eq_true rfl, Nat.le_of_ble_eq_true rfl⟩ (c_X10_saves ax m_8 _ h) rfl rfl (gV kw_7_130 kw_7_132 ks_96 kw_1_11 kw_7_133) hy_X10_saves ⟨Nat.le_of_ble_eq_true rfl, Nat.le_of_ble_eq_true rfl⟩) (fun m_11 h => ?_)
        refine q_aload_n (j := 0) X dX10_breakSeal_37 rfl rfl ?_
        refine q_iload_n (j := 1) X dX10_breakSeal_38 rfl rfl ?_
        refine q_calli (q_runV X hK hZ zo (gm (t := 30) (by decide) (ok1 (t := 30) (Nat.le_of_ble_eq_true rfl))) rfl rfl [.int p0] [] rfl rfl (Nat.le_of_ble_eq_true rfl) dX10_breakSeal_39 ⟨Nat.le_of_ble_eq_true rfl, Nat.le_of_ble_eq_true rfl⟩ (c_X10_breakOn ax p0 m_11 _ h) rfl rfl (gV kw_8_53 kw_8_55 ks_125 kw_1_11 kw_8_56) hy_X10_breakOn ⟨Nat.le_of_ble_eq_true rfl, Nat.le_of_ble_eq_true rfl⟩) (fun r_12 m_13 h => ?_)
        exact hE _ _ _ _ dX10_breakSeal_42 h
      · have h := h.2 c_9
        refine q_iconst (v := 0) X dX10_breakSeal_31 (by decide) ?_
        exact hE _ _ _ _ dX10_breakSeal_32 h
    · have h := h.2 c_6
      refine q_iconst (v := 0) X dX10_breakSeal_20 (by decide) ?_
      refine q_goto (tgt := 25) X dX10_breakSeal_21 (by decide) ?_
      refine q_calli (q_runV X hK hZ zo (gm (t := 30) (by decide) (ok1 (t := 30) (Nat.le_of_ble_eq_true rfl))) rfl rfl [.int 0] [] rfl rfl (Nat.le_of_ble_eq_true rfl) dX10_breakSeal_25 ⟨Nat.le_of_ble_eq_true rfl, Nat.le_of_ble_eq_true rfl⟩ (c_X10_refused ax 0 mm _ h) rfl rfl (gV kw_7_126 kw_7_128 ks_95 kw_1_11 kw_7_129) hy_X10_refused ⟨Nat.le_of_ble_eq_true rfl, Nat.le_of_ble_eq_true rfl⟩) (fun r_14 m_15 h => ?_)
      refine q_if_eq (tgt := 33) X dX10_breakSeal_28 (by decide) (fun c_16 => ?_) (fun c_16 => ?_)
      · have h := h.1 c_16
        refine q_aload_n (j := 0) X dX10_breakSeal_33 rfl rfl ?_
        refine q_callv (q_runV X hK hZ zo (gm (t := 30) (by decide) (ok1 (t := 30) (Nat.le_of_ble_eq_true rfl))) rfl rfl [] [] rfl rfl (Nat.le_of_ble_eq_true rfl) dX10_breakSeal_34 ⟨Nat.le_of_ble_eq_true rfl, Nat.le_of_ble_eq_true rfl⟩ (c_X10_saves ax m_15 _ h) rfl rfl (gV kw_7_130 kw_7_132 ks_96 kw_1_11 kw_7_133) hy_X10_saves ⟨Nat.le_of_ble_eq_true rfl, Nat.le_of_ble_eq_true rfl⟩) (fun m_18 h => ?_)
        refine q_aload_n (j := 0) X dX10_breakSeal_37 rfl rfl ?_
        refine q_iload_n (j := 1) X dX10_breakSeal_38 rfl rfl ?_
        refine q_calli (q_runV X hK hZ zo (gm (t := 30) (by decide) (ok1 (t := 30) (Nat.le_of_ble_eq_true rfl))) rfl rfl [.int p0] [] rfl rfl (Nat.le_of_ble_eq_true rfl) dX10_breakSeal_39 ⟨Nat.le_of_ble_eq_true rfl, Nat.le_of_ble_eq_true rfl⟩ (c_X10_breakOn ax p0 m_18 _ h) rfl rfl (gV kw_8_53 kw_8_55 ks_125 kw_1_11 kw_8_56) hy_X10_breakOn ⟨Nat.le_of_ble_eq_true rfl, Nat.le_of_ble_eq_true rfl⟩) (fun r_19 m_20 h => ?_)
        exact hE _ _ _ _ dX10_breakSeal_42 h
      · have h := h.2 c_16
        refine q_iconst (v := 0) X dX10_breakSeal_31 (by decide) ?_
        exact hE _ _ _ _ dX10_breakSeal_32 h
  · have h := h.2 c_3
    refine q_iconst (v := 1) X dX10_breakSeal_8 (by decide) ?_
    refine q_goto (tgt := 25) X dX10_breakSeal_9 (by decide) ?_
    refine q_calli (q_runV X hK hZ zo (gm (t := 30) (by decide) (ok1 (t := 30) (Nat.le_of_ble_eq_true rfl))) rfl rfl [.int 1] [] rfl rfl (Nat.le_of_ble_eq_true rfl) dX10_breakSeal_25 ⟨Nat.le_of_ble_eq_true rfl, Nat.le_of_ble_eq_true rfl⟩ (c_X10_refused ax 1 mm _ h) rfl rfl (gV kw_7_126 kw_7_128 ks_95 kw_1_11 kw_7_129) hy_X10_refused ⟨Nat.le_of_ble_eq_true rfl, Nat.le_of_ble_eq_true rfl⟩) (fun r_21 m_22 h => ?_)
    refine q_if_eq (tgt := 33) X dX10_breakSeal_28 (by decide) (fun c_23 => ?_) (fun c_23 => ?_)
    · have h := h.1 c_23
      refine q_aload_n (j := 0) X dX10_breakSeal_33 rfl rfl ?_
      refine q_callv (q_runV X hK hZ zo (gm (t := 30) (by decide) (ok1 (t := 30) (Nat.le_of_ble_eq_true rfl))) rfl rfl [] [] rfl rfl (Nat.le_of_ble_eq_true rfl) dX10_breakSeal_34 ⟨Nat.le_of_ble_eq_true rfl, Nat.le_of_ble_eq_true rfl⟩ (c_X10_saves ax m_22 _ h) rfl rfl (gV kw_7_130 kw_7_132 ks_96 kw_1_11 kw_7_133) hy_X10_saves ⟨Nat.le_of_ble_eq_true rfl, Nat.le_of_ble_eq_true rfl⟩) (fun m_25 h => ?_)
      refine q_aload_n (j := 0) X dX10_breakSeal_37 rfl rfl ?_
      refine q_iload_n (j := 1) X dX10_breakSeal_38 rfl rfl ?_
      refine q_calli (q_runV X hK hZ zo (gm (t := 30) (by decide) (ok1 (t := 30) (Nat.le_of_ble_eq_true rfl))) rfl rfl [.int p0] [] rfl rfl (Nat.le_of_ble_eq_true rfl) dX10_breakSeal_39 ⟨Nat.le_of_ble_eq_true rfl, Nat.le_of_ble_eq_true rfl⟩ (c_X10_breakOn ax p0 m_25 _ h) rfl rfl (gV kw_8_53 kw_8_55 ks_125 kw_1_11 kw_8_56) hy_X10_breakOn ⟨Nat.le_of_ble_eq_true rfl, Nat.le_of_ble_eq_true rfl⟩) (fun r_26 m_27 h => ?_)
      exact hE _ _ _ _ dX10_breakSeal_42 h
    · have h := h.2 c_23
      refine q_iconst (v := 0) X dX10_breakSeal_31 (by decide) ?_
      exact hE _ _ _ _ dX10_breakSeal_32 h
theorem dX10_deposit_0 : decode cX10_deposit 0 = .ok (.aload_n 0, 1) := by decide +kernel
theorem dX10_deposit_1 : decode cX10_deposit 1 = .ok (.iload_n 1, 1) := by decide +kernel
theorem dX10_deposit_2 : decode cX10_deposit 2 = .ok (.i2l, 1) := by decide +kernel
theorem dX10_deposit_3 : decode cX10_deposit 3 = .ok (.lconst 1, 1) := by decide +kernel
theorem dX10_deposit_4 : decode cX10_deposit 4 = .ok (.ldc2_w 135, 3) := by decide +kernel
theorem dX10_deposit_7 : decode cX10_deposit 7 = .ok (.invokestatic 35, 3) := by decide +kernel
theorem dX10_deposit_10 : decode cX10_deposit 10 = .ok (.ifCond .ne 7, 3) := by decide +kernel
theorem dX10_deposit_13 : decode cX10_deposit 13 = .ok (.iconst 1, 1) := by decide +kernel
theorem dX10_deposit_14 : decode cX10_deposit 14 = .ok (.goto 16, 3) := by decide +kernel
theorem dX10_deposit_17 : decode cX10_deposit 17 = .ok (.aload_n 0, 1) := by decide +kernel
theorem dX10_deposit_18 : decode cX10_deposit 18 = .ok (.iload_n 1, 1) := by decide +kernel
theorem dX10_deposit_19 : decode cX10_deposit 19 = .ok (.invokevirtual 207, 3) := by decide +kernel
theorem dX10_deposit_22 : decode cX10_deposit 22 = .ok (.ifCond .eq 7, 3) := by decide +kernel
theorem dX10_deposit_25 : decode cX10_deposit 25 = .ok (.iconst 0, 1) := by decide +kernel
theorem dX10_deposit_26 : decode cX10_deposit 26 = .ok (.goto 4, 3) := by decide +kernel
theorem dX10_deposit_29 : decode cX10_deposit 29 = .ok (.iconst 2, 1) := by decide +kernel
theorem dX10_deposit_30 : decode cX10_deposit 30 = .ok (.invokevirtual 147, 3) := by decide +kernel
theorem dX10_deposit_33 : decode cX10_deposit 33 = .ok (.ifCond .eq 5, 3) := by decide +kernel
theorem dX10_deposit_36 : decode cX10_deposit 36 = .ok (.iconst 0, 1) := by decide +kernel
theorem dX10_deposit_37 : decode cX10_deposit 37 = .ok (.ireturn, 1) := by decide +kernel
theorem dX10_deposit_38 : decode cX10_deposit 38 = .ok (.aload_n 0, 1) := by decide +kernel
theorem dX10_deposit_39 : decode cX10_deposit 39 = .ok (.invokevirtual 150, 3) := by decide +kernel
theorem dX10_deposit_42 : decode cX10_deposit 42 = .ok (.aload_n 0, 1) := by decide +kernel
theorem dX10_deposit_43 : decode cX10_deposit 43 = .ok (.iload_n 1, 1) := by decide +kernel
theorem dX10_deposit_44 : decode cX10_deposit 44 = .ok (.invokevirtual 210, 3) := by decide +kernel
theorem dX10_deposit_47 : decode cX10_deposit 47 = .ok (.ireturn, 1) := by decide +kernel
def w_X10_deposit (p0 : Int32) (mm : Mm) (Q9 : Int32 → Mm → Prop) : Prop :=
  w_X10_in (Int32.toInt64 p0) (1 : Int64) (9999 : Int64) mm (fun (r_1 : Int32) => ((¬ r_1 = 0 → w_X10_canPay p0 mm (fun (r_4 : Int32) => ((r_4 = 0 → w_X10_refused 2 mm (fun (r_7 : Int32) (m_8 : Mm) => ((r_7 = 0 → w_X10_saves m_8 (fun (m_11 : Mm) => w_X10_payOn p0 m_11 (fun (r_12 : Int32) (m_13 : Mm) => Q9 r_12 m_13))) ∧
  (¬ r_7 = 0 → Q9 0 m_8)))) ∧
  (¬ r_4 = 0 → w_X10_refused 0 mm (fun (r_14 : Int32) (m_15 : Mm) => ((r_14 = 0 → w_X10_saves m_15 (fun (m_18 : Mm) => w_X10_payOn p0 m_18 (fun (r_19 : Int32) (m_20 : Mm) => Q9 r_19 m_20))) ∧
  (¬ r_14 = 0 → Q9 0 m_15))))))) ∧
  (r_1 = 0 → w_X10_refused 1 mm (fun (r_21 : Int32) (m_22 : Mm) => ((r_21 = 0 → w_X10_saves m_22 (fun (m_25 : Mm) => w_X10_payOn p0 m_25 (fun (r_26 : Int32) (m_27 : Mm) => Q9 r_26 m_27))) ∧
  (¬ r_21 = 0 → Q9 0 m_22))))))
def rm_X10_deposit : Room := { frames := 2, cells := 0, slots := 0, locals := 45 }
theorem hy_X10_deposit : yX10_deposit.cls = RX10 ∧ yX10_deposit.cls ≠ "java/lang/invoke/MethodHandle" ∧ yX10_deposit.cls ≠ "java/lang/invoke/VarHandle" ∧ (parseMethodDescriptor yX10_deposit.desc).map (fun d => d.parameters.length) = some 1 := by decide +kernel
set_option maxRecDepth 100000 in
set_option maxHeartbeats 4000000 in
theorem c_X10_deposit {l : Launch} {D : va_G} {cA : Nat → ClassId} {ad : Nat → Nat → Nat} {A : Nat → Prop} (ax : Ax ad GM A) (p0 : Int32) (mm : Mm) (Q9 : Int32 → Mm → Prop) (h : w_X10_deposit p0 mm Q9) : Met l yX10_deposit (.code yX10_deposit cX10_deposit 2 (some .int) :: TG) rm_X10_deposit (PcM TT D cA ad false GM (ZM) [.ref (ad 30 1), .int p0] mm) (AnsI TT D cA ad false GM A Q9) 0 0 A := by
  have zo := ZM_ok A
  unfold w_X10_deposit at h
  refine enterI pl_X10 ⟨rfl, rfl⟩ rfl (Nat.le_of_ble_eq_true rfl) ?_
  intro p e s m args below meth c QQ X hK hZ hnm hE
  refine q_aload_n (j := 0) X dX10_deposit_0 rfl rfl ?_
  refine q_iload_n (j := 1) X dX10_deposit_1 rfl rfl ?_
  refine q_i2l X dX10_deposit_2 ?_
  refine q_lconst (v := 1) X dX10_deposit_3 (by decide) ?_
  refine q_ldc2 (v := 9999) X kw_7_78 dX10_deposit_4 ?_
  refine q_calli (q_runS X hK hZ zo [.long (Int32.toInt64 p0), .long (1 : Int64), .long (9999 : Int64)] [.ref (ad 30 1)] rfl rfl (Nat.le_of_ble_eq_true rfl) dX10_deposit_7 ⟨Nat.le_of_ble_eq_true rfl, Nat.le_of_ble_eq_true rfl⟩ (c_X10_in ax (Int32.toInt64 p0) (1 : Int64) (9999 : Int64) mm _ h) rfl rfl (gS kw_7_71 kw_7_72 kw_1_11 kw_7_73) hy_X10_in.2 ⟨Nat.le_of_ble_eq_true rfl, Nat.le_of_ble_eq_true rfl⟩) (fun r_1 m_2 h => ?_)
  obtain ⟨h, hm⟩ := h
  subst hm
  refine q_if_ne (tgt := 17) X dX10_deposit_10 (by decide) (fun c_3 => ?_) (fun c_3 => ?_)
  · have h := h.1 c_3
    refine q_aload_n (j := 0) X dX10_deposit_17 rfl rfl ?_
    refine q_iload_n (j := 1) X dX10_deposit_18 rfl rfl ?_
    refine q_calli (q_runV X hK hZ zo (gm (t := 30) (by decide) (ok1 (t := 30) (Nat.le_of_ble_eq_true rfl))) rfl rfl [.int p0] [.ref (ad 30 1)] rfl rfl (Nat.le_of_ble_eq_true rfl) dX10_deposit_19 ⟨Nat.le_of_ble_eq_true rfl, Nat.le_of_ble_eq_true rfl⟩ (c_X10_canPay ax p0 mm _ h) rfl rfl (gV kw_8_61 kw_8_63 ks_126 kw_1_11 kw_8_64) hy_X10_canPay ⟨Nat.le_of_ble_eq_true rfl, Nat.le_of_ble_eq_true rfl⟩) (fun r_4 m_5 h => ?_)
    obtain ⟨h, hm⟩ := h
    subst hm
    refine q_if_eq (tgt := 29) X dX10_deposit_22 (by decide) (fun c_6 => ?_) (fun c_6 => ?_)
    · have h := h.1 c_6
      refine q_iconst (v := 2) X dX10_deposit_29 (by decide) ?_
      refine q_calli (q_runV X hK hZ zo (gm (t := 30) (by decide) (ok1 (t := 30) (Nat.le_of_ble_eq_true rfl))) rfl rfl [.int 2] [] rfl rfl (Nat.le_of_ble_eq_true rfl) dX10_deposit_30 ⟨Nat.le_of_ble_eq_true rfl, Nat.le_of_ble_eq_true rfl⟩ (c_X10_refused ax 2 mm _ h) rfl rfl (gV kw_7_126 kw_7_128 ks_95 kw_1_11 kw_7_129) hy_X10_refused ⟨Nat.le_of_ble_eq_true rfl, Nat.le_of_ble_eq_true rfl⟩) (fun r_7 m_8 h => ?_)
      refine q_if_eq (tgt := 38) X dX10_deposit_33 (by decide) (fun c_9 => ?_) (fun c_9 => ?_)
      · have h := h.1 c_9
        refine q_aload_n (j := 0) X dX10_deposit_38 rfl rfl ?_
        refine q_callv (q_runV X hK hZ zo (gm (t := 30) (by decide) (ok1 (t := 30) (Nat.le_of_ble_eq_true rfl))) rfl rfl [] [] rfl rfl (Nat.le_of_ble_eq_true rfl) dX10_deposit_39 ⟨Nat.le_of_ble_eq_true rfl, Nat.le_of_ble_eq_true rfl⟩ (c_X10_saves ax m_8 _ h) rfl rfl (gV kw_7_130 kw_7_132 ks_96 kw_1_11 kw_7_133) hy_X10_saves ⟨Nat.le_of_ble_eq_true rfl, Nat.le_of_ble_eq_true rfl⟩) (fun m_11 h => ?_)
        refine q_aload_n (j := 0) X dX10_deposit_42 rfl rfl ?_
        refine q_iload_n (j := 1) X dX10_deposit_43 rfl rfl ?_
        refine q_calli (q_runV X hK hZ zo (gm (t := 30) (by decide) (ok1 (t := 30) (Nat.le_of_ble_eq_true rfl))) rfl rfl [.int p0] [] rfl rfl (Nat.le_of_ble_eq_true rfl) dX10_deposit_44 ⟨Nat.le_of_ble_eq_true rfl, Nat.le_of_ble_eq_true rfl⟩ (c_X10_payOn ax p0 m_11 _ h) rfl rfl (gV kw_8_66 kw_8_68 ks_127 kw_1_11 kw_8_69) hy_X10_payOn ⟨Nat.le_of_ble_eq_true rfl, Nat.le_of_ble_eq_true rfl⟩) (fun r_12 m_13 h => ?_)
        exact hE _ _ _ _ dX10_deposit_47 h
      · have h := h.2 c_9
        refine q_iconst (v := 0) X dX10_deposit_36 (by decide) ?_
        exact hE _ _ _ _ dX10_deposit_37 h
    · have h := h.2 c_6
      refine q_iconst (v := 0) X dX10_deposit_25 (by decide) ?_
      refine q_goto (tgt := 30) X dX10_deposit_26 (by decide) ?_
      refine q_calli (q_runV X hK hZ zo (gm (t := 30) (by decide) (ok1 (t := 30) (Nat.le_of_ble_eq_true rfl))) rfl rfl [.int 0] [] rfl rfl (Nat.le_of_ble_eq_true rfl) dX10_deposit_30 ⟨Nat.le_of_ble_eq_true rfl, Nat.le_of_ble_eq_true rfl⟩ (c_X10_refused ax 0 mm _ h) rfl rfl (gV kw_7_126 kw_7_128 ks_95 kw_1_11 kw_7_129) hy_X10_refused ⟨Nat.le_of_ble_eq_true rfl, Nat.le_of_ble_eq_true rfl⟩) (fun r_14 m_15 h => ?_)
      refine q_if_eq (tgt := 38) X dX10_deposit_33 (by decide) (fun c_16 => ?_) (fun c_16 => ?_)
      · have h := h.1 c_16
        refine q_aload_n (j := 0) X dX10_deposit_38 rfl rfl ?_
        refine q_callv (q_runV X hK hZ zo (gm (t := 30) (by decide) (ok1 (t := 30) (Nat.le_of_ble_eq_true rfl))) rfl rfl [] [] rfl rfl (Nat.le_of_ble_eq_true rfl) dX10_deposit_39 ⟨Nat.le_of_ble_eq_true rfl, Nat.le_of_ble_eq_true rfl⟩ (c_X10_saves ax m_15 _ h) rfl rfl (gV kw_7_130 kw_7_132 ks_96 kw_1_11 kw_7_133) hy_X10_saves ⟨Nat.le_of_ble_eq_true rfl, Nat.le_of_ble_eq_true rfl⟩) (fun m_18 h => ?_)
        refine q_aload_n (j := 0) X dX10_deposit_42 rfl rfl ?_
        refine q_iload_n (j := 1) X dX10_deposit_43 rfl rfl ?_
        refine q_calli (q_runV X hK hZ zo (gm (t := 30) (by decide) (ok1 (t := 30) (Nat.le_of_ble_eq_true rfl))) rfl rfl [.int p0] [] rfl rfl (Nat.le_of_ble_eq_true rfl) dX10_deposit_44 ⟨Nat.le_of_ble_eq_true rfl, Nat.le_of_ble_eq_true rfl⟩ (c_X10_payOn ax p0 m_18 _ h) rfl rfl (gV kw_8_66 kw_8_68 ks_127 kw_1_11 kw_8_69) hy_X10_payOn ⟨Nat.le_of_ble_eq_true rfl, Nat.le_of_ble_eq_true rfl⟩) (fun r_19 m_20 h => ?_)
        exact hE _ _ _ _ dX10_deposit_47 h
      · have h := h.2 c_16
        refine q_iconst (v := 0) X dX10_deposit_36 (by decide) ?_
        exact hE _ _ _ _ dX10_deposit_37 h
  · have h := h.2 c_3
    refine q_iconst (v := 1) X dX10_deposit_13 (by decide) ?_
    refine q_goto (tgt := 30) X dX10_deposit_14 (by decide) ?_
    refine q_calli (q_runV X hK hZ zo (gm (t := 30) (by decide) (ok1 (t := 30) (Nat.le_of_ble_eq_true rfl))) rfl rfl [.int 1] [] rfl rfl (Nat.le_of_ble_eq_true rfl) dX10_deposit_30 ⟨Nat.le_of_ble_eq_true rfl, Nat.le_of_ble_eq_true rfl⟩ (c_X10_refused ax 1 mm _ h) rfl rfl (gV kw_7_126 kw_7_128 ks_95 kw_1_11 kw_7_129) hy_X10_refused ⟨Nat.le_of_ble_eq_true rfl, Nat.le_of_ble_eq_true rfl⟩) (fun r_21 m_22 h => ?_)
    refine q_if_eq (tgt := 38) X dX10_deposit_33 (by decide) (fun c_23 => ?_) (fun c_23 => ?_)
    · have h := h.1 c_23
      refine q_aload_n (j := 0) X dX10_deposit_38 rfl rfl ?_
      refine q_callv (q_runV X hK hZ zo (gm (t := 30) (by decide) (ok1 (t := 30) (Nat.le_of_ble_eq_true rfl))) rfl rfl [] [] rfl rfl (Nat.le_of_ble_eq_true rfl) dX10_deposit_39 ⟨Nat.le_of_ble_eq_true rfl, Nat.le_of_ble_eq_true rfl⟩ (c_X10_saves ax m_22 _ h) rfl rfl (gV kw_7_130 kw_7_132 ks_96 kw_1_11 kw_7_133) hy_X10_saves ⟨Nat.le_of_ble_eq_true rfl, Nat.le_of_ble_eq_true rfl⟩) (fun m_25 h => ?_)
      refine q_aload_n (j := 0) X dX10_deposit_42 rfl rfl ?_
      refine q_iload_n (j := 1) X dX10_deposit_43 rfl rfl ?_
      refine q_calli (q_runV X hK hZ zo (gm (t := 30) (by decide) (ok1 (t := 30) (Nat.le_of_ble_eq_true rfl))) rfl rfl [.int p0] [] rfl rfl (Nat.le_of_ble_eq_true rfl) dX10_deposit_44 ⟨Nat.le_of_ble_eq_true rfl, Nat.le_of_ble_eq_true rfl⟩ (c_X10_payOn ax p0 m_25 _ h) rfl rfl (gV kw_8_66 kw_8_68 ks_127 kw_1_11 kw_8_69) hy_X10_payOn ⟨Nat.le_of_ble_eq_true rfl, Nat.le_of_ble_eq_true rfl⟩) (fun r_26 m_27 h => ?_)
      exact hE _ _ _ _ dX10_deposit_47 h
    · have h := h.2 c_23
      refine q_iconst (v := 0) X dX10_deposit_36 (by decide) ?_
      exact hE _ _ _ _ dX10_deposit_37 h
theorem dX10_set_0 : decode cX10_set 0 = .ok (.aload_n 0, 1) := by decide +kernel
theorem dX10_set_1 : decode cX10_set 1 = .ok (.invokevirtual 150, 3) := by decide +kernel
theorem dX10_set_4 : decode cX10_set 4 = .ok (.aload_n 0, 1) := by decide +kernel
theorem dX10_set_5 : decode cX10_set 5 = .ok (.getfield 13, 3) := by decide +kernel
theorem dX10_set_8 : decode cX10_set 8 = .ok (.iload_n 1, 1) := by decide +kernel
theorem dX10_set_9 : decode cX10_set 9 = .ok (.iaload, 1) := by decide +kernel
theorem dX10_set_10 : decode cX10_set 10 = .ok (.istore_n 3, 1) := by decide +kernel
theorem dX10_set_11 : decode cX10_set 11 = .ok (.aload_n 0, 1) := by decide +kernel
theorem dX10_set_12 : decode cX10_set 12 = .ok (.getfield 13, 3) := by decide +kernel
theorem dX10_set_15 : decode cX10_set 15 = .ok (.iload_n 1, 1) := by decide +kernel
theorem dX10_set_16 : decode cX10_set 16 = .ok (.iload_n 2, 1) := by decide +kernel
theorem dX10_set_17 : decode cX10_set 17 = .ok (.iastore, 1) := by decide +kernel
theorem dX10_set_18 : decode cX10_set 18 = .ok (.iload_n 3, 1) := by decide +kernel
theorem dX10_set_19 : decode cX10_set 19 = .ok (.ireturn, 1) := by decide +kernel
def w_X10_set (p0 : Int32) (p1 : Int32) (mm : Mm) (Q9 : Int32 → Mm → Prop) : Prop :=
  w_X10_saves mm (fun (m_2 : Mm) => vp_in p0 246 ∧ (∀ x_4 : Int32, x_4 = (m_2.1 32 1 p0.toNatClampNeg) → (∀ m_5 : Mm, m_5 = sI m_2 32 1 p0.toNatClampNeg p1 → (Q9 x_4 m_5))))
def rm_X10_set : Room := { frames := 2, cells := 0, slots := 0, locals := 45 }
theorem hy_X10_set : yX10_set.cls = RX10 ∧ yX10_set.cls ≠ "java/lang/invoke/MethodHandle" ∧ yX10_set.cls ≠ "java/lang/invoke/VarHandle" ∧ (parseMethodDescriptor yX10_set.desc).map (fun d => d.parameters.length) = some 2 := by decide +kernel
set_option maxRecDepth 100000 in
set_option maxHeartbeats 4000000 in
theorem c_X10_set {l : Launch} {D : va_G} {cA : Nat → ClassId} {ad : Nat → Nat → Nat} {A : Nat → Prop} (ax : Ax ad GM A) (p0 : Int32) (p1 : Int32) (mm : Mm) (Q9 : Int32 → Mm → Prop) (h : w_X10_set p0 p1 mm Q9) : Met l yX10_set (.code yX10_set cX10_set 4 (some .int) :: TG) rm_X10_set (PcM TT D cA ad false GM (ZM) [.ref (ad 30 1), .int p0, .int p1] mm) (AnsI TT D cA ad false GM A Q9) 0 0 A := by
  have zo := ZM_ok A
  unfold w_X10_set at h
  refine enterI pl_X10 ⟨rfl, rfl⟩ rfl (Nat.le_of_ble_eq_true rfl) ?_
  intro p e s m args below meth c QQ X hK hZ hnm hE
  refine q_aload_n (j := 0) X dX10_set_0 rfl rfl ?_
  refine q_callv (q_runV X hK hZ zo (gm (t := 30) (by decide) (ok1 (t := 30) (Nat.le_of_ble_eq_true rfl))) rfl rfl [] [] rfl rfl (Nat.le_of_ble_eq_true rfl) dX10_set_1 ⟨Nat.le_of_ble_eq_true rfl, Nat.le_of_ble_eq_true rfl⟩ (c_X10_saves ax mm _ h) rfl rfl (gV kw_7_130 kw_7_132 ks_96 kw_1_11 kw_7_133) hy_X10_saves ⟨Nat.le_of_ble_eq_true rfl, Nat.le_of_ble_eq_true rfl⟩) (fun m_2 h => ?_)
  refine q_aload_n (j := 0) X dX10_set_4 rfl rfl ?_
  refine q_get (k := 3) (v := .ref (ad 32 1)) X hK rfl rfl (Nat.le_of_ble_eq_true rfl) inTX10 (gm (t := 30) (by decide) (ok1 (t := 30) (Nat.le_of_ble_eq_true rfl))) kw_7_10 rfl (rv_nn (a := ad 32) (r := 1) (ok1 (t := 32) (Nat.le_of_ble_eq_true rfl)).1) dX10_set_5 ?_
  refine q_iload_n (j := 1) X dX10_set_8 rfl rfl ?_
  obtain ⟨b_3, h⟩ := h
  refine q_iald (t := 32) (i := 1) (jn := p0.toNatClampNeg) (v := .int (m_2.1 32 1 p0.toNatClampNeg)) X hK rfl rfl (gm (t := 32) (by decide) (ok1 (t := 32) (Nat.le_of_ble_eq_true rfl))) rfl b_3 rfl rfl dX10_set_9 ?_
  refine q_topi (fun x_4 ex_4 => ?_)
  have h := h x_4 ex_4
  refine q_istore_n (lv' := [(3, .int x_4), (0, .ref (ad 30 1)), (1, .int p0), (2, .int p1)]) X dX10_set_10 rfl (by decide) rfl ?_
  refine q_aload_n (j := 1) X dX10_set_11 rfl rfl ?_
  refine q_get (k := 3) (v := .ref (ad 32 1)) X hK rfl rfl (Nat.le_of_ble_eq_true rfl) inTX10 (gm (t := 30) (by decide) (ok1 (t := 30) (Nat.le_of_ble_eq_true rfl))) kw_7_10 rfl (rv_nn (a := ad 32) (r := 1) (ok1 (t := 32) (Nat.le_of_ble_eq_true rfl)).1) dX10_set_12 ?_
  refine q_iload_n (j := 2) X dX10_set_15 rfl rfl ?_
  refine q_iload_n (j := 3) X dX10_set_16 rfl rfl ?_
  refine q_iast (t := 32) (i := 1) (jn := p0.toNatClampNeg) X ax hK rfl rfl (gm (t := 32) (by decide) (ok1 (t := 32) (Nat.le_of_ble_eq_true rfl))) rfl b_3 rfl rfl dX10_set_17 ?_
  refine q_nmP (fun m_5 em_5 => ?_)
  have h := h m_5 em_5
  refine q_iload_n (j := 0) X dX10_set_18 rfl rfl ?_
  exact hE _ _ _ _ dX10_set_19 h
theorem dX10_setBond_0 : decode cX10_setBond 0 = .ok (.aload_n 0, 1) := by decide +kernel
theorem dX10_setBond_1 : decode cX10_setBond 1 = .ok (.iload_n 1, 1) := by decide +kernel
theorem dX10_setBond_2 : decode cX10_setBond 2 = .ok (.i2l, 1) := by decide +kernel
theorem dX10_setBond_3 : decode cX10_setBond 3 = .ok (.lconst 0, 1) := by decide +kernel
theorem dX10_setBond_4 : decode cX10_setBond 4 = .ok (.ldc2_w 213, 3) := by decide +kernel
theorem dX10_setBond_7 : decode cX10_setBond 7 = .ok (.invokestatic 35, 3) := by decide +kernel
theorem dX10_setBond_10 : decode cX10_setBond 10 = .ok (.ifCond .ne 7, 3) := by decide +kernel
theorem dX10_setBond_13 : decode cX10_setBond 13 = .ok (.iconst 1, 1) := by decide +kernel
theorem dX10_setBond_14 : decode cX10_setBond 14 = .ok (.goto 16, 3) := by decide +kernel
theorem dX10_setBond_17 : decode cX10_setBond 17 = .ok (.iload_n 1, 1) := by decide +kernel
theorem dX10_setBond_18 : decode cX10_setBond 18 = .ok (.aload_n 0, 1) := by decide +kernel
theorem dX10_setBond_19 : decode cX10_setBond 19 = .ok (.invokevirtual 120, 3) := by decide +kernel
theorem dX10_setBond_22 : decode cX10_setBond 22 = .ok (.if_icmp .ge 7, 3) := by decide +kernel
theorem dX10_setBond_25 : decode cX10_setBond 25 = .ok (.iconst 2, 1) := by decide +kernel
theorem dX10_setBond_26 : decode cX10_setBond 26 = .ok (.goto 4, 3) := by decide +kernel
theorem dX10_setBond_29 : decode cX10_setBond 29 = .ok (.iconst 0, 1) := by decide +kernel
theorem dX10_setBond_30 : decode cX10_setBond 30 = .ok (.invokevirtual 147, 3) := by decide +kernel
theorem dX10_setBond_33 : decode cX10_setBond 33 = .ok (.ifCond .eq 7, 3) := by decide +kernel
theorem dX10_setBond_36 : decode cX10_setBond 36 = .ok (.iconst 0, 1) := by decide +kernel
theorem dX10_setBond_37 : decode cX10_setBond 37 = .ok (.goto 9, 3) := by decide +kernel
theorem dX10_setBond_40 : decode cX10_setBond 40 = .ok (.aload_n 0, 1) := by decide +kernel
theorem dX10_setBond_41 : decode cX10_setBond 41 = .ok (.iconst 5, 1) := by decide +kernel
theorem dX10_setBond_42 : decode cX10_setBond 42 = .ok (.iload_n 1, 1) := by decide +kernel
theorem dX10_setBond_43 : decode cX10_setBond 43 = .ok (.invokevirtual 215, 3) := by decide +kernel
theorem dX10_setBond_46 : decode cX10_setBond 46 = .ok (.ireturn, 1) := by decide +kernel
def w_X10_setBond (p0 : Int32) (mm : Mm) (Q9 : Int32 → Mm → Prop) : Prop :=
  w_X10_in (Int32.toInt64 p0) (0 : Int64) (50000 : Int64) mm (fun (r_1 : Int32) => ((¬ r_1 = 0 → w_X10_stake mm (fun (r_4 : Int32) => ((r_4 ≤ p0 → w_X10_refused 0 mm (fun (r_7 : Int32) (m_8 : Mm) => ((r_7 = 0 → w_X10_set 5 p0 m_8 (fun (r_10 : Int32) (m_11 : Mm) => Q9 r_10 m_11)) ∧
  (¬ r_7 = 0 → Q9 0 m_8)))) ∧
  (¬ r_4 ≤ p0 → w_X10_refused 2 mm (fun (r_12 : Int32) (m_13 : Mm) => ((r_12 = 0 → w_X10_set 5 p0 m_13 (fun (r_15 : Int32) (m_16 : Mm) => Q9 r_15 m_16)) ∧
  (¬ r_12 = 0 → Q9 0 m_13))))))) ∧
  (r_1 = 0 → w_X10_refused 1 mm (fun (r_17 : Int32) (m_18 : Mm) => ((r_17 = 0 → w_X10_set 5 p0 m_18 (fun (r_20 : Int32) (m_21 : Mm) => Q9 r_20 m_21)) ∧
  (¬ r_17 = 0 → Q9 0 m_18))))))
def rm_X10_setBond : Room := { frames := 5, cells := 0, slots := 0, locals := 111 }
theorem hy_X10_setBond : yX10_setBond.cls = RX10 ∧ yX10_setBond.cls ≠ "java/lang/invoke/MethodHandle" ∧ yX10_setBond.cls ≠ "java/lang/invoke/VarHandle" ∧ (parseMethodDescriptor yX10_setBond.desc).map (fun d => d.parameters.length) = some 1 := by decide +kernel
set_option maxRecDepth 100000 in
set_option maxHeartbeats 4000000 in
theorem c_X10_setBond {l : Launch} {D : va_G} {cA : Nat → ClassId} {ad : Nat → Nat → Nat} {A : Nat → Prop} (ax : Ax ad GM A) (p0 : Int32) (mm : Mm) (Q9 : Int32 → Mm → Prop) (h : w_X10_setBond p0 mm Q9) : Met l yX10_setBond (.code yX10_setBond cX10_setBond 2 (some .int) :: TG) rm_X10_setBond (PcM TT D cA ad false GM (ZM) [.ref (ad 30 1), .int p0] mm) (AnsI TT D cA ad false GM A Q9) 0 0 A := by
  have zo := ZM_ok A
  unfold w_X10_setBond at h
  refine enterI pl_X10 ⟨rfl, rfl⟩ rfl (Nat.le_of_ble_eq_true rfl) ?_
  intro p e s m args below meth c QQ X hK hZ hnm hE
  refine q_aload_n (j := 0) X dX10_setBond_0 rfl rfl ?_
  refine q_iload_n (j := 1) X dX10_setBond_1 rfl rfl ?_
  refine q_i2l X dX10_setBond_2 ?_
  refine q_lconst (v := 0) X dX10_setBond_3 (by decide) ?_
  refine q_ldc2 (v := 50000) X kw_8_74 dX10_setBond_4 ?_
  refine q_calli (q_runS X hK hZ zo [.long (Int32.toInt64 p0), .long (0 : Int64), .long (50000 : Int64)] [.ref (ad 30 1)] rfl rfl (Nat.le_of_ble_eq_true rfl) dX10_setBond_7 ⟨Nat.le_of_ble_eq_true rfl, Nat.le_of_ble_eq_true rfl⟩ (c_X10_in ax (Int32.toInt64 p0) (0 : Int64) (50000 : Int64) mm _ h) rfl rfl (gS kw_7_71 kw_7_72 kw_1_11 kw_7_73) hy_X10_in.2 ⟨Nat.le_of_ble_eq_true rfl, Nat.le_of_ble_eq_true rfl⟩) (fun r_1 m_2 h => ?_)
  obtain ⟨h, hm⟩ := h
  subst hm
  refine q_if_ne (tgt := 17) X dX10_setBond_10 (by decide) (fun c_3 => ?_) (fun c_3 => ?_)
  · have h := h.1 c_3
    refine q_iload_n (j := 1) X dX10_setBond_17 rfl rfl ?_
    refine q_aload_n (j := 0) X dX10_setBond_18 rfl rfl ?_
    refine q_calli (q_runV X hK hZ zo (gm (t := 30) (by decide) (ok1 (t := 30) (Nat.le_of_ble_eq_true rfl))) rfl rfl [] [.int p0, .ref (ad 30 1)] rfl rfl (Nat.le_of_ble_eq_true rfl) dX10_setBond_19 ⟨Nat.le_of_ble_eq_true rfl, Nat.le_of_ble_eq_true rfl⟩ (c_X10_stake ax mm _ h) rfl rfl (gV kw_7_99 kw_7_101 ks_89 kw_1_11 kw_7_102) hy_X10_stake ⟨Nat.le_of_ble_eq_true rfl, Nat.le_of_ble_eq_true rfl⟩) (fun r_4 m_5 h => ?_)
    obtain ⟨h, hm⟩ := h
    subst hm
    refine q_icmp_ge (tgt := 29) X dX10_setBond_22 (by decide) (fun c_6 => ?_) (fun c_6 => ?_)
    · have h := h.1 c_6
      refine q_iconst (v := 0) X dX10_setBond_29 (by decide) ?_
      refine q_calli (q_runV X hK hZ zo (gm (t := 30) (by decide) (ok1 (t := 30) (Nat.le_of_ble_eq_true rfl))) rfl rfl [.int 0] [] rfl rfl (Nat.le_of_ble_eq_true rfl) dX10_setBond_30 ⟨Nat.le_of_ble_eq_true rfl, Nat.le_of_ble_eq_true rfl⟩ (c_X10_refused ax 0 mm _ h) rfl rfl (gV kw_7_126 kw_7_128 ks_95 kw_1_11 kw_7_129) hy_X10_refused ⟨Nat.le_of_ble_eq_true rfl, Nat.le_of_ble_eq_true rfl⟩) (fun r_7 m_8 h => ?_)
      refine q_if_eq (tgt := 40) X dX10_setBond_33 (by decide) (fun c_9 => ?_) (fun c_9 => ?_)
      · have h := h.1 c_9
        refine q_aload_n (j := 0) X dX10_setBond_40 rfl rfl ?_
        refine q_iconst (v := 5) X dX10_setBond_41 (by decide) ?_
        refine q_iload_n (j := 1) X dX10_setBond_42 rfl rfl ?_
        refine q_calli (q_runV X hK hZ zo (gm (t := 30) (by decide) (ok1 (t := 30) (Nat.le_of_ble_eq_true rfl))) rfl rfl [.int 5, .int p0] [] rfl rfl (Nat.le_of_ble_eq_true rfl) dX10_setBond_43 ⟨Nat.le_of_ble_eq_true rfl, Nat.le_of_ble_eq_true rfl⟩ (c_X10_set ax 5 p0 m_8 _ h) rfl rfl (gV kw_8_75 kw_8_77 ks_128 kw_1_11 kw_8_78) hy_X10_set ⟨Nat.le_of_ble_eq_true rfl, Nat.le_of_ble_eq_true rfl⟩) (fun r_10 m_11 h => ?_)
        exact hE _ _ _ _ dX10_setBond_46 h
      · have h := h.2 c_9
        refine q_iconst (v := 0) X dX10_setBond_36 (by decide) ?_
        refine q_goto (tgt := 46) X dX10_setBond_37 (by decide) ?_
        exact hE _ _ _ _ dX10_setBond_46 h
    · have h := h.2 c_6
      refine q_iconst (v := 2) X dX10_setBond_25 (by decide) ?_
      refine q_goto (tgt := 30) X dX10_setBond_26 (by decide) ?_
      refine q_calli (q_runV X hK hZ zo (gm (t := 30) (by decide) (ok1 (t := 30) (Nat.le_of_ble_eq_true rfl))) rfl rfl [.int 2] [] rfl rfl (Nat.le_of_ble_eq_true rfl) dX10_setBond_30 ⟨Nat.le_of_ble_eq_true rfl, Nat.le_of_ble_eq_true rfl⟩ (c_X10_refused ax 2 mm _ h) rfl rfl (gV kw_7_126 kw_7_128 ks_95 kw_1_11 kw_7_129) hy_X10_refused ⟨Nat.le_of_ble_eq_true rfl, Nat.le_of_ble_eq_true rfl⟩) (fun r_12 m_13 h => ?_)
      refine q_if_eq (tgt := 40) X dX10_setBond_33 (by decide) (fun c_14 => ?_) (fun c_14 => ?_)
      · have h := h.1 c_14
        refine q_aload_n (j := 0) X dX10_setBond_40 rfl rfl ?_
        refine q_iconst (v := 5) X dX10_setBond_41 (by decide) ?_
        refine q_iload_n (j := 1) X dX10_setBond_42 rfl rfl ?_
        refine q_calli (q_runV X hK hZ zo (gm (t := 30) (by decide) (ok1 (t := 30) (Nat.le_of_ble_eq_true rfl))) rfl rfl [.int 5, .int p0] [] rfl rfl (Nat.le_of_ble_eq_true rfl) dX10_setBond_43 ⟨Nat.le_of_ble_eq_true rfl, Nat.le_of_ble_eq_true rfl⟩ (c_X10_set ax 5 p0 m_13 _ h) rfl rfl (gV kw_8_75 kw_8_77 ks_128 kw_1_11 kw_8_78) hy_X10_set ⟨Nat.le_of_ble_eq_true rfl, Nat.le_of_ble_eq_true rfl⟩) (fun r_15 m_16 h => ?_)
        exact hE _ _ _ _ dX10_setBond_46 h
      · have h := h.2 c_14
        refine q_iconst (v := 0) X dX10_setBond_36 (by decide) ?_
        refine q_goto (tgt := 46) X dX10_setBond_37 (by decide) ?_
        exact hE _ _ _ _ dX10_setBond_46 h
  · have h := h.2 c_3
    refine q_iconst (v := 1) X dX10_setBond_13 (by decide) ?_
    refine q_goto (tgt := 30) X dX10_setBond_14 (by decide) ?_
    refine q_calli (q_runV X hK hZ zo (gm (t := 30) (by decide) (ok1 (t := 30) (Nat.le_of_ble_eq_true rfl))) rfl rfl [.int 1] [] rfl rfl (Nat.le_of_ble_eq_true rfl) dX10_setBond_30 ⟨Nat.le_of_ble_eq_true rfl, Nat.le_of_ble_eq_true rfl⟩ (c_X10_refused ax 1 mm _ h) rfl rfl (gV kw_7_126 kw_7_128 ks_95 kw_1_11 kw_7_129) hy_X10_refused ⟨Nat.le_of_ble_eq_true rfl, Nat.le_of_ble_eq_true rfl⟩) (fun r_17 m_18 h => ?_)
    refine q_if_eq (tgt := 40) X dX10_setBond_33 (by decide) (fun c_19 => ?_) (fun c_19 => ?_)
    · have h := h.1 c_19
      refine q_aload_n (j := 0) X dX10_setBond_40 rfl rfl ?_
      refine q_iconst (v := 5) X dX10_setBond_41 (by decide) ?_
      refine q_iload_n (j := 1) X dX10_setBond_42 rfl rfl ?_
      refine q_calli (q_runV X hK hZ zo (gm (t := 30) (by decide) (ok1 (t := 30) (Nat.le_of_ble_eq_true rfl))) rfl rfl [.int 5, .int p0] [] rfl rfl (Nat.le_of_ble_eq_true rfl) dX10_setBond_43 ⟨Nat.le_of_ble_eq_true rfl, Nat.le_of_ble_eq_true rfl⟩ (c_X10_set ax 5 p0 m_18 _ h) rfl rfl (gV kw_8_75 kw_8_77 ks_128 kw_1_11 kw_8_78) hy_X10_set ⟨Nat.le_of_ble_eq_true rfl, Nat.le_of_ble_eq_true rfl⟩) (fun r_20 m_21 h => ?_)
      exact hE _ _ _ _ dX10_setBond_46 h
    · have h := h.2 c_19
      refine q_iconst (v := 0) X dX10_setBond_36 (by decide) ?_
      refine q_goto (tgt := 46) X dX10_setBond_37 (by decide) ?_
      exact hE _ _ _ _ dX10_setBond_46 h
theorem dX10_setRateByValue_0 : decode cX10_setRateByValue 0 = .ok (.aload_n 0, 1) := by decide +kernel
theorem dX10_setRateByValue_1 : decode cX10_setRateByValue 1 = .ok (.iload_n 1, 1) := by decide +kernel
theorem dX10_setRateByValue_2 : decode cX10_setRateByValue 2 = .ok (.invokestatic 129, 3) := by decide +kernel
theorem dX10_setRateByValue_5 : decode cX10_setRateByValue 5 = .ok (.ifCond .eq 19, 3) := by decide +kernel
theorem dX10_setRateByValue_8 : decode cX10_setRateByValue 8 = .ok (.iload_n 2, 1) := by decide +kernel
theorem dX10_setRateByValue_9 : decode cX10_setRateByValue 9 = .ok (.i2l, 1) := by decide +kernel
theorem dX10_setRateByValue_10 : decode cX10_setRateByValue 10 = .ok (.lconst 0, 1) := by decide +kernel
theorem dX10_setRateByValue_11 : decode cX10_setRateByValue 11 = .ok (.ldc2_w 218, 3) := by decide +kernel
theorem dX10_setRateByValue_14 : decode cX10_setRateByValue 14 = .ok (.invokestatic 35, 3) := by decide +kernel
theorem dX10_setRateByValue_17 : decode cX10_setRateByValue 17 = .ok (.ifCond .eq 7, 3) := by decide +kernel
theorem dX10_setRateByValue_20 : decode cX10_setRateByValue 20 = .ok (.iconst 0, 1) := by decide +kernel
theorem dX10_setRateByValue_21 : decode cX10_setRateByValue 21 = .ok (.goto 4, 3) := by decide +kernel
theorem dX10_setRateByValue_24 : decode cX10_setRateByValue 24 = .ok (.iconst 1, 1) := by decide +kernel
theorem dX10_setRateByValue_25 : decode cX10_setRateByValue 25 = .ok (.invokevirtual 147, 3) := by decide +kernel
theorem dX10_setRateByValue_28 : decode cX10_setRateByValue 28 = .ok (.ifCond .eq 7, 3) := by decide +kernel
theorem dX10_setRateByValue_31 : decode cX10_setRateByValue 31 = .ok (.iconst 0, 1) := by decide +kernel
theorem dX10_setRateByValue_32 : decode cX10_setRateByValue 32 = .ok (.goto 12, 3) := by decide +kernel
theorem dX10_setRateByValue_35 : decode cX10_setRateByValue 35 = .ok (.aload_n 0, 1) := by decide +kernel
theorem dX10_setRateByValue_36 : decode cX10_setRateByValue 36 = .ok (.bipush 20, 2) := by decide +kernel
theorem dX10_setRateByValue_38 : decode cX10_setRateByValue 38 = .ok (.iload_n 1, 1) := by decide +kernel
theorem dX10_setRateByValue_39 : decode cX10_setRateByValue 39 = .ok (.iadd, 1) := by decide +kernel
theorem dX10_setRateByValue_40 : decode cX10_setRateByValue 40 = .ok (.iload_n 2, 1) := by decide +kernel
theorem dX10_setRateByValue_41 : decode cX10_setRateByValue 41 = .ok (.invokevirtual 215, 3) := by decide +kernel
theorem dX10_setRateByValue_44 : decode cX10_setRateByValue 44 = .ok (.ireturn, 1) := by decide +kernel
def w_X10_setRateByValue_J25 (p0 : Int32) (p1 : Int32) (mm : Mm) (Q9 : Int32 → Mm → Prop) (y_3 : Int32) : Prop :=
  w_X10_refused y_3 mm (fun (r_4 : Int32) (m_5 : Mm) => ((r_4 = 0 → w_X10_set (20 + p0) p1 m_5 (fun (r_7 : Int32) (m_8 : Mm) => Q9 r_7 m_8)) ∧
  (¬ r_4 = 0 → Q9 0 m_5)))
def w_X10_setRateByValue_J24 (p0 : Int32) (p1 : Int32) (mm : Mm) (Q9 : Int32 → Mm → Prop) : Prop :=
  w_X10_setRateByValue_J25 p0 p1 mm Q9 1
def w_X10_setRateByValue (p0 : Int32) (p1 : Int32) (mm : Mm) (Q9 : Int32 → Mm → Prop) : Prop :=
  w_X10_isKind p0 mm (fun (r_1 : Int32) => ((r_1 = 0 → w_X10_setRateByValue_J24 p0 p1 mm Q9) ∧
  (¬ r_1 = 0 → w_X10_in (Int32.toInt64 p1) (0 : Int64) (60 : Int64) mm (fun (r_10 : Int32) => ((r_10 = 0 → w_X10_setRateByValue_J24 p0 p1 mm Q9) ∧
  (¬ r_10 = 0 → w_X10_setRateByValue_J25 p0 p1 mm Q9 0))))))
def rm_X10_setRateByValue : Room := { frames := 3, cells := 0, slots := 0, locals := 68 }
theorem hy_X10_setRateByValue : yX10_setRateByValue.cls = RX10 ∧ yX10_setRateByValue.cls ≠ "java/lang/invoke/MethodHandle" ∧ yX10_setRateByValue.cls ≠ "java/lang/invoke/VarHandle" ∧ (parseMethodDescriptor yX10_setRateByValue.desc).map (fun d => d.parameters.length) = some 2 := by decide +kernel
set_option maxRecDepth 100000 in
set_option maxHeartbeats 4000000 in
theorem c_X10_setRateByValue {l : Launch} {D : va_G} {cA : Nat → ClassId} {ad : Nat → Nat → Nat} {A : Nat → Prop} (ax : Ax ad GM A) (p0 : Int32) (p1 : Int32) (mm : Mm) (Q9 : Int32 → Mm → Prop) (h : w_X10_setRateByValue p0 p1 mm Q9) : Met l yX10_setRateByValue (.code yX10_setRateByValue cX10_setRateByValue 3 (some .int) :: TG) rm_X10_setRateByValue (PcM TT D cA ad false GM (ZM) [.ref (ad 30 1), .int p0, .int p1] mm) (AnsI TT D cA ad false GM A Q9) 0 0 A := by
  have zo := ZM_ok A
  unfold w_X10_setRateByValue at h
  refine enterI pl_X10 ⟨rfl, rfl⟩ rfl (Nat.le_of_ble_eq_true rfl) ?_
  intro p e s m args below meth c QQ X hK hZ hnm hE
  refine q_aload_n (j := 0) X dX10_setRateByValue_0 rfl rfl ?_
  refine q_iload_n (j := 1) X dX10_setRateByValue_1 rfl rfl ?_
  refine q_calli (q_runS X hK hZ zo [.int p0] [.ref (ad 30 1)] rfl rfl (Nat.le_of_ble_eq_true rfl) dX10_setRateByValue_2 ⟨Nat.le_of_ble_eq_true rfl, Nat.le_of_ble_eq_true rfl⟩ (c_X10_isKind ax p0 mm _ h) rfl rfl (gS kw_7_67 kw_7_68 kw_1_11 kw_7_69) hy_X10_isKind.2 ⟨Nat.le_of_ble_eq_true rfl, Nat.le_of_ble_eq_true rfl⟩) (fun r_1 m_2 h => ?_)
  obtain ⟨h, hm⟩ := h
  subst hm
  have J25 : ∀ (y_3 : Int32), w_X10_setRateByValue_J25 p0 p1 mm Q9 y_3 → V p l e rm_X10_setRateByValue s m args below meth c QQ 3 A 0 0 (Rep TT D cA ad false GM mm) 25 [(0, .ref (ad 30 1)), (1, .int p0), (2, .int p1)] [.int y_3, .ref (ad 30 1)] := by
    intro y_3 h
    unfold w_X10_setRateByValue_J25 at h
    refine q_calli (q_runV X hK hZ zo (gm (t := 30) (by decide) (ok1 (t := 30) (Nat.le_of_ble_eq_true rfl))) rfl rfl [.int y_3] [] rfl rfl (Nat.le_of_ble_eq_true rfl) dX10_setRateByValue_25 ⟨Nat.le_of_ble_eq_true rfl, Nat.le_of_ble_eq_true rfl⟩ (c_X10_refused ax y_3 mm _ h) rfl rfl (gV kw_7_126 kw_7_128 ks_95 kw_1_11 kw_7_129) hy_X10_refused ⟨Nat.le_of_ble_eq_true rfl, Nat.le_of_ble_eq_true rfl⟩) (fun r_4 m_5 h => ?_)
    refine q_if_eq (tgt := 35) X dX10_setRateByValue_28 (by decide) (fun c_6 => ?_) (fun c_6 => ?_)
    · have h := h.1 c_6
      refine q_aload_n (j := 0) X dX10_setRateByValue_35 rfl rfl ?_
      refine q_bipush (v := 20) X dX10_setRateByValue_36 (by decide) ?_
      refine q_iload_n (j := 1) X dX10_setRateByValue_38 rfl rfl ?_
      refine q_iadd X dX10_setRateByValue_39 ?_
      refine q_iload_n (j := 2) X dX10_setRateByValue_40 rfl rfl ?_
      refine q_calli (q_runV X hK hZ zo (gm (t := 30) (by decide) (ok1 (t := 30) (Nat.le_of_ble_eq_true rfl))) rfl rfl [.int (20 + p0), .int p1] [] rfl rfl (Nat.le_of_ble_eq_true rfl) dX10_setRateByValue_41 ⟨Nat.le_of_ble_eq_true rfl, Nat.le_of_ble_eq_true rfl⟩ (c_X10_set ax (20 + p0) p1 m_5 _ h) rfl rfl (gV kw_8_75 kw_8_77 ks_128 kw_1_11 kw_8_78) hy_X10_set ⟨Nat.le_of_ble_eq_true rfl, Nat.le_of_ble_eq_true rfl⟩) (fun r_7 m_8 h => ?_)
      exact hE _ _ _ _ dX10_setRateByValue_44 h
    · have h := h.2 c_6
      refine q_iconst (v := 0) X dX10_setRateByValue_31 (by decide) ?_
      refine q_goto (tgt := 44) X dX10_setRateByValue_32 (by decide) ?_
      exact hE _ _ _ _ dX10_setRateByValue_44 h
  have J24 : w_X10_setRateByValue_J24 p0 p1 mm Q9  → V p l e rm_X10_setRateByValue s m args below meth c QQ 3 A 0 0 (Rep TT D cA ad false GM mm) 24 [(0, .ref (ad 30 1)), (1, .int p0), (2, .int p1)] [.ref (ad 30 1)] := by
    intro  h
    unfold w_X10_setRateByValue_J24 at h
    refine q_iconst (v := 1) X dX10_setRateByValue_24 (by decide) ?_
    refine q_sub [0, 1, 2] rfl ?_
    exact J25 1 h
  refine q_if_eq (tgt := 24) X dX10_setRateByValue_5 (by decide) (fun c_9 => ?_) (fun c_9 => ?_)
  · have h := h.1 c_9
    refine q_sub [0, 1, 2] rfl ?_
    exact J24  h
  · have h := h.2 c_9
    refine q_iload_n (j := 2) X dX10_setRateByValue_8 rfl rfl ?_
    refine q_i2l X dX10_setRateByValue_9 ?_
    refine q_lconst (v := 0) X dX10_setRateByValue_10 (by decide) ?_
    refine q_ldc2 (v := 60) X kw_8_83 dX10_setRateByValue_11 ?_
    refine q_calli (q_runS X hK hZ zo [.long (Int32.toInt64 p1), .long (0 : Int64), .long (60 : Int64)] [.ref (ad 30 1)] rfl rfl (Nat.le_of_ble_eq_true rfl) dX10_setRateByValue_14 ⟨Nat.le_of_ble_eq_true rfl, Nat.le_of_ble_eq_true rfl⟩ (c_X10_in ax (Int32.toInt64 p1) (0 : Int64) (60 : Int64) mm _ h) rfl rfl (gS kw_7_71 kw_7_72 kw_1_11 kw_7_73) hy_X10_in.2 ⟨Nat.le_of_ble_eq_true rfl, Nat.le_of_ble_eq_true rfl⟩) (fun r_10 m_11 h => ?_)
    obtain ⟨h, hm⟩ := h
    subst hm
    refine q_if_eq (tgt := 24) X dX10_setRateByValue_17 (by decide) (fun c_12 => ?_) (fun c_12 => ?_)
    · have h := h.1 c_12
      refine q_sub [0, 1, 2] rfl ?_
      exact J24  h
    · have h := h.2 c_12
      refine q_iconst (v := 0) X dX10_setRateByValue_20 (by decide) ?_
      refine q_goto (tgt := 25) X dX10_setRateByValue_21 (by decide) ?_
      refine q_sub [0, 1, 2] rfl ?_
      exact J25 0 h
theorem dX10_setRateByWeight_0 : decode cX10_setRateByWeight 0 = .ok (.aload_n 0, 1) := by decide +kernel
theorem dX10_setRateByWeight_1 : decode cX10_setRateByWeight 1 = .ok (.iload_n 1, 1) := by decide +kernel
theorem dX10_setRateByWeight_2 : decode cX10_setRateByWeight 2 = .ok (.invokestatic 129, 3) := by decide +kernel
theorem dX10_setRateByWeight_5 : decode cX10_setRateByWeight 5 = .ok (.ifCond .eq 19, 3) := by decide +kernel
theorem dX10_setRateByWeight_8 : decode cX10_setRateByWeight 8 = .ok (.iload_n 2, 1) := by decide +kernel
theorem dX10_setRateByWeight_9 : decode cX10_setRateByWeight 9 = .ok (.i2l, 1) := by decide +kernel
theorem dX10_setRateByWeight_10 : decode cX10_setRateByWeight 10 = .ok (.lconst 0, 1) := by decide +kernel
theorem dX10_setRateByWeight_11 : decode cX10_setRateByWeight 11 = .ok (.ldc2_w 220, 3) := by decide +kernel
theorem dX10_setRateByWeight_14 : decode cX10_setRateByWeight 14 = .ok (.invokestatic 35, 3) := by decide +kernel
theorem dX10_setRateByWeight_17 : decode cX10_setRateByWeight 17 = .ok (.ifCond .eq 7, 3) := by decide +kernel
theorem dX10_setRateByWeight_20 : decode cX10_setRateByWeight 20 = .ok (.iconst 0, 1) := by decide +kernel
theorem dX10_setRateByWeight_21 : decode cX10_setRateByWeight 21 = .ok (.goto 4, 3) := by decide +kernel
theorem dX10_setRateByWeight_24 : decode cX10_setRateByWeight 24 = .ok (.iconst 1, 1) := by decide +kernel
theorem dX10_setRateByWeight_25 : decode cX10_setRateByWeight 25 = .ok (.invokevirtual 147, 3) := by decide +kernel
theorem dX10_setRateByWeight_28 : decode cX10_setRateByWeight 28 = .ok (.ifCond .eq 7, 3) := by decide +kernel
theorem dX10_setRateByWeight_31 : decode cX10_setRateByWeight 31 = .ok (.iconst 0, 1) := by decide +kernel
theorem dX10_setRateByWeight_32 : decode cX10_setRateByWeight 32 = .ok (.goto 12, 3) := by decide +kernel
theorem dX10_setRateByWeight_35 : decode cX10_setRateByWeight 35 = .ok (.aload_n 0, 1) := by decide +kernel
theorem dX10_setRateByWeight_36 : decode cX10_setRateByWeight 36 = .ok (.bipush 26, 2) := by decide +kernel
theorem dX10_setRateByWeight_38 : decode cX10_setRateByWeight 38 = .ok (.iload_n 1, 1) := by decide +kernel
theorem dX10_setRateByWeight_39 : decode cX10_setRateByWeight 39 = .ok (.iadd, 1) := by decide +kernel
theorem dX10_setRateByWeight_40 : decode cX10_setRateByWeight 40 = .ok (.iload_n 2, 1) := by decide +kernel
theorem dX10_setRateByWeight_41 : decode cX10_setRateByWeight 41 = .ok (.invokevirtual 215, 3) := by decide +kernel
theorem dX10_setRateByWeight_44 : decode cX10_setRateByWeight 44 = .ok (.ireturn, 1) := by decide +kernel
def w_X10_setRateByWeight_J25 (p0 : Int32) (p1 : Int32) (mm : Mm) (Q9 : Int32 → Mm → Prop) (y_3 : Int32) : Prop :=
  w_X10_refused y_3 mm (fun (r_4 : Int32) (m_5 : Mm) => ((r_4 = 0 → w_X10_set (26 + p0) p1 m_5 (fun (r_7 : Int32) (m_8 : Mm) => Q9 r_7 m_8)) ∧
  (¬ r_4 = 0 → Q9 0 m_5)))
def w_X10_setRateByWeight_J24 (p0 : Int32) (p1 : Int32) (mm : Mm) (Q9 : Int32 → Mm → Prop) : Prop :=
  w_X10_setRateByWeight_J25 p0 p1 mm Q9 1
def w_X10_setRateByWeight (p0 : Int32) (p1 : Int32) (mm : Mm) (Q9 : Int32 → Mm → Prop) : Prop :=
  w_X10_isKind p0 mm (fun (r_1 : Int32) => ((r_1 = 0 → w_X10_setRateByWeight_J24 p0 p1 mm Q9) ∧
  (¬ r_1 = 0 → w_X10_in (Int32.toInt64 p1) (0 : Int64) (80 : Int64) mm (fun (r_10 : Int32) => ((r_10 = 0 → w_X10_setRateByWeight_J24 p0 p1 mm Q9) ∧
  (¬ r_10 = 0 → w_X10_setRateByWeight_J25 p0 p1 mm Q9 0))))))
def rm_X10_setRateByWeight : Room := { frames := 3, cells := 0, slots := 0, locals := 68 }
theorem hy_X10_setRateByWeight : yX10_setRateByWeight.cls = RX10 ∧ yX10_setRateByWeight.cls ≠ "java/lang/invoke/MethodHandle" ∧ yX10_setRateByWeight.cls ≠ "java/lang/invoke/VarHandle" ∧ (parseMethodDescriptor yX10_setRateByWeight.desc).map (fun d => d.parameters.length) = some 2 := by decide +kernel
set_option maxRecDepth 100000 in
set_option maxHeartbeats 4000000 in
theorem c_X10_setRateByWeight {l : Launch} {D : va_G} {cA : Nat → ClassId} {ad : Nat → Nat → Nat} {A : Nat → Prop} (ax : Ax ad GM A) (p0 : Int32) (p1 : Int32) (mm : Mm) (Q9 : Int32 → Mm → Prop) (h : w_X10_setRateByWeight p0 p1 mm Q9) : Met l yX10_setRateByWeight (.code yX10_setRateByWeight cX10_setRateByWeight 3 (some .int) :: TG) rm_X10_setRateByWeight (PcM TT D cA ad false GM (ZM) [.ref (ad 30 1), .int p0, .int p1] mm) (AnsI TT D cA ad false GM A Q9) 0 0 A := by
  have zo := ZM_ok A
  unfold w_X10_setRateByWeight at h
  refine enterI pl_X10 ⟨rfl, rfl⟩ rfl (Nat.le_of_ble_eq_true rfl) ?_
  intro p e s m args below meth c QQ X hK hZ hnm hE
  refine q_aload_n (j := 0) X dX10_setRateByWeight_0 rfl rfl ?_
  refine q_iload_n (j := 1) X dX10_setRateByWeight_1 rfl rfl ?_
  refine q_calli (q_runS X hK hZ zo [.int p0] [.ref (ad 30 1)] rfl rfl (Nat.le_of_ble_eq_true rfl) dX10_setRateByWeight_2 ⟨Nat.le_of_ble_eq_true rfl, Nat.le_of_ble_eq_true rfl⟩ (c_X10_isKind ax p0 mm _ h) rfl rfl (gS kw_7_67 kw_7_68 kw_1_11 kw_7_69) hy_X10_isKind.2 ⟨Nat.le_of_ble_eq_true rfl, Nat.le_of_ble_eq_true rfl⟩) (fun r_1 m_2 h => ?_)
  obtain ⟨h, hm⟩ := h
  subst hm
  have J25 : ∀ (y_3 : Int32), w_X10_setRateByWeight_J25 p0 p1 mm Q9 y_3 → V p l e rm_X10_setRateByWeight s m args below meth c QQ 3 A 0 0 (Rep TT D cA ad false GM mm) 25 [(0, .ref (ad 30 1)), (1, .int p0), (2, .int p1)] [.int y_3, .ref (ad 30 1)] := by
    intro y_3 h
    unfold w_X10_setRateByWeight_J25 at h
    refine q_calli (q_runV X hK hZ zo (gm (t := 30) (by decide) (ok1 (t := 30) (Nat.le_of_ble_eq_true rfl))) rfl rfl [.int y_3] [] rfl rfl (Nat.le_of_ble_eq_true rfl) dX10_setRateByWeight_25 ⟨Nat.le_of_ble_eq_true rfl, Nat.le_of_ble_eq_true rfl⟩ (c_X10_refused ax y_3 mm _ h) rfl rfl (gV kw_7_126 kw_7_128 ks_95 kw_1_11 kw_7_129) hy_X10_refused ⟨Nat.le_of_ble_eq_true rfl, Nat.le_of_ble_eq_true rfl⟩) (fun r_4 m_5 h => ?_)
    refine q_if_eq (tgt := 35) X dX10_setRateByWeight_28 (by decide) (fun c_6 => ?_) (fun c_6 => ?_)
    · have h := h.1 c_6
      refine q_aload_n (j := 0) X dX10_setRateByWeight_35 rfl rfl ?_
      refine q_bipush (v := 26) X dX10_setRateByWeight_36 (by decide) ?_
      refine q_iload_n (j := 1) X dX10_setRateByWeight_38 rfl rfl ?_
      refine q_iadd X dX10_setRateByWeight_39 ?_
      refine q_iload_n (j := 2) X dX10_setRateByWeight_40 rfl rfl ?_
      refine q_calli (q_runV X hK hZ zo (gm (t := 30) (by decide) (ok1 (t := 30) (Nat.le_of_ble_eq_true rfl))) rfl rfl [.int (26 + p0), .int p1] [] rfl rfl (Nat.le_of_ble_eq_true rfl) dX10_setRateByWeight_41 ⟨Nat.le_of_ble_eq_true rfl, Nat.le_of_ble_eq_true rfl⟩ (c_X10_set ax (26 + p0) p1 m_5 _ h) rfl rfl (gV kw_8_75 kw_8_77 ks_128 kw_1_11 kw_8_78) hy_X10_set ⟨Nat.le_of_ble_eq_true rfl, Nat.le_of_ble_eq_true rfl⟩) (fun r_7 m_8 h => ?_)
      exact hE _ _ _ _ dX10_setRateByWeight_44 h
    · have h := h.2 c_6
      refine q_iconst (v := 0) X dX10_setRateByWeight_31 (by decide) ?_
      refine q_goto (tgt := 44) X dX10_setRateByWeight_32 (by decide) ?_
      exact hE _ _ _ _ dX10_setRateByWeight_44 h
  have J24 : w_X10_setRateByWeight_J24 p0 p1 mm Q9  → V p l e rm_X10_setRateByWeight s m args below meth c QQ 3 A 0 0 (Rep TT D cA ad false GM mm) 24 [(0, .ref (ad 30 1)), (1, .int p0), (2, .int p1)] [.ref (ad 30 1)] := by
    intro  h
    unfold w_X10_setRateByWeight_J24 at h
    refine q_iconst (v := 1) X dX10_setRateByWeight_24 (by decide) ?_
    refine q_sub [0, 1, 2] rfl ?_
    exact J25 1 h
  refine q_if_eq (tgt := 24) X dX10_setRateByWeight_5 (by decide) (fun c_9 => ?_) (fun c_9 => ?_)
  · have h := h.1 c_9
    refine q_sub [0, 1, 2] rfl ?_
    exact J24  h
  · have h := h.2 c_9
    refine q_iload_n (j := 2) X dX10_setRateByWeight_8 rfl rfl ?_
    refine q_i2l X dX10_setRateByWeight_9 ?_
    refine q_lconst (v := 0) X dX10_setRateByWeight_10 (by decide) ?_
    refine q_ldc2 (v := 80) X kw_8_88 dX10_setRateByWeight_11 ?_
    refine q_calli (q_runS X hK hZ zo [.long (Int32.toInt64 p1), .long (0 : Int64), .long (80 : Int64)] [.ref (ad 30 1)] rfl rfl (Nat.le_of_ble_eq_true rfl) dX10_setRateByWeight_14 ⟨Nat.le_of_ble_eq_true rfl, Nat.le_of_ble_eq_true rfl⟩ (c_X10_in ax (Int32.toInt64 p1) (0 : Int64) (80 : Int64) mm _ h) rfl rfl (gS kw_7_71 kw_7_72 kw_1_11 kw_7_73) hy_X10_in.2 ⟨Nat.le_of_ble_eq_true rfl, Nat.le_of_ble_eq_true rfl⟩) (fun r_10 m_11 h => ?_)
    obtain ⟨h, hm⟩ := h
    subst hm
    refine q_if_eq (tgt := 24) X dX10_setRateByWeight_17 (by decide) (fun c_12 => ?_) (fun c_12 => ?_)
    · have h := h.1 c_12
      refine q_sub [0, 1, 2] rfl ?_
      exact J24  h
    · have h := h.2 c_12
      refine q_iconst (v := 0) X dX10_setRateByWeight_20 (by decide) ?_
      refine q_goto (tgt := 25) X dX10_setRateByWeight_21 (by decide) ?_
      refine q_sub [0, 1, 2] rfl ?_
      exact J25 0 h
theorem dX10_pass_0 : decode cX10_pass 0 = .ok (.aload_n 0, 1) := by decide +kernel
theorem dX10_pass_1 : decode cX10_pass 1 = .ok (.iload_n 1, 1) := by decide +kernel
theorem dX10_pass_2 : decode cX10_pass 2 = .ok (.i2l, 1) := by decide +kernel
theorem dX10_pass_3 : decode cX10_pass 3 = .ok (.lconst 1, 1) := by decide +kernel
theorem dX10_pass_4 : decode cX10_pass 4 = .ok (.ldc2_w 222, 3) := by decide +kernel
theorem dX10_pass_7 : decode cX10_pass 7 = .ok (.invokestatic 35, 3) := by decide +kernel
theorem dX10_pass_10 : decode cX10_pass 10 = .ok (.ifCond .ne 7, 3) := by decide +kernel
theorem dX10_pass_13 : decode cX10_pass 13 = .ok (.iconst 1, 1) := by decide +kernel
theorem dX10_pass_14 : decode cX10_pass 14 = .ok (.goto 22, 3) := by decide +kernel
theorem dX10_pass_17 : decode cX10_pass 17 = .ok (.aload_n 0, 1) := by decide +kernel
theorem dX10_pass_18 : decode cX10_pass 18 = .ok (.getfield 13, 3) := by decide +kernel
theorem dX10_pass_21 : decode cX10_pass 21 = .ok (.iconst 0, 1) := by decide +kernel
theorem dX10_pass_22 : decode cX10_pass 22 = .ok (.iaload, 1) := by decide +kernel
theorem dX10_pass_23 : decode cX10_pass 23 = .ok (.iload_n 1, 1) := by decide +kernel
theorem dX10_pass_24 : decode cX10_pass 24 = .ok (.iadd, 1) := by decide +kernel
theorem dX10_pass_25 : decode cX10_pass 25 = .ok (.sipush 9999, 3) := by decide +kernel
theorem dX10_pass_28 : decode cX10_pass 28 = .ok (.if_icmp .le 7, 3) := by decide +kernel
theorem dX10_pass_31 : decode cX10_pass 31 = .ok (.iconst 2, 1) := by decide +kernel
theorem dX10_pass_32 : decode cX10_pass 32 = .ok (.goto 4, 3) := by decide +kernel
theorem dX10_pass_35 : decode cX10_pass 35 = .ok (.iconst 0, 1) := by decide +kernel
theorem dX10_pass_36 : decode cX10_pass 36 = .ok (.invokevirtual 147, 3) := by decide +kernel
theorem dX10_pass_39 : decode cX10_pass 39 = .ok (.ifCond .eq 5, 3) := by decide +kernel
theorem dX10_pass_42 : decode cX10_pass 42 = .ok (.iconst 0, 1) := by decide +kernel
theorem dX10_pass_43 : decode cX10_pass 43 = .ok (.ireturn, 1) := by decide +kernel
theorem dX10_pass_44 : decode cX10_pass 44 = .ok (.aload_n 0, 1) := by decide +kernel
theorem dX10_pass_45 : decode cX10_pass 45 = .ok (.invokevirtual 150, 3) := by decide +kernel
theorem dX10_pass_48 : decode cX10_pass 48 = .ok (.aload_n 0, 1) := by decide +kernel
theorem dX10_pass_49 : decode cX10_pass 49 = .ok (.iload_n 1, 1) := by decide +kernel
theorem dX10_pass_50 : decode cX10_pass 50 = .ok (.invokevirtual 224, 3) := by decide +kernel
theorem dX10_pass_53 : decode cX10_pass 53 = .ok (.ireturn, 1) := by decide +kernel
def w_X10_pass (p0 : Int32) (mm : Mm) (Q9 : Int32 → Mm → Prop) : Prop :=
  w_X10_in (Int32.toInt64 p0) (1 : Int64) (100 : Int64) mm (fun (r_1 : Int32) => ((¬ r_1 = 0 → ((((mm.1 32 1 0) + p0) ≤ 9999 → w_X10_refused 0 mm (fun (r_5 : Int32) (m_6 : Mm) => ((r_5 = 0 → w_X10_saves m_6 (fun (m_9 : Mm) => w_X10_passOn p0 m_9 (fun (r_10 : Int32) (m_11 : Mm) => Q9 r_10 m_11))) ∧
  (¬ r_5 = 0 → Q9 0 m_6)))) ∧
  (¬ ((mm.1 32 1 0) + p0) ≤ 9999 → w_X10_refused 2 mm (fun (r_12 : Int32) (m_13 : Mm) => ((r_12 = 0 → w_X10_saves m_13 (fun (m_16 : Mm) => w_X10_passOn p0 m_16 (fun (r_17 : Int32) (m_18 : Mm) => Q9 r_17 m_18))) ∧
  (¬ r_12 = 0 → Q9 0 m_13)))))) ∧
  (r_1 = 0 → w_X10_refused 1 mm (fun (r_19 : Int32) (m_20 : Mm) => ((r_19 = 0 → w_X10_saves m_20 (fun (m_23 : Mm) => w_X10_passOn p0 m_23 (fun (r_24 : Int32) (m_25 : Mm) => Q9 r_24 m_25))) ∧
  (¬ r_19 = 0 → Q9 0 m_20))))))
def rm_X10_pass : Room := { frames := 3, cells := 0, slots := 0, locals := 66 }
theorem hy_X10_pass : yX10_pass.cls = RX10 ∧ yX10_pass.cls ≠ "java/lang/invoke/MethodHandle" ∧ yX10_pass.cls ≠ "java/lang/invoke/VarHandle" ∧ (parseMethodDescriptor yX10_pass.desc).map (fun d => d.parameters.length) = some 1 := by decide +kernel
set_option maxRecDepth 100000 in
set_option maxHeartbeats 4000000 in
theorem c_X10_pass {l : Launch} {D : va_G} {cA : Nat → ClassId} {ad : Nat → Nat → Nat} {A : Nat → Prop} (ax : Ax ad GM A) (p0 : Int32) (mm : Mm) (Q9 : Int32 → Mm → Prop) (h : w_X10_pass p0 mm Q9) : Met l yX10_pass (.code yX10_pass cX10_pass 2 (some .int) :: TG) rm_X10_pass (PcM TT D cA ad false GM (ZM) [.ref (ad 30 1), .int p0] mm) (AnsI TT D cA ad false GM A Q9) 0 0 A := by
  have zo := ZM_ok A
  unfold w_X10_pass at h
  refine enterI pl_X10 ⟨rfl, rfl⟩ rfl (Nat.le_of_ble_eq_true rfl) ?_
  intro p e s m args below meth c QQ X hK hZ hnm hE
  refine q_aload_n (j := 0) X dX10_pass_0 rfl rfl ?_
  refine q_iload_n (j := 1) X dX10_pass_1 rfl rfl ?_
  refine q_i2l X dX10_pass_2 ?_
  refine q_lconst (v := 1) X dX10_pass_3 (by decide) ?_
  refine q_ldc2 (v := 100) X kw_8_93 dX10_pass_4 ?_
  refine q_calli (q_runS X hK hZ zo [.long (Int32.toInt64 p0), .long (1 : Int64), .long (100 : Int64)] [.ref (ad 30 1)] rfl rfl (Nat.le_of_ble_eq_true rfl) dX10_pass_7 ⟨Nat.le_of_ble_eq_true rfl, Nat.le_of_ble_eq_true rfl⟩ (c_X10_in ax (Int32.toInt64 p0) (1 : Int64) (100 : Int64) mm _ h) rfl rfl (gS kw_7_71 kw_7_72 kw_1_11 kw_7_73) hy_X10_in.2 ⟨Nat.le_of_ble_eq_true rfl, Nat.le_of_ble_eq_true rfl⟩) (fun r_1 m_2 h => ?_)
  obtain ⟨h, hm⟩ := h
  subst hm
  refine q_if_ne (tgt := 17) X dX10_pass_10 (by decide) (fun c_3 => ?_) (fun c_3 => ?_)
  · have h := h.1 c_3
    refine q_aload_n (j := 0) X dX10_pass_17 rfl rfl ?_
    refine q_get (k := 3) (v := .ref (ad 32 1)) X hK rfl rfl (Nat.le_of_ble_eq_true rfl) inTX10 (gm (t := 30) (by decide) (ok1 (t := 30) (Nat.le_of_ble_eq_true rfl))) kw_7_10 rfl (rv_nn (a := ad 32) (r := 1) (ok1 (t := 32) (Nat.le_of_ble_eq_true rfl)).1) dX10_pass_18 ?_
    refine q_iconst (v := 0) X dX10_pass_21 (by decide) ?_
    refine q_iald (t := 32) (i := 1) (jn := 0) (v := .int (mm.1 32 1 0)) X hK rfl rfl (gm (t := 32) (by decide) (ok1 (t := 32) (Nat.le_of_ble_eq_true rfl))) rfl (vpl (by decide +kernel)) (by decide +kernel) rfl dX10_pass_22 ?_
    refine q_iload_n (j := 1) X dX10_pass_23 rfl rfl ?_
    refine q_iadd X dX10_pass_24 ?_
    refine q_sipush (v := 9999) X dX10_pass_25 (by decide) ?_
    refine q_icmp_le (tgt := 35) X dX10_pass_28 (by decide) (fun c_4 => ?_) (fun c_4 => ?_)
    · have h := h.1 c_4
      refine q_iconst (v := 0) X dX10_pass_35 (by decide) ?_
      refine q_calli (q_runV X hK hZ zo (gm (t := 30) (by decide) (ok1 (t := 30) (Nat.le_of_ble_eq_true rfl))) rfl rfl [.int 0] [] rfl rfl (Nat.le_of_ble_eq_true rfl) dX10_pass_36 ⟨Nat.le_of_ble_eq_true rfl, Nat.le_of_ble_eq_true rfl⟩ (c_X10_refused ax 0 mm _ h) rfl rfl (gV kw_7_126 kw_7_128 ks_95 kw_1_11 kw_7_129) hy_X10_refused ⟨Nat.le_of_ble_eq_true rfl, Nat.le_of_ble_eq_true rfl⟩) (fun r_5 m_6 h => ?_)
      refine q_if_eq (tgt := 44) X dX10_pass_39 (by decide) (fun c_7 => ?_) (fun c_7 => ?_)
      · have h := h.1 c_7
        refine q_aload_n (j := 0) X dX10_pass_44 rfl rfl ?_
        refine q_callv (q_runV X hK hZ zo (gm (t := 30) (by decide) (ok1 (t := 30) (Nat.le_of_ble_eq_true rfl))) rfl rfl [] [] rfl rfl (Nat.le_of_ble_eq_true rfl) dX10_pass_45 ⟨Nat.le_of_ble_eq_true rfl, Nat.le_of_ble_eq_true rfl⟩ (c_X10_saves ax m_6 _ h) rfl rfl (gV kw_7_130 kw_7_132 ks_96 kw_1_11 kw_7_133) hy_X10_saves ⟨Nat.le_of_ble_eq_true rfl, Nat.le_of_ble_eq_true rfl⟩) (fun m_9 h => ?_)
        refine q_aload_n (j := 0) X dX10_pass_48 rfl rfl ?_
        refine q_iload_n (j := 1) X dX10_pass_49 rfl rfl ?_
        refine q_calli (q_runV X hK hZ zo (gm (t := 30) (by decide) (ok1 (t := 30) (Nat.le_of_ble_eq_true rfl))) rfl rfl [.int p0] [] rfl rfl (Nat.le_of_ble_eq_true rfl) dX10_pass_50 ⟨Nat.le_of_ble_eq_true rfl, Nat.le_of_ble_eq_true rfl⟩ (c_X10_passOn ax p0 m_9 _ h) rfl rfl (gV kw_8_94 kw_8_96 ks_129 kw_1_11 kw_8_97) hy_X10_passOn ⟨Nat.le_of_ble_eq_true rfl, Nat.le_of_ble_eq_true rfl⟩) (fun r_10 m_11 h => ?_)
        exact hE _ _ _ _ dX10_pass_53 h
      · have h := h.2 c_7
        refine q_iconst (v := 0) X dX10_pass_42 (by decide) ?_
        exact hE _ _ _ _ dX10_pass_43 h
    · have h := h.2 c_4
      refine q_iconst (v := 2) X dX10_pass_31 (by decide) ?_
      refine q_goto (tgt := 36) X dX10_pass_32 (by decide) ?_
      refine q_calli (q_runV X hK hZ zo (gm (t := 30) (by decide) (ok1 (t := 30) (Nat.le_of_ble_eq_true rfl))) rfl rfl [.int 2] [] rfl rfl (Nat.le_of_ble_eq_true rfl) dX10_pass_36 ⟨Nat.le_of_ble_eq_true rfl, Nat.le_of_ble_eq_true rfl⟩ (c_X10_refused ax 2 mm _ h) rfl rfl (gV kw_7_126 kw_7_128 ks_95 kw_1_11 kw_7_129) hy_X10_refused ⟨Nat.le_of_ble_eq_true rfl, Nat.le_of_ble_eq_true rfl⟩) (fun r_12 m_13 h => ?_)
      refine q_if_eq (tgt := 44) X dX10_pass_39 (by decide) (fun c_14 => ?_) (fun c_14 => ?_)
      · have h := h.1 c_14
        refine q_aload_n (j := 0) X dX10_pass_44 rfl rfl ?_
        refine q_callv (q_runV X hK hZ zo (gm (t := 30) (by decide) (ok1 (t := 30) (Nat.le_of_ble_eq_true rfl))) rfl rfl [] [] rfl rfl (Nat.le_of_ble_eq_true rfl) dX10_pass_45 ⟨Nat.le_of_ble_eq_true rfl, Nat.le_of_ble_eq_true rfl⟩ (c_X10_saves ax m_13 _ h) rfl rfl (gV kw_7_130 kw_7_132 ks_96 kw_1_11 kw_7_133) hy_X10_saves ⟨Nat.le_of_ble_eq_true rfl, Nat.le_of_ble_eq_true rfl⟩) (fun m_16 h => ?_)
        refine q_aload_n (j := 0) X dX10_pass_48 rfl rfl ?_
        refine q_iload_n (j := 1) X dX10_pass_49 rfl rfl ?_
        refine q_calli (q_runV X hK hZ zo (gm (t := 30) (by decide) (ok1 (t := 30) (Nat.le_of_ble_eq_true rfl))) rfl rfl [.int p0] [] rfl rfl (Nat.le_of_ble_eq_true rfl) dX10_pass_50 ⟨Nat.le_of_ble_eq_true rfl, Nat.le_of_ble_eq_true rfl⟩ (c_X10_passOn ax p0 m_16 _ h) rfl rfl (gV kw_8_94 kw_8_96 ks_129 kw_1_11 kw_8_97) hy_X10_passOn ⟨Nat.le_of_ble_eq_true rfl, Nat.le_of_ble_eq_true rfl⟩) (fun r_17 m_18 h => ?_)
        exact hE _ _ _ _ dX10_pass_53 h
      · have h := h.2 c_14
        refine q_iconst (v := 0) X dX10_pass_42 (by decide) ?_
        exact hE _ _ _ _ dX10_pass_43 h
  · have h := h.2 c_3
    refine q_iconst (v := 1) X dX10_pass_13 (by decide) ?_
    refine q_goto (tgt := 36) X dX10_pass_14 (by decide) ?_
    refine q_calli (q_runV X hK hZ zo (gm (t := 30) (by decide) (ok1 (t := 30) (Nat.le_of_ble_eq_true rfl))) rfl rfl [.int 1] [] rfl rfl (Nat.le_of_ble_eq_true rfl) dX10_pass_36 ⟨Nat.le_of_ble_eq_true rfl, Nat.le_of_ble_eq_true rfl⟩ (c_X10_refused ax 1 mm _ h) rfl rfl (gV kw_7_126 kw_7_128 ks_95 kw_1_11 kw_7_129) hy_X10_refused ⟨Nat.le_of_ble_eq_true rfl, Nat.le_of_ble_eq_true rfl⟩) (fun r_19 m_20 h => ?_)
    refine q_if_eq (tgt := 44) X dX10_pass_39 (by decide) (fun c_21 => ?_) (fun c_21 => ?_)
    · have h := h.1 c_21
      refine q_aload_n (j := 0) X dX10_pass_44 rfl rfl ?_
      refine q_callv (q_runV X hK hZ zo (gm (t := 30) (by decide) (ok1 (t := 30) (Nat.le_of_ble_eq_true rfl))) rfl rfl [] [] rfl rfl (Nat.le_of_ble_eq_true rfl) dX10_pass_45 ⟨Nat.le_of_ble_eq_true rfl, Nat.le_of_ble_eq_true rfl⟩ (c_X10_saves ax m_20 _ h) rfl rfl (gV kw_7_130 kw_7_132 ks_96 kw_1_11 kw_7_133) hy_X10_saves ⟨Nat.le_of_ble_eq_true rfl, Nat.le_of_ble_eq_true rfl⟩) (fun m_23 h => ?_)
      refine q_aload_n (j := 0) X dX10_pass_48 rfl rfl ?_
      refine q_iload_n (j := 1) X dX10_pass_49 rfl rfl ?_
      refine q_calli (q_runV X hK hZ zo (gm (t := 30) (by decide) (ok1 (t := 30) (Nat.le_of_ble_eq_true rfl))) rfl rfl [.int p0] [] rfl rfl (Nat.le_of_ble_eq_true rfl) dX10_pass_50 ⟨Nat.le_of_ble_eq_true rfl, Nat.le_of_ble_eq_true rfl⟩ (c_X10_passOn ax p0 m_23 _ h) rfl rfl (gV kw_8_94 kw_8_96 ks_129 kw_1_11 kw_8_97) hy_X10_passOn ⟨Nat.le_of_ble_eq_true rfl, Nat.le_of_ble_eq_true rfl⟩) (fun r_24 m_25 h => ?_)
      exact hE _ _ _ _ dX10_pass_53 h
    · have h := h.2 c_21
      refine q_iconst (v := 0) X dX10_pass_42 (by decide) ?_
      exact hE _ _ _ _ dX10_pass_43 h
theorem dX10_told_0 : decode cX10_told 0 = .ok (.aload_n 0, 1) := by decide +kernel
theorem dX10_told_1 : decode cX10_told 1 = .ok (.iconst 0, 1) := by decide +kernel
theorem dX10_told_2 : decode cX10_told 2 = .ok (.putfield 29, 3) := by decide +kernel
theorem dX10_told_5 : decode cX10_told 5 = .ok (.iload_n 1, 1) := by decide +kernel
theorem dX10_told_6 : decode cX10_told 6 = .ok (.ireturn, 1) := by decide +kernel
def w_X10_told (p0 : Int32) (mm : Mm) (Q9 : Int32 → Mm → Prop) : Prop :=
  ∀ m_1 : Mm, m_1 = sI mm 30 1 0 0 → (Q9 p0 m_1)
def rm_X10_told : Room := { frames := 0, cells := 0, slots := 0, locals := 0 }
theorem hy_X10_told : yX10_told.cls = RX10 ∧ yX10_told.cls ≠ "java/lang/invoke/MethodHandle" ∧ yX10_told.cls ≠ "java/lang/invoke/VarHandle" ∧ (parseMethodDescriptor yX10_told.desc).map (fun d => d.parameters.length) = some 1 := by decide +kernel
set_option maxRecDepth 100000 in
set_option maxHeartbeats 4000000 in
theorem c_X10_told {l : Launch} {D : va_G} {cA : Nat → ClassId} {ad : Nat → Nat → Nat} {A : Nat → Prop} (ax : Ax ad GM A) (p0 : Int32) (mm : Mm) (Q9 : Int32 → Mm → Prop) (h : w_X10_told p0 mm Q9) : Met l yX10_told (.code yX10_told cX10_told 2 (some .int) :: TG) rm_X10_told (PcM TT D cA ad false GM (ZM) [.ref (ad 30 1), .int p0] mm) (AnsI TT D cA ad false GM A Q9) 0 0 A := by
  have zo := ZM_ok A
  unfold w_X10_told at h
  refine enterI pl_X10 ⟨rfl, rfl⟩ rfl (Nat.le_of_ble_eq_true rfl) ?_
  intro p e s m args below meth c QQ X hK hZ hnm hE
  refine q_aload_n (j := 0) X dX10_told_0 rfl rfl ?_
  refine q_iconst (v := 0) X dX10_told_1 (by decide) ?_
  refine q_putI (k := 0) X ax hK rfl rfl (Nat.le_of_ble_eq_true rfl) inTX10 (gm (t := 30) (by decide) (ok1 (t := 30) (Nat.le_of_ble_eq_true rfl))) tyX10 tyX10_ok nmX10 kw_7_7 rfl rfl (tyX10_ok 0 (Nat.le_of_ble_eq_true rfl)) rfl dX10_told_2 ?_
  refine q_nmP (fun m_1 em_1 => ?_)
  have h := h m_1 em_1
  refine q_iload_n (j := 1) X dX10_told_5 rfl rfl ?_
  exact hE _ _ _ _ dX10_told_6 h
theorem dX10_day_0 : decode cX10_day 0 = .ok (.aload_n 0, 1) := by decide +kernel
theorem dX10_day_1 : decode cX10_day 1 = .ok (.aload_n 0, 1) := by decide +kernel
theorem dX10_day_2 : decode cX10_day 2 = .ok (.getfield 13, 3) := by decide +kernel
theorem dX10_day_5 : decode cX10_day 5 = .ok (.iconst 0, 1) := by decide +kernel
theorem dX10_day_6 : decode cX10_day 6 = .ok (.iaload, 1) := by decide +kernel
theorem dX10_day_7 : decode cX10_day 7 = .ok (.invokevirtual 227, 3) := by decide +kernel
theorem dX10_day_10 : decode cX10_day 10 = .ok (.ireturn, 1) := by decide +kernel
def w_X10_day  (mm : Mm) (Q9 : Int32 → Mm → Prop) : Prop :=
  w_X10_told (mm.1 32 1 0) mm (fun (r_1 : Int32) (m_2 : Mm) => Q9 r_1 m_2)
def rm_X10_day : Room := { frames := 1, cells := 0, slots := 0, locals := 21 }
theorem hy_X10_day : yX10_day.cls = RX10 ∧ yX10_day.cls ≠ "java/lang/invoke/MethodHandle" ∧ yX10_day.cls ≠ "java/lang/invoke/VarHandle" ∧ (parseMethodDescriptor yX10_day.desc).map (fun d => d.parameters.length) = some 0 := by decide +kernel
set_option maxRecDepth 100000 in
set_option maxHeartbeats 4000000 in
theorem c_X10_day {l : Launch} {D : va_G} {cA : Nat → ClassId} {ad : Nat → Nat → Nat} {A : Nat → Prop} (ax : Ax ad GM A)  (mm : Mm) (Q9 : Int32 → Mm → Prop) (h : w_X10_day mm Q9) : Met l yX10_day (.code yX10_day cX10_day 1 (some .int) :: TG) rm_X10_day (PcM TT D cA ad false GM (ZM) [.ref (ad 30 1)] mm) (AnsI TT D cA ad false GM A Q9) 0 0 A := by
  have zo := ZM_ok A
  unfold w_X10_day at h
  refine enterI pl_X10 ⟨rfl, rfl⟩ rfl (Nat.le_of_ble_eq_true rfl) ?_
  intro p e s m args below meth c QQ X hK hZ hnm hE
  refine q_aload_n (j := 0) X dX10_day_0 rfl rfl ?_
  refine q_aload_n (j := 0) X dX10_day_1 rfl rfl ?_
  refine q_get (k := 3) (v := .ref (ad 32 1)) X hK rfl rfl (Nat.le_of_ble_eq_true rfl) inTX10 (gm (t := 30) (by decide) (ok1 (t := 30) (Nat.le_of_ble_eq_true rfl))) kw_7_10 rfl (rv_nn (a := ad 32) (r := 1) (ok1 (t := 32) (Nat.le_of_ble_eq_true rfl)).1) dX10_day_2 ?_
  refine q_iconst (v := 0) X dX10_day_5 (by decide) ?_
  refine q_iald (t := 32) (i := 1) (jn := 0) (v := .int (mm.1 32 1 0)) X hK rfl rfl (gm (t := 32) (by decide) (ok1 (t := 32) (Nat.le_of_ble_eq_true rfl))) rfl (vpl (by decide +kernel)) (by decide +kernel) rfl dX10_day_6 ?_
  refine q_calli (q_runV X hK hZ zo (gm (t := 30) (by decide) (ok1 (t := 30) (Nat.le_of_ble_eq_true rfl))) rfl rfl [.int (mm.1 32 1 0)] [] rfl rfl (Nat.le_of_ble_eq_true rfl) dX10_day_7 ⟨Nat.le_of_ble_eq_true rfl, Nat.le_of_ble_eq_true rfl⟩ (c_X10_told ax (mm.1 32 1 0) mm _ h) rfl rfl (gV kw_8_102 kw_8_104 ks_130 kw_1_11 kw_8_105) hy_X10_told ⟨Nat.le_of_ble_eq_true rfl, Nat.le_of_ble_eq_true rfl⟩) (fun r_1 m_2 h => ?_)
  exact hE _ _ _ _ dX10_day_10 h
theorem dX10_entries_0 : decode cX10_entries 0 = .ok (.aload_n 0, 1) := by decide +kernel
theorem dX10_entries_1 : decode cX10_entries 1 = .ok (.aload_n 0, 1) := by decide +kernel
theorem dX10_entries_2 : decode cX10_entries 2 = .ok (.getfield 13, 3) := by decide +kernel
theorem dX10_entries_5 : decode cX10_entries 5 = .ok (.bipush 117, 2) := by decide +kernel
theorem dX10_entries_7 : decode cX10_entries 7 = .ok (.iaload, 1) := by decide +kernel
theorem dX10_entries_8 : decode cX10_entries 8 = .ok (.invokevirtual 227, 3) := by decide +kernel
theorem dX10_entries_11 : decode cX10_entries 11 = .ok (.ireturn, 1) := by decide +kernel
def w_X10_entries  (mm : Mm) (Q9 : Int32 → Mm → Prop) : Prop :=
  w_X10_told (mm.1 32 1 117) mm (fun (r_1 : Int32) (m_2 : Mm) => Q9 r_1 m_2)
def rm_X10_entries : Room := { frames := 1, cells := 0, slots := 0, locals := 21 }
theorem hy_X10_entries : yX10_entries.cls = RX10 ∧ yX10_entries.cls ≠ "java/lang/invoke/MethodHandle" ∧ yX10_entries.cls ≠ "java/lang/invoke/VarHandle" ∧ (parseMethodDescriptor yX10_entries.desc).map (fun d => d.parameters.length) = some 0 := by decide +kernel
set_option maxRecDepth 100000 in
set_option maxHeartbeats 4000000 in
theorem c_X10_entries {l : Launch} {D : va_G} {cA : Nat → ClassId} {ad : Nat → Nat → Nat} {A : Nat → Prop} (ax : Ax ad GM A)  (mm : Mm) (Q9 : Int32 → Mm → Prop) (h : w_X10_entries mm Q9) : Met l yX10_entries (.code yX10_entries cX10_entries 1 (some .int) :: TG) rm_X10_entries (PcM TT D cA ad false GM (ZM) [.ref (ad 30 1)] mm) (AnsI TT D cA ad false GM A Q9) 0 0 A := by
  have zo := ZM_ok A
  unfold w_X10_entries at h
  refine enterI pl_X10 ⟨rfl, rfl⟩ rfl (Nat.le_of_ble_eq_true rfl) ?_
  intro p e s m args below meth c QQ X hK hZ hnm hE
  refine q_aload_n (j := 0) X dX10_entries_0 rfl rfl ?_
  refine q_aload_n (j := 0) X dX10_entries_1 rfl rfl ?_
  refine q_get (k := 3) (v := .ref (ad 32 1)) X hK rfl rfl (Nat.le_of_ble_eq_true rfl) inTX10 (gm (t := 30) (by decide) (ok1 (t := 30) (Nat.le_of_ble_eq_true rfl))) kw_7_10 rfl (rv_nn (a := ad 32) (r := 1) (ok1 (t := 32) (Nat.le_of_ble_eq_true rfl)).1) dX10_entries_2 ?_
  refine q_bipush (v := 117) X dX10_entries_5 (by decide) ?_
  refine q_iald (t := 32) (i := 1) (jn := 117) (v := .int (mm.1 32 1 117)) X hK rfl rfl (gm (t := 32) (by decide) (ok1 (t := 32) (Nat.le_of_ble_eq_true rfl))) rfl (vpl (by decide +kernel)) (by decide +kernel) rfl dX10_entries_7 ?_
  refine q_calli (q_runV X hK hZ zo (gm (t := 30) (by decide) (ok1 (t := 30) (Nat.le_of_ble_eq_true rfl))) rfl rfl [.int (mm.1 32 1 117)] [] rfl rfl (Nat.le_of_ble_eq_true rfl) dX10_entries_8 ⟨Nat.le_of_ble_eq_true rfl, Nat.le_of_ble_eq_true rfl⟩ (c_X10_told ax (mm.1 32 1 117) mm _ h) rfl rfl (gV kw_8_102 kw_8_104 ks_130 kw_1_11 kw_8_105) hy_X10_told ⟨Nat.le_of_ble_eq_true rfl, Nat.le_of_ble_eq_true rfl⟩) (fun r_1 m_2 h => ?_)
  exact hE _ _ _ _ dX10_entries_11 h
theorem dX10_entriesMade_0 : decode cX10_entriesMade 0 = .ok (.aload_n 0, 1) := by decide +kernel
theorem dX10_entriesMade_1 : decode cX10_entriesMade 1 = .ok (.aload_n 0, 1) := by decide +kernel
theorem dX10_entriesMade_2 : decode cX10_entriesMade 2 = .ok (.getfield 13, 3) := by decide +kernel
theorem dX10_entriesMade_5 : decode cX10_entriesMade 5 = .ok (.iconst 1, 1) := by decide +kernel
theorem dX10_entriesMade_6 : decode cX10_entriesMade 6 = .ok (.iaload, 1) := by decide +kernel
theorem dX10_entriesMade_7 : decode cX10_entriesMade 7 = .ok (.invokevirtual 227, 3) := by decide +kernel
theorem dX10_entriesMade_10 : decode cX10_entriesMade 10 = .ok (.ireturn, 1) := by decide +kernel
def w_X10_entriesMade  (mm : Mm) (Q9 : Int32 → Mm → Prop) : Prop :=
  w_X10_told (mm.1 32 1 1) mm (fun (r_1 : Int32) (m_2 : Mm) => Q9 r_1 m_2)
def rm_X10_entriesMade : Room := { frames := 1, cells := 0, slots := 0, locals := 21 }
theorem hy_X10_entriesMade : yX10_entriesMade.cls = RX10 ∧ yX10_entriesMade.cls ≠ "java/lang/invoke/MethodHandle" ∧ yX10_entriesMade.cls ≠ "java/lang/invoke/VarHandle" ∧ (parseMethodDescriptor yX10_entriesMade.desc).map (fun d => d.parameters.length) = some 0 := by decide +kernel
set_option maxRecDepth 100000 in
set_option maxHeartbeats 4000000 in
theorem c_X10_entriesMade {l : Launch} {D : va_G} {cA : Nat → ClassId} {ad : Nat → Nat → Nat} {A : Nat → Prop} (ax : Ax ad GM A)  (mm : Mm) (Q9 : Int32 → Mm → Prop) (h : w_X10_entriesMade mm Q9) : Met l yX10_entriesMade (.code yX10_entriesMade cX10_entriesMade 1 (some .int) :: TG) rm_X10_entriesMade (PcM TT D cA ad false GM (ZM) [.ref (ad 30 1)] mm) (AnsI TT D cA ad false GM A Q9) 0 0 A := by
  have zo := ZM_ok A
  unfold w_X10_entriesMade at h
  refine enterI pl_X10 ⟨rfl, rfl⟩ rfl (Nat.le_of_ble_eq_true rfl) ?_
  intro p e s m args below meth c QQ X hK hZ hnm hE
  refine q_aload_n (j := 0) X dX10_entriesMade_0 rfl rfl ?_
  refine q_aload_n (j := 0) X dX10_entriesMade_1 rfl rfl ?_
  refine q_get (k := 3) (v := .ref (ad 32 1)) X hK rfl rfl (Nat.le_of_ble_eq_true rfl) inTX10 (gm (t := 30) (by decide) (ok1 (t := 30) (Nat.le_of_ble_eq_true rfl))) kw_7_10 rfl (rv_nn (a := ad 32) (r := 1) (ok1 (t := 32) (Nat.le_of_ble_eq_true rfl)).1) dX10_entriesMade_2 ?_
  refine q_iconst (v := 1) X dX10_entriesMade_5 (by decide) ?_
  refine q_iald (t := 32) (i := 1) (jn := 1) (v := .int (mm.1 32 1 1)) X hK rfl rfl (gm (t := 32) (by decide) (ok1 (t := 32) (Nat.le_of_ble_eq_true rfl))) rfl (vpl (by decide +kernel)) (by decide +kernel) rfl dX10_entriesMade_6 ?_
  refine q_calli (q_runV X hK hZ zo (gm (t := 30) (by decide) (ok1 (t := 30) (Nat.le_of_ble_eq_true rfl))) rfl rfl [.int (mm.1 32 1 1)] [] rfl rfl (Nat.le_of_ble_eq_true rfl) dX10_entriesMade_7 ⟨Nat.le_of_ble_eq_true rfl, Nat.le_of_ble_eq_true rfl⟩ (c_X10_told ax (mm.1 32 1 1) mm _ h) rfl rfl (gV kw_8_102 kw_8_104 ks_130 kw_1_11 kw_8_105) hy_X10_told ⟨Nat.le_of_ble_eq_true rfl, Nat.le_of_ble_eq_true rfl⟩) (fun r_1 m_2 h => ?_)
  exact hE _ _ _ _ dX10_entriesMade_10 h
theorem dX10_isOpenEntry_0 : decode cX10_isOpenEntry 0 = .ok (.aload_n 0, 1) := by decide +kernel
theorem dX10_isOpenEntry_1 : decode cX10_isOpenEntry 1 = .ok (.iconst 0, 1) := by decide +kernel
theorem dX10_isOpenEntry_2 : decode cX10_isOpenEntry 2 = .ok (.putfield 29, 3) := by decide +kernel
theorem dX10_isOpenEntry_5 : decode cX10_isOpenEntry 5 = .ok (.aload_n 0, 1) := by decide +kernel
theorem dX10_isOpenEntry_6 : decode cX10_isOpenEntry 6 = .ok (.iload_n 1, 1) := by decide +kernel
theorem dX10_isOpenEntry_7 : decode cX10_isOpenEntry 7 = .ok (.invokevirtual 156, 3) := by decide +kernel
theorem dX10_isOpenEntry_10 : decode cX10_isOpenEntry 10 = .ok (.iconst (-1), 1) := by decide +kernel
theorem dX10_isOpenEntry_11 : decode cX10_isOpenEntry 11 = .ok (.if_icmp .eq 7, 3) := by decide +kernel
theorem dX10_isOpenEntry_14 : decode cX10_isOpenEntry 14 = .ok (.iconst 1, 1) := by decide +kernel
theorem dX10_isOpenEntry_15 : decode cX10_isOpenEntry 15 = .ok (.goto 4, 3) := by decide +kernel
theorem dX10_isOpenEntry_18 : decode cX10_isOpenEntry 18 = .ok (.iconst 0, 1) := by decide +kernel
theorem dX10_isOpenEntry_19 : decode cX10_isOpenEntry 19 = .ok (.ireturn, 1) := by decide +kernel
def w_X10_isOpenEntry (p0 : Int32) (mm : Mm) (Q9 : Int32 → Mm → Prop) : Prop :=
  ∀ m_1 : Mm, m_1 = sI mm 30 1 0 0 → (w_X10_find p0 m_1 (fun (r_2 : Int32) => ((r_2 = (-1) → Q9 0 m_1) ∧
  (¬ r_2 = (-1) → Q9 1 m_1))))
def rm_X10_isOpenEntry : Room := { frames := 2, cells := 0, slots := 0, locals := 44 }
theorem hy_X10_isOpenEntry : yX10_isOpenEntry.cls = RX10 ∧ yX10_isOpenEntry.cls ≠ "java/lang/invoke/MethodHandle" ∧ yX10_isOpenEntry.cls ≠ "java/lang/invoke/VarHandle" ∧ (parseMethodDescriptor yX10_isOpenEntry.desc).map (fun d => d.parameters.length) = some 1 := by decide +kernel
set_option maxRecDepth 100000 in
set_option maxHeartbeats 4000000 in
theorem c_X10_isOpenEntry {l : Launch} {D : va_G} {cA : Nat → ClassId} {ad : Nat → Nat → Nat} {A : Nat → Prop} (ax : Ax ad GM A) (p0 : Int32) (mm : Mm) (Q9 : Int32 → Mm → Prop) (h : w_X10_isOpenEntry p0 mm Q9) : Met l yX10_isOpenEntry (.code yX10_isOpenEntry cX10_isOpenEntry 2 (some .boolean) :: TG) rm_X10_isOpenEntry (PcM TT D cA ad false GM (ZM) [.ref (ad 30 1), .int p0] mm) (AnsI TT D cA ad false GM A Q9) 0 0 A := by
  have zo := ZM_ok A
  unfold w_X10_isOpenEntry at h
  refine enterZ pl_X10 ⟨rfl, rfl⟩ rfl (Nat.le_of_ble_eq_true rfl) ?_
  intro p e s m args below meth c QQ X hK hZ hnm hE
  refine q_aload_n (j := 0) X dX10_isOpenEntry_0 rfl rfl ?_
  refine q_iconst (v := 0) X dX10_isOpenEntry_1 (by decide) ?_
  refine q_putI (k := 0) X ax hK rfl rfl (Nat.le_of_ble_eq_true rfl) inTX10 (gm (t := 30) (by decide) (ok1 (t := 30) (Nat.le_of_ble_eq_true rfl))) tyX10 tyX10_ok nmX10 kw_7_7 rfl rfl (tyX10_ok 0 (Nat.le_of_ble_eq_true rfl)) rfl dX10_isOpenEntry_2 ?_
  refine q_nmP (fun m_1 em_1 => ?_)
  have h := h m_1 em_1
  refine q_aload_n (j := 0) X dX10_isOpenEntry_5 rfl rfl ?_
  refine q_iload_n (j := 1) X dX10_isOpenEntry_6 rfl rfl ?_
  refine q_calli (q_runV X hK hZ zo (gm (t := 30) (by decide) (ok1 (t := 30) (Nat.le_of_ble_eq_true rfl))) rfl rfl [.int p0] [] rfl rfl (Nat.le_of_ble_eq_true rfl) dX10_isOpenEntry_7 ⟨Nat.le_of_ble_eq_true rfl, Nat.le_of_ble_eq_true rfl⟩ (c_X10_find ax p0 m_1 _ h) rfl rfl (gV kw_7_157 kw_7_159 ks_101 kw_1_11 kw_7_160) hy_X10_find ⟨Nat.le_of_ble_eq_true rfl, Nat.le_of_ble_eq_true rfl⟩) (fun r_2 m_3 h => ?_)
  obtain ⟨h, hm⟩ := h
  subst hm
  refine q_iconst (v := (-1)) X dX10_isOpenEntry_10 (by decide) ?_
  refine q_icmp_eq (tgt := 18) X dX10_isOpenEntry_11 (by decide) (fun c_4 => ?_) (fun c_4 => ?_)
  · have h := h.1 c_4
    refine q_iconst (v := 0) X dX10_isOpenEntry_18 (by decide) ?_
    exact hE _ _ _ _ dX10_isOpenEntry_19 (Or.inl rfl) h
  · have h := h.2 c_4
    refine q_iconst (v := 1) X dX10_isOpenEntry_14 (by decide) ?_
    refine q_goto (tgt := 19) X dX10_isOpenEntry_15 (by decide) ?_
    exact hE _ _ _ _ dX10_isOpenEntry_19 (Or.inr rfl) h
theorem dX10_entryAt_0 : decode cX10_entryAt 0 = .ok (.aload_n 0, 1) := by decide +kernel
theorem dX10_entryAt_1 : decode cX10_entryAt 1 = .ok (.iload_n 1, 1) := by decide +kernel
theorem dX10_entryAt_2 : decode cX10_entryAt 2 = .ok (.i2l, 1) := by decide +kernel
theorem dX10_entryAt_3 : decode cX10_entryAt 3 = .ok (.lconst 0, 1) := by decide +kernel
theorem dX10_entryAt_4 : decode cX10_entryAt 4 = .ok (.aload_n 0, 1) := by decide +kernel
theorem dX10_entryAt_5 : decode cX10_entryAt 5 = .ok (.getfield 13, 3) := by decide +kernel
theorem dX10_entryAt_8 : decode cX10_entryAt 8 = .ok (.bipush 117, 2) := by decide +kernel
theorem dX10_entryAt_10 : decode cX10_entryAt 10 = .ok (.iaload, 1) := by decide +kernel
theorem dX10_entryAt_11 : decode cX10_entryAt 11 = .ok (.iconst 1, 1) := by decide +kernel
theorem dX10_entryAt_12 : decode cX10_entryAt 12 = .ok (.isub, 1) := by decide +kernel
theorem dX10_entryAt_13 : decode cX10_entryAt 13 = .ok (.i2l, 1) := by decide +kernel
theorem dX10_entryAt_14 : decode cX10_entryAt 14 = .ok (.invokestatic 35, 3) := by decide +kernel
theorem dX10_entryAt_17 : decode cX10_entryAt 17 = .ok (.ifCond .eq 7, 3) := by decide +kernel
theorem dX10_entryAt_20 : decode cX10_entryAt 20 = .ok (.iconst 0, 1) := by decide +kernel
theorem dX10_entryAt_21 : decode cX10_entryAt 21 = .ok (.goto 4, 3) := by decide +kernel
theorem dX10_entryAt_24 : decode cX10_entryAt 24 = .ok (.iconst 1, 1) := by decide +kernel
theorem dX10_entryAt_25 : decode cX10_entryAt 25 = .ok (.invokevirtual 147, 3) := by decide +kernel
theorem dX10_entryAt_28 : decode cX10_entryAt 28 = .ok (.ifCond .eq 7, 3) := by decide +kernel
theorem dX10_entryAt_31 : decode cX10_entryAt 31 = .ok (.iconst 0, 1) := by decide +kernel
theorem dX10_entryAt_32 : decode cX10_entryAt 32 = .ok (.goto 9, 3) := by decide +kernel
theorem dX10_entryAt_35 : decode cX10_entryAt 35 = .ok (.aload_n 0, 1) := by decide +kernel
theorem dX10_entryAt_36 : decode cX10_entryAt 36 = .ok (.iload_n 1, 1) := by decide +kernel
theorem dX10_entryAt_37 : decode cX10_entryAt 37 = .ok (.iconst 0, 1) := by decide +kernel
theorem dX10_entryAt_38 : decode cX10_entryAt 38 = .ok (.invokevirtual 41, 3) := by decide +kernel
theorem dX10_entryAt_41 : decode cX10_entryAt 41 = .ok (.ireturn, 1) := by decide +kernel
def w_X10_entryAt (p0 : Int32) (mm : Mm) (Q9 : Int32 → Mm → Prop) : Prop :=
  w_X10_in (Int32.toInt64 p0) (0 : Int64) (Int32.toInt64 ((mm.1 32 1 117) - 1)) mm (fun (r_1 : Int32) => ((r_1 = 0 → w_X10_refused 1 mm (fun (r_4 : Int32) (m_5 : Mm) => ((r_4 = 0 → w_X10_of p0 0 m_5 (fun (r_7 : Int32) => Q9 r_7 m_5)) ∧
  (¬ r_4 = 0 → Q9 0 m_5)))) ∧
  (¬ r_1 = 0 → w_X10_refused 0 mm (fun (r_9 : Int32) (m_10 : Mm) => ((r_9 = 0 → w_X10_of p0 0 m_10 (fun (r_12 : Int32) => Q9 r_12 m_10)) ∧
  (¬ r_9 = 0 → Q9 0 m_10))))))
def rm_X10_entryAt : Room := { frames := 1, cells := 0, slots := 0, locals := 25 }
theorem hy_X10_entryAt : yX10_entryAt.cls = RX10 ∧ yX10_entryAt.cls ≠ "java/lang/invoke/MethodHandle" ∧ yX10_entryAt.cls ≠ "java/lang/invoke/VarHandle" ∧ (parseMethodDescriptor yX10_entryAt.desc).map (fun d => d.parameters.length) = some 1 := by decide +kernel
set_option maxRecDepth 100000 in
set_option maxHeartbeats 4000000 in
theorem c_X10_entryAt {l : Launch} {D : va_G} {cA : Nat → ClassId} {ad : Nat → Nat → Nat} {A : Nat → Prop} (ax : Ax ad GM A) (p0 : Int32) (mm : Mm) (Q9 : Int32 → Mm → Prop) (h : w_X10_entryAt p0 mm Q9) : Met l yX10_entryAt (.code yX10_entryAt cX10_entryAt 2 (some .int) :: TG) rm_X10_entryAt (PcM TT D cA ad false GM (ZM) [.ref (ad 30 1), .int p0] mm) (AnsI TT D cA ad false GM A Q9) 0 0 A := by
  have zo := ZM_ok A
  unfold w_X10_entryAt at h
  refine enterI pl_X10 ⟨rfl, rfl⟩ rfl (Nat.le_of_ble_eq_true rfl) ?_
  intro p e s m args below meth c QQ X hK hZ hnm hE
  refine q_aload_n (j := 0) X dX10_entryAt_0 rfl rfl ?_
  refine q_iload_n (j := 1) X dX10_entryAt_1 rfl rfl ?_
  refine q_i2l X dX10_entryAt_2 ?_
  refine q_lconst (v := 0) X dX10_entryAt_3 (by decide) ?_
  refine q_aload_n (j := 0) X dX10_entryAt_4 rfl rfl ?_
  refine q_get (k := 3) (v := .ref (ad 32 1)) X hK rfl rfl (Nat.le_of_ble_eq_true rfl) inTX10 (gm (t := 30) (by decide) (ok1 (t := 30) (Nat.le_of_ble_eq_true rfl))) kw_7_10 rfl (rv_nn (a := ad 32) (r := 1) (ok1 (t := 32) (Nat.le_of_ble_eq_true rfl)).1) dX10_entryAt_5 ?_
  refine q_bipush (v := 117) X dX10_entryAt_8 (by decide) ?_
  refine q_iald (t := 32) (i := 1) (jn := 117) (v := .int (mm.1 32 1 117)) X hK rfl rfl (gm (t := 32) (by decide) (ok1 (t := 32) (Nat.le_of_ble_eq_true rfl))) rfl (vpl (by decide +kernel)) (by decide +kernel) rfl dX10_entryAt_10 ?_
  refine q_iconst (v := 1) X dX10_entryAt_11 (by decide) ?_
  refine q_isub X dX10_entryAt_12 ?_
  refine q_i2l X dX10_entryAt_13 ?_
  refine q_calli (q_runS X hK hZ zo [.long (Int32.toInt64 p0), .long (0 : Int64), .long (Int32.toInt64 ((mm.1 32 1 117) - 1))] [.ref (ad 30 1)] rfl rfl (Nat.le_of_ble_eq_true rfl) dX10_entryAt_14 ⟨Nat.le_of_ble_eq_true rfl, Nat.le_of_ble_eq_true rfl⟩ (c_X10_in ax (Int32.toInt64 p0) (0 : Int64) (Int32.toInt64 ((mm.1 32 1 117) - 1)) mm _ h) rfl rfl (gS kw_7_71 kw_7_72 kw_1_11 kw_7_73) hy_X10_in.2 ⟨Nat.le_of_ble_eq_true rfl, Nat.le_of_ble_eq_true rfl⟩) (fun r_1 m_2 h => ?_)
  obtain ⟨h, hm⟩ := h
  subst hm
  refine q_if_eq (tgt := 24) X dX10_entryAt_17 (by decide) (fun c_3 => ?_) (fun c_3 => ?_)
  · have h := h.1 c_3
    refine q_iconst (v := 1) X dX10_entryAt_24 (by decide) ?_
    refine q_calli (q_runV X hK hZ zo (gm (t := 30) (by decide) (ok1 (t := 30) (Nat.le_of_ble_eq_true rfl))) rfl rfl [.int 1] [] rfl rfl (Nat.le_of_ble_eq_true rfl) dX10_entryAt_25 ⟨Nat.le_of_ble_eq_true rfl, Nat.le_of_ble_eq_true rfl⟩ (c_X10_refused ax 1 mm _ h) rfl rfl (gV kw_7_126 kw_7_128 ks_95 kw_1_11 kw_7_129) hy_X10_refused ⟨Nat.le_of_ble_eq_true rfl, Nat.le_of_ble_eq_true rfl⟩) (fun r_4 m_5 h => ?_)
    refine q_if_eq (tgt := 35) X dX10_entryAt_28 (by decide) (fun c_6 => ?_) (fun c_6 => ?_)
    · have h := h.1 c_6
      refine q_aload_n (j := 0) X dX10_entryAt_35 rfl rfl ?_
      refine q_iload_n (j := 1) X dX10_entryAt_36 rfl rfl ?_
      refine q_iconst (v := 0) X dX10_entryAt_37 (by decide) ?_
      refine q_calli (q_runV X hK hZ zo (gm (t := 30) (by decide) (ok1 (t := 30) (Nat.le_of_ble_eq_true rfl))) rfl rfl [.int p0, .int 0] [] rfl rfl (Nat.le_of_ble_eq_true rfl) dX10_entryAt_38 ⟨Nat.le_of_ble_eq_true rfl, Nat.le_of_ble_eq_true rfl⟩ (c_X10_of ax p0 0 m_5 _ h) rfl rfl (gV kw_7_95 kw_7_97 ks_88 kw_1_11 kw_7_98) hy_X10_of ⟨Nat.le_of_ble_eq_true rfl, Nat.le_of_ble_eq_true rfl⟩) (fun r_7 m_8 h => ?_)
      obtain ⟨h, hm⟩ := h
      subst hm
      exact hE _ _ _ _ dX10_entryAt_41 h
    · have h := h.2 c_6
      refine q_iconst (v := 0) X dX10_entryAt_31 (by decide) ?_
      refine q_goto (tgt := 41) X dX10_entryAt_32 (by decide) ?_
      exact hE _ _ _ _ dX10_entryAt_41 h
  · have h := h.2 c_3
    refine q_iconst (v := 0) X dX10_entryAt_20 (by decide) ?_
    refine q_goto (tgt := 25) X dX10_entryAt_21 (by decide) ?_
    refine q_calli (q_runV X hK hZ zo (gm (t := 30) (by decide) (ok1 (t := 30) (Nat.le_of_ble_eq_true rfl))) rfl rfl [.int 0] [] rfl rfl (Nat.le_of_ble_eq_true rfl) dX10_entryAt_25 ⟨Nat.le_of_ble_eq_true rfl, Nat.le_of_ble_eq_true rfl⟩ (c_X10_refused ax 0 mm _ h) rfl rfl (gV kw_7_126 kw_7_128 ks_95 kw_1_11 kw_7_129) hy_X10_refused ⟨Nat.le_of_ble_eq_true rfl, Nat.le_of_ble_eq_true rfl⟩) (fun r_9 m_10 h => ?_)
    refine q_if_eq (tgt := 35) X dX10_entryAt_28 (by decide) (fun c_11 => ?_) (fun c_11 => ?_)
    · have h := h.1 c_11
      refine q_aload_n (j := 0) X dX10_entryAt_35 rfl rfl ?_
      refine q_iload_n (j := 1) X dX10_entryAt_36 rfl rfl ?_
      refine q_iconst (v := 0) X dX10_entryAt_37 (by decide) ?_
      refine q_calli (q_runV X hK hZ zo (gm (t := 30) (by decide) (ok1 (t := 30) (Nat.le_of_ble_eq_true rfl))) rfl rfl [.int p0, .int 0] [] rfl rfl (Nat.le_of_ble_eq_true rfl) dX10_entryAt_38 ⟨Nat.le_of_ble_eq_true rfl, Nat.le_of_ble_eq_true rfl⟩ (c_X10_of ax p0 0 m_10 _ h) rfl rfl (gV kw_7_95 kw_7_97 ks_88 kw_1_11 kw_7_98) hy_X10_of ⟨Nat.le_of_ble_eq_true rfl, Nat.le_of_ble_eq_true rfl⟩) (fun r_12 m_13 h => ?_)
      obtain ⟨h, hm⟩ := h
      subst hm
      exact hE _ _ _ _ dX10_entryAt_41 h
    · have h := h.2 c_11
      refine q_iconst (v := 0) X dX10_entryAt_31 (by decide) ?_
      refine q_goto (tgt := 41) X dX10_entryAt_32 (by decide) ?_
      exact hE _ _ _ _ dX10_entryAt_41 h
theorem dX10_tells_0 : decode cX10_tells 0 = .ok (.aload_n 0, 1) := by decide +kernel
theorem dX10_tells_1 : decode cX10_tells 1 = .ok (.iload_n 1, 1) := by decide +kernel
theorem dX10_tells_2 : decode cX10_tells 2 = .ok (.invokevirtual 156, 3) := by decide +kernel
theorem dX10_tells_5 : decode cX10_tells 5 = .ok (.istore_n 3, 1) := by decide +kernel
theorem dX10_tells_6 : decode cX10_tells 6 = .ok (.aload_n 0, 1) := by decide +kernel
theorem dX10_tells_7 : decode cX10_tells 7 = .ok (.iload_n 3, 1) := by decide +kernel
theorem dX10_tells_8 : decode cX10_tells 8 = .ok (.iconst (-1), 1) := by decide +kernel
theorem dX10_tells_9 : decode cX10_tells 9 = .ok (.if_icmp .ne 7, 3) := by decide +kernel
theorem dX10_tells_12 : decode cX10_tells 12 = .ok (.iconst 1, 1) := by decide +kernel
theorem dX10_tells_13 : decode cX10_tells 13 = .ok (.goto 4, 3) := by decide +kernel
theorem dX10_tells_16 : decode cX10_tells 16 = .ok (.iconst 0, 1) := by decide +kernel
theorem dX10_tells_17 : decode cX10_tells 17 = .ok (.invokevirtual 147, 3) := by decide +kernel
theorem dX10_tells_20 : decode cX10_tells 20 = .ok (.ifCond .eq 7, 3) := by decide +kernel
theorem dX10_tells_23 : decode cX10_tells 23 = .ok (.iconst 0, 1) := by decide +kernel
theorem dX10_tells_24 : decode cX10_tells 24 = .ok (.goto 9, 3) := by decide +kernel
theorem dX10_tells_27 : decode cX10_tells 27 = .ok (.aload_n 0, 1) := by decide +kernel
theorem dX10_tells_28 : decode cX10_tells 28 = .ok (.iload_n 3, 1) := by decide +kernel
theorem dX10_tells_29 : decode cX10_tells 29 = .ok (.iload_n 2, 1) := by decide +kernel
theorem dX10_tells_30 : decode cX10_tells 30 = .ok (.invokevirtual 41, 3) := by decide +kernel
theorem dX10_tells_33 : decode cX10_tells 33 = .ok (.ireturn, 1) := by decide +kernel
def w_X10_tells (p0 : Int32) (p1 : Int32) (mm : Mm) (Q9 : Int32 → Mm → Prop) : Prop :=
  w_X10_find p0 mm (fun (r_1 : Int32) => ((¬ r_1 = (-1) → w_X10_refused 0 mm (fun (r_4 : Int32) (m_5 : Mm) => ((r_4 = 0 → w_X10_of r_1 p1 m_5 (fun (r_7 : Int32) => Q9 r_7 m_5)) ∧
  (¬ r_4 = 0 → Q9 0 m_5)))) ∧
  (r_1 = (-1) → w_X10_refused 1 mm (fun (r_9 : Int32) (m_10 : Mm) => ((r_9 = 0 → w_X10_of r_1 p1 m_10 (fun (r_12 : Int32) => Q9 r_12 m_10)) ∧
  (¬ r_9 = 0 → Q9 0 m_10))))))
def rm_X10_tells : Room := { frames := 2, cells := 0, slots := 0, locals := 44 }
theorem hy_X10_tells : yX10_tells.cls = RX10 ∧ yX10_tells.cls ≠ "java/lang/invoke/MethodHandle" ∧ yX10_tells.cls ≠ "java/lang/invoke/VarHandle" ∧ (parseMethodDescriptor yX10_tells.desc).map (fun d => d.parameters.length) = some 2 := by decide +kernel
set_option maxRecDepth 100000 in
set_option maxHeartbeats 4000000 in
theorem c_X10_tells {l : Launch} {D : va_G} {cA : Nat → ClassId} {ad : Nat → Nat → Nat} {A : Nat → Prop} (ax : Ax ad GM A) (p0 : Int32) (p1 : Int32) (mm : Mm) (Q9 : Int32 → Mm → Prop) (h : w_X10_tells p0 p1 mm Q9) : Met l yX10_tells (.code yX10_tells cX10_tells 4 (some .int) :: TG) rm_X10_tells (PcM TT D cA ad false GM (ZM) [.ref (ad 30 1), .int p0, .int p1] mm) (AnsI TT D cA ad false GM A Q9) 0 0 A := by
  have zo := ZM_ok A
  unfold w_X10_tells at h
  refine enterI pl_X10 ⟨rfl, rfl⟩ rfl (Nat.le_of_ble_eq_true rfl) ?_
  intro p e s m args below meth c QQ X hK hZ hnm hE
  refine q_aload_n (j := 0) X dX10_tells_0 rfl rfl ?_
  refine q_iload_n (j := 1) X dX10_tells_1 rfl rfl ?_
  refine q_calli (q_runV X hK hZ zo (gm (t := 30) (by decide) (ok1 (t := 30) (Nat.le_of_ble_eq_true rfl))) rfl rfl [.int p0] [] rfl rfl (Nat.le_of_ble_eq_true rfl) dX10_tells_2 ⟨Nat.le_of_ble_eq_true rfl, Nat.le_of_ble_eq_true rfl⟩ (c_X10_find ax p0 mm _ h) rfl rfl (gV kw_7_157 kw_7_159 ks_101 kw_1_11 kw_7_160) hy_X10_find ⟨Nat.le_of_ble_eq_true rfl, Nat.le_of_ble_eq_true rfl⟩) (fun r_1 m_2 h => ?_)
  obtain ⟨h, hm⟩ := h
  subst hm
  refine q_istore_n (lv' := [(3, .int r_1), (0, .ref (ad 30 1)), (1, .int p0), (2, .int p1)]) X dX10_tells_5 rfl (by decide) rfl ?_
  refine q_aload_n (j := 1) X dX10_tells_6 rfl rfl ?_
  refine q_iload_n (j := 0) X dX10_tells_7 rfl rfl ?_
  refine q_iconst (v := (-1)) X dX10_tells_8 (by decide) ?_
  refine q_icmp_ne (tgt := 16) X dX10_tells_9 (by decide) (fun c_3 => ?_) (fun c_3 => ?_)
  · have h := h.1 c_3
    refine q_iconst (v := 0) X dX10_tells_16 (by decide) ?_
    refine q_calli (q_runV X hK hZ zo (gm (t := 30) (by decide) (ok1 (t := 30) (Nat.le_of_ble_eq_true rfl))) rfl rfl [.int 0] [] rfl rfl (Nat.le_of_ble_eq_true rfl) dX10_tells_17 ⟨Nat.le_of_ble_eq_true rfl, Nat.le_of_ble_eq_true rfl⟩ (c_X10_refused ax 0 mm _ h) rfl rfl (gV kw_7_126 kw_7_128 ks_95 kw_1_11 kw_7_129) hy_X10_refused ⟨Nat.le_of_ble_eq_true rfl, Nat.le_of_ble_eq_true rfl⟩) (fun r_4 m_5 h => ?_)
    refine q_if_eq (tgt := 27) X dX10_tells_20 (by decide) (fun c_6 => ?_) (fun c_6 => ?_)
    · have h := h.1 c_6
      refine q_aload_n (j := 1) X dX10_tells_27 rfl rfl ?_
      refine q_iload_n (j := 0) X dX10_tells_28 rfl rfl ?_
      refine q_iload_n (j := 3) X dX10_tells_29 rfl rfl ?_
      refine q_calli (q_runV X hK hZ zo (gm (t := 30) (by decide) (ok1 (t := 30) (Nat.le_of_ble_eq_true rfl))) rfl rfl [.int r_1, .int p1] [] rfl rfl (Nat.le_of_ble_eq_true rfl) dX10_tells_30 ⟨Nat.le_of_ble_eq_true rfl, Nat.le_of_ble_eq_true rfl⟩ (c_X10_of ax r_1 p1 m_5 _ h) rfl rfl (gV kw_7_95 kw_7_97 ks_88 kw_1_11 kw_7_98) hy_X10_of ⟨Nat.le_of_ble_eq_true rfl, Nat.le_of_ble_eq_true rfl⟩) (fun r_7 m_8 h => ?_)
      obtain ⟨h, hm⟩ := h
      subst hm
      exact hE _ _ _ _ dX10_tells_33 h
    · have h := h.2 c_6
      refine q_iconst (v := 0) X dX10_tells_23 (by decide) ?_
      refine q_goto (tgt := 33) X dX10_tells_24 (by decide) ?_
      exact hE _ _ _ _ dX10_tells_33 h
  · have h := h.2 c_3
    refine q_iconst (v := 1) X dX10_tells_12 (by decide) ?_
    refine q_goto (tgt := 17) X dX10_tells_13 (by decide) ?_
    refine q_calli (q_runV X hK hZ zo (gm (t := 30) (by decide) (ok1 (t := 30) (Nat.le_of_ble_eq_true rfl))) rfl rfl [.int 1] [] rfl rfl (Nat.le_of_ble_eq_true rfl) dX10_tells_17 ⟨Nat.le_of_ble_eq_true rfl, Nat.le_of_ble_eq_true rfl⟩ (c_X10_refused ax 1 mm _ h) rfl rfl (gV kw_7_126 kw_7_128 ks_95 kw_1_11 kw_7_129) hy_X10_refused ⟨Nat.le_of_ble_eq_true rfl, Nat.le_of_ble_eq_true rfl⟩) (fun r_9 m_10 h => ?_)
    refine q_if_eq (tgt := 27) X dX10_tells_20 (by decide) (fun c_11 => ?_) (fun c_11 => ?_)
    · have h := h.1 c_11
      refine q_aload_n (j := 1) X dX10_tells_27 rfl rfl ?_
      refine q_iload_n (j := 0) X dX10_tells_28 rfl rfl ?_
      refine q_iload_n (j := 3) X dX10_tells_29 rfl rfl ?_
      refine q_calli (q_runV X hK hZ zo (gm (t := 30) (by decide) (ok1 (t := 30) (Nat.le_of_ble_eq_true rfl))) rfl rfl [.int r_1, .int p1] [] rfl rfl (Nat.le_of_ble_eq_true rfl) dX10_tells_30 ⟨Nat.le_of_ble_eq_true rfl, Nat.le_of_ble_eq_true rfl⟩ (c_X10_of ax r_1 p1 m_10 _ h) rfl rfl (gV kw_7_95 kw_7_97 ks_88 kw_1_11 kw_7_98) hy_X10_of ⟨Nat.le_of_ble_eq_true rfl, Nat.le_of_ble_eq_true rfl⟩) (fun r_12 m_13 h => ?_)
      obtain ⟨h, hm⟩ := h
      subst hm
      exact hE _ _ _ _ dX10_tells_33 h
    · have h := h.2 c_11
      refine q_iconst (v := 0) X dX10_tells_23 (by decide) ?_
      refine q_goto (tgt := 33) X dX10_tells_24 (by decide) ?_
      exact hE _ _ _ _ dX10_tells_33 h
theorem dX10_kindOf_0 : decode cX10_kindOf 0 = .ok (.aload_n 0, 1) := by decide +kernel
theorem dX10_kindOf_1 : decode cX10_kindOf 1 = .ok (.iload_n 1, 1) := by decide +kernel
theorem dX10_kindOf_2 : decode cX10_kindOf 2 = .ok (.iconst 1, 1) := by decide +kernel
theorem dX10_kindOf_3 : decode cX10_kindOf 3 = .ok (.invokevirtual 230, 3) := by decide +kernel
theorem dX10_kindOf_6 : decode cX10_kindOf 6 = .ok (.ireturn, 1) := by decide +kernel
def w_X10_kindOf (p0 : Int32) (mm : Mm) (Q9 : Int32 → Mm → Prop) : Prop :=
  w_X10_tells p0 1 mm (fun (r_1 : Int32) (m_2 : Mm) => Q9 r_1 m_2)
def rm_X10_kindOf : Room := { frames := 3, cells := 0, slots := 0, locals := 67 }
theorem hy_X10_kindOf : yX10_kindOf.cls = RX10 ∧ yX10_kindOf.cls ≠ "java/lang/invoke/MethodHandle" ∧ yX10_kindOf.cls ≠ "java/lang/invoke/VarHandle" ∧ (parseMethodDescriptor yX10_kindOf.desc).map (fun d => d.parameters.length) = some 1 := by decide +kernel
set_option maxRecDepth 100000 in
set_option maxHeartbeats 4000000 in
theorem c_X10_kindOf {l : Launch} {D : va_G} {cA : Nat → ClassId} {ad : Nat → Nat → Nat} {A : Nat → Prop} (ax : Ax ad GM A) (p0 : Int32) (mm : Mm) (Q9 : Int32 → Mm → Prop) (h : w_X10_kindOf p0 mm Q9) : Met l yX10_kindOf (.code yX10_kindOf cX10_kindOf 2 (some .int) :: TG) rm_X10_kindOf (PcM TT D cA ad false GM (ZM) [.ref (ad 30 1), .int p0] mm) (AnsI TT D cA ad false GM A Q9) 0 0 A := by
  have zo := ZM_ok A
  unfold w_X10_kindOf at h
  refine enterI pl_X10 ⟨rfl, rfl⟩ rfl (Nat.le_of_ble_eq_true rfl) ?_
  intro p e s m args below meth c QQ X hK hZ hnm hE
  refine q_aload_n (j := 0) X dX10_kindOf_0 rfl rfl ?_
  refine q_iload_n (j := 1) X dX10_kindOf_1 rfl rfl ?_
  refine q_iconst (v := 1) X dX10_kindOf_2 (by decide) ?_
  refine q_calli (q_runV X hK hZ zo (gm (t := 30) (by decide) (ok1 (t := 30) (Nat.le_of_ble_eq_true rfl))) rfl rfl [.int p0, .int 1] [] rfl rfl (Nat.le_of_ble_eq_true rfl) dX10_kindOf_3 ⟨Nat.le_of_ble_eq_true rfl, Nat.le_of_ble_eq_true rfl⟩ (c_X10_tells ax p0 1 mm _ h) rfl rfl (gV kw_8_126 kw_8_128 ks_131 kw_1_11 kw_8_129) hy_X10_tells ⟨Nat.le_of_ble_eq_true rfl, Nat.le_of_ble_eq_true rfl⟩) (fun r_1 m_2 h => ?_)
  exact hE _ _ _ _ dX10_kindOf_6 h
theorem dX10_weightOf_0 : decode cX10_weightOf 0 = .ok (.aload_n 0, 1) := by decide +kernel
theorem dX10_weightOf_1 : decode cX10_weightOf 1 = .ok (.iload_n 1, 1) := by decide +kernel
theorem dX10_weightOf_2 : decode cX10_weightOf 2 = .ok (.iconst 2, 1) := by decide +kernel
theorem dX10_weightOf_3 : decode cX10_weightOf 3 = .ok (.invokevirtual 230, 3) := by decide +kernel
theorem dX10_weightOf_6 : decode cX10_weightOf 6 = .ok (.ireturn, 1) := by decide +kernel
def w_X10_weightOf (p0 : Int32) (mm : Mm) (Q9 : Int32 → Mm → Prop) : Prop :=
  w_X10_tells p0 2 mm (fun (r_1 : Int32) (m_2 : Mm) => Q9 r_1 m_2)
def rm_X10_weightOf : Room := { frames := 3, cells := 0, slots := 0, locals := 67 }
theorem hy_X10_weightOf : yX10_weightOf.cls = RX10 ∧ yX10_weightOf.cls ≠ "java/lang/invoke/MethodHandle" ∧ yX10_weightOf.cls ≠ "java/lang/invoke/VarHandle" ∧ (parseMethodDescriptor yX10_weightOf.desc).map (fun d => d.parameters.length) = some 1 := by decide +kernel
set_option maxRecDepth 100000 in
set_option maxHeartbeats 4000000 in
theorem c_X10_weightOf {l : Launch} {D : va_G} {cA : Nat → ClassId} {ad : Nat → Nat → Nat} {A : Nat → Prop} (ax : Ax ad GM A) (p0 : Int32) (mm : Mm) (Q9 : Int32 → Mm → Prop) (h : w_X10_weightOf p0 mm Q9) : Met l yX10_weightOf (.code yX10_weightOf cX10_weightOf 2 (some .int) :: TG) rm_X10_weightOf (PcM TT D cA ad false GM (ZM) [.ref (ad 30 1), .int p0] mm) (AnsI TT D cA ad false GM A Q9) 0 0 A := by
  have zo := ZM_ok A
  unfold w_X10_weightOf at h
  refine enterI pl_X10 ⟨rfl, rfl⟩ rfl (Nat.le_of_ble_eq_true rfl) ?_
  intro p e s m args below meth c QQ X hK hZ hnm hE
  refine q_aload_n (j := 0) X dX10_weightOf_0 rfl rfl ?_
  refine q_iload_n (j := 1) X dX10_weightOf_1 rfl rfl ?_
  refine q_iconst (v := 2) X dX10_weightOf_2 (by decide) ?_
  refine q_calli (q_runV X hK hZ zo (gm (t := 30) (by decide) (ok1 (t := 30) (Nat.le_of_ble_eq_true rfl))) rfl rfl [.int p0, .int 2] [] rfl rfl (Nat.le_of_ble_eq_true rfl) dX10_weightOf_3 ⟨Nat.le_of_ble_eq_true rfl, Nat.le_of_ble_eq_true rfl⟩ (c_X10_tells ax p0 2 mm _ h) rfl rfl (gV kw_8_126 kw_8_128 ks_131 kw_1_11 kw_8_129) hy_X10_tells ⟨Nat.le_of_ble_eq_true rfl, Nat.le_of_ble_eq_true rfl⟩) (fun r_1 m_2 h => ?_)
  exact hE _ _ _ _ dX10_weightOf_6 h
theorem dX10_valueOf_0 : decode cX10_valueOf 0 = .ok (.aload_n 0, 1) := by decide +kernel
theorem dX10_valueOf_1 : decode cX10_valueOf 1 = .ok (.iload_n 1, 1) := by decide +kernel
theorem dX10_valueOf_2 : decode cX10_valueOf 2 = .ok (.iconst 3, 1) := by decide +kernel
theorem dX10_valueOf_3 : decode cX10_valueOf 3 = .ok (.invokevirtual 230, 3) := by decide +kernel
theorem dX10_valueOf_6 : decode cX10_valueOf 6 = .ok (.ireturn, 1) := by decide +kernel
def w_X10_valueOf (p0 : Int32) (mm : Mm) (Q9 : Int32 → Mm → Prop) : Prop :=
  w_X10_tells p0 3 mm (fun (r_1 : Int32) (m_2 : Mm) => Q9 r_1 m_2)
def rm_X10_valueOf : Room := { frames := 3, cells := 0, slots := 0, locals := 67 }
theorem hy_X10_valueOf : yX10_valueOf.cls = RX10 ∧ yX10_valueOf.cls ≠ "java/lang/invoke/MethodHandle" ∧ yX10_valueOf.cls ≠ "java/lang/invoke/VarHandle" ∧ (parseMethodDescriptor yX10_valueOf.desc).map (fun d => d.parameters.length) = some 1 := by decide +kernel
set_option maxRecDepth 100000 in
set_option maxHeartbeats 4000000 in
theorem c_X10_valueOf {l : Launch} {D : va_G} {cA : Nat → ClassId} {ad : Nat → Nat → Nat} {A : Nat → Prop} (ax : Ax ad GM A) (p0 : Int32) (mm : Mm) (Q9 : Int32 → Mm → Prop) (h : w_X10_valueOf p0 mm Q9) : Met l yX10_valueOf (.code yX10_valueOf cX10_valueOf 2 (some .int) :: TG) rm_X10_valueOf (PcM TT D cA ad false GM (ZM) [.ref (ad 30 1), .int p0] mm) (AnsI TT D cA ad false GM A Q9) 0 0 A := by
  have zo := ZM_ok A
  unfold w_X10_valueOf at h
  refine enterI pl_X10 ⟨rfl, rfl⟩ rfl (Nat.le_of_ble_eq_true rfl) ?_
  intro p e s m args below meth c QQ X hK hZ hnm hE
  refine q_aload_n (j := 0) X dX10_valueOf_0 rfl rfl ?_
  refine q_iload_n (j := 1) X dX10_valueOf_1 rfl rfl ?_
  refine q_iconst (v := 3) X dX10_valueOf_2 (by decide) ?_
  refine q_calli (q_runV X hK hZ zo (gm (t := 30) (by decide) (ok1 (t := 30) (Nat.le_of_ble_eq_true rfl))) rfl rfl [.int p0, .int 3] [] rfl rfl (Nat.le_of_ble_eq_true rfl) dX10_valueOf_3 ⟨Nat.le_of_ble_eq_true rfl, Nat.le_of_ble_eq_true rfl⟩ (c_X10_tells ax p0 3 mm _ h) rfl rfl (gV kw_8_126 kw_8_128 ks_131 kw_1_11 kw_8_129) hy_X10_tells ⟨Nat.le_of_ble_eq_true rfl, Nat.le_of_ble_eq_true rfl⟩) (fun r_1 m_2 h => ?_)
  exact hE _ _ _ _ dX10_valueOf_6 h
theorem dX10_chamberOf_0 : decode cX10_chamberOf 0 = .ok (.aload_n 0, 1) := by decide +kernel
theorem dX10_chamberOf_1 : decode cX10_chamberOf 1 = .ok (.iload_n 1, 1) := by decide +kernel
theorem dX10_chamberOf_2 : decode cX10_chamberOf 2 = .ok (.iconst 4, 1) := by decide +kernel
theorem dX10_chamberOf_3 : decode cX10_chamberOf 3 = .ok (.invokevirtual 230, 3) := by decide +kernel
theorem dX10_chamberOf_6 : decode cX10_chamberOf 6 = .ok (.ireturn, 1) := by decide +kernel
def w_X10_chamberOf (p0 : Int32) (mm : Mm) (Q9 : Int32 → Mm → Prop) : Prop :=
  w_X10_tells p0 4 mm (fun (r_1 : Int32) (m_2 : Mm) => Q9 r_1 m_2)
def rm_X10_chamberOf : Room := { frames := 3, cells := 0, slots := 0, locals := 67 }
theorem hy_X10_chamberOf : yX10_chamberOf.cls = RX10 ∧ yX10_chamberOf.cls ≠ "java/lang/invoke/MethodHandle" ∧ yX10_chamberOf.cls ≠ "java/lang/invoke/VarHandle" ∧ (parseMethodDescriptor yX10_chamberOf.desc).map (fun d => d.parameters.length) = some 1 := by decide +kernel
set_option maxRecDepth 100000 in
set_option maxHeartbeats 4000000 in
theorem c_X10_chamberOf {l : Launch} {D : va_G} {cA : Nat → ClassId} {ad : Nat → Nat → Nat} {A : Nat → Prop} (ax : Ax ad GM A) (p0 : Int32) (mm : Mm) (Q9 : Int32 → Mm → Prop) (h : w_X10_chamberOf p0 mm Q9) : Met l yX10_chamberOf (.code yX10_chamberOf cX10_chamberOf 2 (some .int) :: TG) rm_X10_chamberOf (PcM TT D cA ad false GM (ZM) [.ref (ad 30 1), .int p0] mm) (AnsI TT D cA ad false GM A Q9) 0 0 A := by
  have zo := ZM_ok A
  unfold w_X10_chamberOf at h
  refine enterI pl_X10 ⟨rfl, rfl⟩ rfl (Nat.le_of_ble_eq_true rfl) ?_
  intro p e s m args below meth c QQ X hK hZ hnm hE
  refine q_aload_n (j := 0) X dX10_chamberOf_0 rfl rfl ?_
  refine q_iload_n (j := 1) X dX10_chamberOf_1 rfl rfl ?_
  refine q_iconst (v := 4) X dX10_chamberOf_2 (by decide) ?_
  refine q_calli (q_runV X hK hZ zo (gm (t := 30) (by decide) (ok1 (t := 30) (Nat.le_of_ble_eq_true rfl))) rfl rfl [.int p0, .int 4] [] rfl rfl (Nat.le_of_ble_eq_true rfl) dX10_chamberOf_3 ⟨Nat.le_of_ble_eq_true rfl, Nat.le_of_ble_eq_true rfl⟩ (c_X10_tells ax p0 4 mm _ h) rfl rfl (gV kw_8_126 kw_8_128 ks_131 kw_1_11 kw_8_129) hy_X10_tells ⟨Nat.le_of_ble_eq_true rfl, Nat.le_of_ble_eq_true rfl⟩) (fun r_1 m_2 h => ?_)
  exact hE _ _ _ _ dX10_chamberOf_6 h
theorem dX10_ageOf_0 : decode cX10_ageOf 0 = .ok (.aload_n 0, 1) := by decide +kernel
theorem dX10_ageOf_1 : decode cX10_ageOf 1 = .ok (.iload_n 1, 1) := by decide +kernel
theorem dX10_ageOf_2 : decode cX10_ageOf 2 = .ok (.iconst 5, 1) := by decide +kernel
theorem dX10_ageOf_3 : decode cX10_ageOf 3 = .ok (.invokevirtual 230, 3) := by decide +kernel
theorem dX10_ageOf_6 : decode cX10_ageOf 6 = .ok (.ireturn, 1) := by decide +kernel
def w_X10_ageOf (p0 : Int32) (mm : Mm) (Q9 : Int32 → Mm → Prop) : Prop :=
  w_X10_tells p0 5 mm (fun (r_1 : Int32) (m_2 : Mm) => Q9 r_1 m_2)
def rm_X10_ageOf : Room := { frames := 3, cells := 0, slots := 0, locals := 67 }
theorem hy_X10_ageOf : yX10_ageOf.cls = RX10 ∧ yX10_ageOf.cls ≠ "java/lang/invoke/MethodHandle" ∧ yX10_ageOf.cls ≠ "java/lang/invoke/VarHandle" ∧ (parseMethodDescriptor yX10_ageOf.desc).map (fun d => d.parameters.length) = some 1 := by decide +kernel
set_option maxRecDepth 100000 in
set_option maxHeartbeats 4000000 in
theorem c_X10_ageOf {l : Launch} {D : va_G} {cA : Nat → ClassId} {ad : Nat → Nat → Nat} {A : Nat → Prop} (ax : Ax ad GM A) (p0 : Int32) (mm : Mm) (Q9 : Int32 → Mm → Prop) (h : w_X10_ageOf p0 mm Q9) : Met l yX10_ageOf (.code yX10_ageOf cX10_ageOf 2 (some .int) :: TG) rm_X10_ageOf (PcM TT D cA ad false GM (ZM) [.ref (ad 30 1), .int p0] mm) (AnsI TT D cA ad false GM A Q9) 0 0 A := by
  have zo := ZM_ok A
  unfold w_X10_ageOf at h
  refine enterI pl_X10 ⟨rfl, rfl⟩ rfl (Nat.le_of_ble_eq_true rfl) ?_
  intro p e s m args below meth c QQ X hK hZ hnm hE
  refine q_aload_n (j := 0) X dX10_ageOf_0 rfl rfl ?_
  refine q_iload_n (j := 1) X dX10_ageOf_1 rfl rfl ?_
  refine q_iconst (v := 5) X dX10_ageOf_2 (by decide) ?_
  refine q_calli (q_runV X hK hZ zo (gm (t := 30) (by decide) (ok1 (t := 30) (Nat.le_of_ble_eq_true rfl))) rfl rfl [.int p0, .int 5] [] rfl rfl (Nat.le_of_ble_eq_true rfl) dX10_ageOf_3 ⟨Nat.le_of_ble_eq_true rfl, Nat.le_of_ble_eq_true rfl⟩ (c_X10_tells ax p0 5 mm _ h) rfl rfl (gV kw_8_126 kw_8_128 ks_131 kw_1_11 kw_8_129) hy_X10_tells ⟨Nat.le_of_ble_eq_true rfl, Nat.le_of_ble_eq_true rfl⟩) (fun r_1 m_2 h => ?_)
  exact hE _ _ _ _ dX10_ageOf_6 h
theorem dX10_isProved_0 : decode cX10_isProved 0 = .ok (.aload_n 0, 1) := by decide +kernel
theorem dX10_isProved_1 : decode cX10_isProved 1 = .ok (.iload_n 1, 1) := by decide +kernel
theorem dX10_isProved_2 : decode cX10_isProved 2 = .ok (.bipush 7, 2) := by decide +kernel
theorem dX10_isProved_4 : decode cX10_isProved 4 = .ok (.invokevirtual 230, 3) := by decide +kernel
theorem dX10_isProved_7 : decode cX10_isProved 7 = .ok (.iconst 1, 1) := by decide +kernel
theorem dX10_isProved_8 : decode cX10_isProved 8 = .ok (.if_icmp .ne 7, 3) := by decide +kernel
theorem dX10_isProved_11 : decode cX10_isProved 11 = .ok (.iconst 1, 1) := by decide +kernel
theorem dX10_isProved_12 : decode cX10_isProved 12 = .ok (.goto 4, 3) := by decide +kernel
theorem dX10_isProved_15 : decode cX10_isProved 15 = .ok (.iconst 0, 1) := by decide +kernel
theorem dX10_isProved_16 : decode cX10_isProved 16 = .ok (.ireturn, 1) := by decide +kernel
def w_X10_isProved (p0 : Int32) (mm : Mm) (Q9 : Int32 → Mm → Prop) : Prop :=
  w_X10_tells p0 7 mm (fun (r_1 : Int32) (m_2 : Mm) => ((¬ r_1 = 1 → Q9 0 m_2) ∧
  (r_1 = 1 → Q9 1 m_2)))
def rm_X10_isProved : Room := { frames := 3, cells := 0, slots := 0, locals := 67 }
theorem hy_X10_isProved : yX10_isProved.cls = RX10 ∧ yX10_isProved.cls ≠ "java/lang/invoke/MethodHandle" ∧ yX10_isProved.cls ≠ "java/lang/invoke/VarHandle" ∧ (parseMethodDescriptor yX10_isProved.desc).map (fun d => d.parameters.length) = some 1 := by decide +kernel
set_option maxRecDepth 100000 in
set_option maxHeartbeats 4000000 in
theorem c_X10_isProved {l : Launch} {D : va_G} {cA : Nat → ClassId} {ad : Nat → Nat → Nat} {A : Nat → Prop} (ax : Ax ad GM A) (p0 : Int32) (mm : Mm) (Q9 : Int32 → Mm → Prop) (h : w_X10_isProved p0 mm Q9) : Met l yX10_isProved (.code yX10_isProved cX10_isProved 2 (some .boolean) :: TG) rm_X10_isProved (PcM TT D cA ad false GM (ZM) [.ref (ad 30 1), .int p0] mm) (AnsI TT D cA ad false GM A Q9) 0 0 A := by
  have zo := ZM_ok A
  unfold w_X10_isProved at h
  refine enterZ pl_X10 ⟨rfl, rfl⟩ rfl (Nat.le_of_ble_eq_true rfl) ?_
  intro p e s m args below meth c QQ X hK hZ hnm hE
  refine q_aload_n (j := 0) X dX10_isProved_0 rfl rfl ?_
  refine q_iload_n (j := 1) X dX10_isProved_1 rfl rfl ?_
  refine q_bipush (v := 7) X dX10_isProved_2 (by decide) ?_
  refine q_calli (q_runV X hK hZ zo (gm (t := 30) (by decide) (ok1 (t := 30) (Nat.le_of_ble_eq_true rfl))) rfl rfl [.int p0, .int 7] [] rfl rfl (Nat.le_of_ble_eq_true rfl) dX10_isProved_4 ⟨Nat.le_of_ble_eq_true rfl, Nat.le_of_ble_eq_true rfl⟩ (c_X10_tells ax p0 7 mm _ h) rfl rfl (gV kw_8_126 kw_8_128 ks_131 kw_1_11 kw_8_129) hy_X10_tells ⟨Nat.le_of_ble_eq_true rfl, Nat.le_of_ble_eq_true rfl⟩) (fun r_1 m_2 h => ?_)
  refine q_iconst (v := 1) X dX10_isProved_7 (by decide) ?_
  refine q_icmp_ne (tgt := 15) X dX10_isProved_8 (by decide) (fun c_3 => ?_) (fun c_3 => ?_)
  · have h := h.1 c_3
    refine q_iconst (v := 0) X dX10_isProved_15 (by decide) ?_
    exact hE _ _ _ _ dX10_isProved_16 (Or.inl rfl) h
  · have h := h.2 c_3
    refine q_iconst (v := 1) X dX10_isProved_11 (by decide) ?_
    refine q_goto (tgt := 16) X dX10_isProved_12 (by decide) ?_
    exact hE _ _ _ _ dX10_isProved_16 (Or.inr rfl) h
theorem dX10_isOverdue_0 : decode cX10_isOverdue 0 = .ok (.aload_n 0, 1) := by decide +kernel
theorem dX10_isOverdue_1 : decode cX10_isOverdue 1 = .ok (.iload_n 1, 1) := by decide +kernel
theorem dX10_isOverdue_2 : decode cX10_isOverdue 2 = .ok (.iconst 5, 1) := by decide +kernel
theorem dX10_isOverdue_3 : decode cX10_isOverdue 3 = .ok (.invokevirtual 230, 3) := by decide +kernel
theorem dX10_isOverdue_6 : decode cX10_isOverdue 6 = .ok (.sipush 200, 3) := by decide +kernel
theorem dX10_isOverdue_9 : decode cX10_isOverdue 9 = .ok (.if_icmp .le 7, 3) := by decide +kernel
theorem dX10_isOverdue_12 : decode cX10_isOverdue 12 = .ok (.iconst 1, 1) := by decide +kernel
theorem dX10_isOverdue_13 : decode cX10_isOverdue 13 = .ok (.goto 4, 3) := by decide +kernel
theorem dX10_isOverdue_16 : decode cX10_isOverdue 16 = .ok (.iconst 0, 1) := by decide +kernel
theorem dX10_isOverdue_17 : decode cX10_isOverdue 17 = .ok (.ireturn, 1) := by decide +kernel
def w_X10_isOverdue (p0 : Int32) (mm : Mm) (Q9 : Int32 → Mm → Prop) : Prop :=
  w_X10_tells p0 5 mm (fun (r_1 : Int32) (m_2 : Mm) => ((r_1 ≤ 200 → Q9 0 m_2) ∧
  (¬ r_1 ≤ 200 → Q9 1 m_2)))
def rm_X10_isOverdue : Room := { frames := 3, cells := 0, slots := 0, locals := 67 }
theorem hy_X10_isOverdue : yX10_isOverdue.cls = RX10 ∧ yX10_isOverdue.cls ≠ "java/lang/invoke/MethodHandle" ∧ yX10_isOverdue.cls ≠ "java/lang/invoke/VarHandle" ∧ (parseMethodDescriptor yX10_isOverdue.desc).map (fun d => d.parameters.length) = some 1 := by decide +kernel
set_option maxRecDepth 100000 in
set_option maxHeartbeats 4000000 in
theorem c_X10_isOverdue {l : Launch} {D : va_G} {cA : Nat → ClassId} {ad : Nat → Nat → Nat} {A : Nat → Prop} (ax : Ax ad GM A) (p0 : Int32) (mm : Mm) (Q9 : Int32 → Mm → Prop) (h : w_X10_isOverdue p0 mm Q9) : Met l yX10_isOverdue (.code yX10_isOverdue cX10_isOverdue 2 (some .boolean) :: TG) rm_X10_isOverdue (PcM TT D cA ad false GM (ZM) [.ref (ad 30 1), .int p0] mm) (AnsI TT D cA ad false GM A Q9) 0 0 A := by
  have zo := ZM_ok A
  unfold w_X10_isOverdue at h
  refine enterZ pl_X10 ⟨rfl, rfl⟩ rfl (Nat.le_of_ble_eq_true rfl) ?_
  intro p e s m args below meth c QQ X hK hZ hnm hE
  refine q_aload_n (j := 0) X dX10_isOverdue_0 rfl rfl ?_
  refine q_iload_n (j := 1) X dX10_isOverdue_1 rfl rfl ?_
  refine q_iconst (v := 5) X dX10_isOverdue_2 (by decide) ?_
  refine q_calli (q_runV X hK hZ zo (gm (t := 30) (by decide) (ok1 (t := 30) (Nat.le_of_ble_eq_true rfl))) rfl rfl [.int p0, .int 5] [] rfl rfl (Nat.le_of_ble_eq_true rfl) dX10_isOverdue_3 ⟨Nat.le_of_ble_eq_true rfl, Nat.le_of_ble_eq_true rfl⟩ (c_X10_tells ax p0 5 mm _ h) rfl rfl (gV kw_8_126 kw_8_128 ks_131 kw_1_11 kw_8_129) hy_X10_tells ⟨Nat.le_of_ble_eq_true rfl, Nat.le_of_ble_eq_true rfl⟩) (fun r_1 m_2 h => ?_)
  refine q_sipush (v := 200) X dX10_isOverdue_6 (by decide) ?_
  refine q_icmp_le (tgt := 16) X dX10_isOverdue_9 (by decide) (fun c_3 => ?_) (fun c_3 => ?_)
  · have h := h.1 c_3
    refine q_iconst (v := 0) X dX10_isOverdue_16 (by decide) ?_
    exact hE _ _ _ _ dX10_isOverdue_17 (Or.inl rfl) h
  · have h := h.2 c_3
    refine q_iconst (v := 1) X dX10_isOverdue_12 (by decide) ?_
    refine q_goto (tgt := 17) X dX10_isOverdue_13 (by decide) ?_
    exact hE _ _ _ _ dX10_isOverdue_17 (Or.inr rfl) h
theorem dX10_dutyOfPart_0 : decode cX10_dutyOfPart 0 = .ok (.aload_n 0, 1) := by decide +kernel
theorem dX10_dutyOfPart_1 : decode cX10_dutyOfPart 1 = .ok (.iload_n 1, 1) := by decide +kernel
theorem dX10_dutyOfPart_2 : decode cX10_dutyOfPart 2 = .ok (.invokevirtual 156, 3) := by decide +kernel
theorem dX10_dutyOfPart_5 : decode cX10_dutyOfPart 5 = .ok (.istore_n 3, 1) := by decide +kernel
theorem dX10_dutyOfPart_6 : decode cX10_dutyOfPart 6 = .ok (.aload_n 0, 1) := by decide +kernel
theorem dX10_dutyOfPart_7 : decode cX10_dutyOfPart 7 = .ok (.iload_n 3, 1) := by decide +kernel
theorem dX10_dutyOfPart_8 : decode cX10_dutyOfPart 8 = .ok (.iconst (-1), 1) := by decide +kernel
theorem dX10_dutyOfPart_9 : decode cX10_dutyOfPart 9 = .ok (.if_icmp .ne 7, 3) := by decide +kernel
theorem dX10_dutyOfPart_12 : decode cX10_dutyOfPart 12 = .ok (.iconst 1, 1) := by decide +kernel
theorem dX10_dutyOfPart_13 : decode cX10_dutyOfPart 13 = .ok (.goto 24, 3) := by decide +kernel
theorem dX10_dutyOfPart_16 : decode cX10_dutyOfPart 16 = .ok (.iload_n 2, 1) := by decide +kernel
theorem dX10_dutyOfPart_17 : decode cX10_dutyOfPart 17 = .ok (.i2l, 1) := by decide +kernel
theorem dX10_dutyOfPart_18 : decode cX10_dutyOfPart 18 = .ok (.lconst 1, 1) := by decide +kernel
theorem dX10_dutyOfPart_19 : decode cX10_dutyOfPart 19 = .ok (.aload_n 0, 1) := by decide +kernel
theorem dX10_dutyOfPart_20 : decode cX10_dutyOfPart 20 = .ok (.iload_n 3, 1) := by decide +kernel
theorem dX10_dutyOfPart_21 : decode cX10_dutyOfPart 21 = .ok (.iconst 2, 1) := by decide +kernel
theorem dX10_dutyOfPart_22 : decode cX10_dutyOfPart 22 = .ok (.invokevirtual 41, 3) := by decide +kernel
theorem dX10_dutyOfPart_25 : decode cX10_dutyOfPart 25 = .ok (.i2l, 1) := by decide +kernel
theorem dX10_dutyOfPart_26 : decode cX10_dutyOfPart 26 = .ok (.invokestatic 35, 3) := by decide +kernel
theorem dX10_dutyOfPart_29 : decode cX10_dutyOfPart 29 = .ok (.ifCond .eq 7, 3) := by decide +kernel
theorem dX10_dutyOfPart_32 : decode cX10_dutyOfPart 32 = .ok (.iconst 0, 1) := by decide +kernel
theorem dX10_dutyOfPart_33 : decode cX10_dutyOfPart 33 = .ok (.goto 4, 3) := by decide +kernel
theorem dX10_dutyOfPart_36 : decode cX10_dutyOfPart 36 = .ok (.iconst 2, 1) := by decide +kernel
theorem dX10_dutyOfPart_37 : decode cX10_dutyOfPart 37 = .ok (.invokevirtual 147, 3) := by decide +kernel
theorem dX10_dutyOfPart_40 : decode cX10_dutyOfPart 40 = .ok (.ifCond .eq 7, 3) := by decide +kernel
theorem dX10_dutyOfPart_43 : decode cX10_dutyOfPart 43 = .ok (.iconst 0, 1) := by decide +kernel
theorem dX10_dutyOfPart_44 : decode cX10_dutyOfPart 44 = .ok (.goto 9, 3) := by decide +kernel
theorem dX10_dutyOfPart_47 : decode cX10_dutyOfPart 47 = .ok (.aload_n 0, 1) := by decide +kernel
theorem dX10_dutyOfPart_48 : decode cX10_dutyOfPart 48 = .ok (.iload_n 3, 1) := by decide +kernel
theorem dX10_dutyOfPart_49 : decode cX10_dutyOfPart 49 = .ok (.iload_n 2, 1) := by decide +kernel
theorem dX10_dutyOfPart_50 : decode cX10_dutyOfPart 50 = .ok (.invokevirtual 59, 3) := by decide +kernel
theorem dX10_dutyOfPart_53 : decode cX10_dutyOfPart 53 = .ok (.ireturn, 1) := by decide +kernel
def w_X10_dutyOfPart (p0 : Int32) (p1 : Int32) (mm : Mm) (Q9 : Int32 → Mm → Prop) : Prop :=
  w_X10_find p0 mm (fun (r_1 : Int32) => ((¬ r_1 = (-1) → w_X10_of r_1 2 mm (fun (r_4 : Int32) => w_X10_in (Int32.toInt64 p1) (1 : Int64) (Int32.toInt64 r_4) mm (fun (r_6 : Int32) => ((r_6 = 0 → w_X10_refused 2 mm (fun (r_9 : Int32) (m_10 : Mm) => ((r_9 = 0 → w_X10_dutyPart r_1 p1 m_10 (fun (r_12 : Int32) => Q9 r_12 m_10)) ∧
  (¬ r_9 = 0 → Q9 0 m_10)))) ∧
  (¬ r_6 = 0 → w_X10_refused 0 mm (fun (r_14 : Int32) (m_15 : Mm) => ((r_14 = 0 → w_X10_dutyPart r_1 p1 m_15 (fun (r_17 : Int32) => Q9 r_17 m_15)) ∧
  (¬ r_14 = 0 → Q9 0 m_15)))))))) ∧
  (r_1 = (-1) → w_X10_refused 1 mm (fun (r_19 : Int32) (m_20 : Mm) => ((r_19 = 0 → w_X10_dutyPart r_1 p1 m_20 (fun (r_22 : Int32) => Q9 r_22 m_20)) ∧
  (¬ r_19 = 0 → Q9 0 m_20))))))
def rm_X10_dutyOfPart : Room := { frames := 3, cells := 0, slots := 0, locals := 68 }
theorem hy_X10_dutyOfPart : yX10_dutyOfPart.cls = RX10 ∧ yX10_dutyOfPart.cls ≠ "java/lang/invoke/MethodHandle" ∧ yX10_dutyOfPart.cls ≠ "java/lang/invoke/VarHandle" ∧ (parseMethodDescriptor yX10_dutyOfPart.desc).map (fun d => d.parameters.length) = some 2 := by decide +kernel
set_option maxRecDepth 100000 in
set_option maxHeartbeats 4000000 in
theorem c_X10_dutyOfPart {l : Launch} {D : va_G} {cA : Nat → ClassId} {ad : Nat → Nat → Nat} {A : Nat → Prop} (ax : Ax ad GM A) (p0 : Int32) (p1 : Int32) (mm : Mm) (Q9 : Int32 → Mm → Prop) (h : w_X10_dutyOfPart p0 p1 mm Q9) : Met l yX10_dutyOfPart (.code yX10_dutyOfPart cX10_dutyOfPart 4 (some .int) :: TG) rm_X10_dutyOfPart (PcM TT D cA ad false GM (ZM) [.ref (ad 30 1), .int p0, .int p1] mm) (AnsI TT D cA ad false GM A Q9) 0 0 A := by
  have zo := ZM_ok A
  unfold w_X10_dutyOfPart at h
  refine enterI pl_X10 ⟨rfl, rfl⟩ rfl (Nat.le_of_ble_eq_true rfl) ?_
  intro p e s m args below meth c QQ X hK hZ hnm hE
  refine q_aload_n (j := 0) X dX10_dutyOfPart_0 rfl rfl ?_
  refine q_iload_n (j := 1) X dX10_dutyOfPart_1 rfl rfl ?_
  refine q_calli (q_runV X hK hZ zo (gm (t := 30) (by decide) (ok1 (t := 30) (Nat.le_of_ble_eq_true rfl))) rfl rfl [.int p0] [] rfl rfl (Nat.le_of_ble_eq_true rfl) dX10_dutyOfPart_2 ⟨Nat.le_of_ble_eq_true rfl, Nat.le_of_ble_eq_true rfl⟩ (c_X10_find ax p0 mm _ h) rfl rfl (gV kw_7_157 kw_7_159 ks_101 kw_1_11 kw_7_160) hy_X10_find ⟨Nat.le_of_ble_eq_true rfl, Nat.le_of_ble_eq_true rfl⟩) (fun r_1 m_2 h => ?_)
  obtain ⟨h, hm⟩ := h
  subst hm
  refine q_istore_n (lv' := [(3, .int r_1), (0, .ref (ad 30 1)), (1, .int p0), (2, .int p1)]) X dX10_dutyOfPart_5 rfl (by decide) rfl ?_
  refine q_aload_n (j := 1) X dX10_dutyOfPart_6 rfl rfl ?_
  refine q_iload_n (j := 0) X dX10_dutyOfPart_7 rfl rfl ?_
  refine q_iconst (v := (-1)) X dX10_dutyOfPart_8 (by decide) ?_
  refine q_icmp_ne (tgt := 16) X dX10_dutyOfPart_9 (by decide) (fun c_3 => ?_) (fun c_3 => ?_)
  · have h := h.1 c_3
    refine q_iload_n (j := 3) X dX10_dutyOfPart_16 rfl rfl ?_
    refine q_i2l X dX10_dutyOfPart_17 ?_
    refine q_lconst (v := 1) X dX10_dutyOfPart_18 (by decide) ?_
    refine q_aload_n (j := 1) X dX10_dutyOfPart_19 rfl rfl ?_
    refine q_iload_n (j := 0) X dX10_dutyOfPart_20 rfl rfl ?_
    refine q_iconst (v := 2) X dX10_dutyOfPart_21 (by decide) ?_
    refine q_calli (q_runV X hK hZ zo (gm (t := 30) (by decide) (ok1 (t := 30) (Nat.le_of_ble_eq_true rfl))) rfl rfl [.int r_1, .int 2] [.long (1 : Int64), .long (Int32.toInt64 p1), .ref (ad 30 1)] rfl rfl (Nat.le_of_ble_eq_true rfl) dX10_dutyOfPart_22 ⟨Nat.le_of_ble_eq_true rfl, Nat.le_of_ble_eq_true rfl⟩ (c_X10_of ax r_1 2 mm _ h) rfl rfl (gV kw_7_95 kw_7_97 ks_88 kw_1_11 kw_7_98) hy_X10_of ⟨Nat.le_of_ble_eq_true rfl, Nat.le_of_ble_eq_true rfl⟩) (fun r_4 m_5 h => ?_)
    obtain ⟨h, hm⟩ := h
    subst hm
    refine q_i2l X dX10_dutyOfPart_25 ?_
    refine q_calli (q_runS X hK hZ zo [.long (Int32.toInt64 p1), .long (1 : Int64), .long (Int32.toInt64 r_4)] [.ref (ad 30 1)] rfl rfl (Nat.le_of_ble_eq_true rfl) dX10_dutyOfPart_26 ⟨Nat.le_of_ble_eq_true rfl, Nat.le_of_ble_eq_true rfl⟩ (c_X10_in ax (Int32.toInt64 p1) (1 : Int64) (Int32.toInt64 r_4) mm _ h) rfl rfl (gS kw_7_71 kw_7_72 kw_1_11 kw_7_73) hy_X10_in.2 ⟨Nat.le_of_ble_eq_true rfl, Nat.le_of_ble_eq_true rfl⟩) (fun r_6 m_7 h => ?_)
    obtain ⟨h, hm⟩ := h
    subst hm
    refine q_if_eq (tgt := 36) X dX10_dutyOfPart_29 (by decide) (fun c_8 => ?_) (fun c_8 => ?_)
    · have h := h.1 c_8
      refine q_iconst (v := 2) X dX10_dutyOfPart_36 (by decide) ?_
      refine q_calli (q_runV X hK hZ zo (gm (t := 30) (by decide) (ok1 (t := 30) (Nat.le_of_ble_eq_true rfl))) rfl rfl [.int 2] [] rfl rfl (Nat.le_of_ble_eq_true rfl) dX10_dutyOfPart_37 ⟨Nat.le_of_ble_eq_true rfl, Nat.le_of_ble_eq_true rfl⟩ (c_X10_refused ax 2 mm _ h) rfl rfl (gV kw_7_126 kw_7_128 ks_95 kw_1_11 kw_7_129) hy_X10_refused ⟨Nat.le_of_ble_eq_true rfl, Nat.le_of_ble_eq_true rfl⟩) (fun r_9 m_10 h => ?_)
      refine q_if_eq (tgt := 47) X dX10_dutyOfPart_40 (by decide) (fun c_11 => ?_) (fun c_11 => ?_)
      · have h := h.1 c_11
        refine q_aload_n (j := 1) X dX10_dutyOfPart_47 rfl rfl ?_
        refine q_iload_n (j := 0) X dX10_dutyOfPart_48 rfl rfl ?_
        refine q_iload_n (j := 3) X dX10_dutyOfPart_49 rfl rfl ?_
        refine q_calli (q_runV X hK hZ zo (gm (t := 30) (by decide) (ok1 (t := 30) (Nat.le_of_ble_eq_true rfl))) rfl rfl [.int r_1, .int p1] [] rfl rfl (Nat.le_of_ble_eq_true rfl) dX10_dutyOfPart_50 ⟨Nat.le_of_ble_eq_true rfl, Nat.le_of_ble_eq_true rfl⟩ (c_X10_dutyPart ax r_1 p1 m_10 _ h) rfl rfl (gV kw_7_107 kw_7_109 ks_91 kw_1_11 kw_7_110) hy_X10_dutyPart ⟨Nat.le_of_ble_eq_true rfl, Nat.le_of_ble_eq_true rfl⟩) (fun r_12 m_13 h => ?_)
        obtain ⟨h, hm⟩ := h
        subst hm
        exact hE _ _ _ _ dX10_dutyOfPart_53 h
      · have h := h.2 c_11
        refine q_iconst (v := 0) X dX10_dutyOfPart_43 (by decide) ?_
        refine q_goto (tgt := 53) X dX10_dutyOfPart_44 (by decide) ?_
        exact hE _ _ _ _ dX10_dutyOfPart_53 h
    · have h := h.2 c_8
      refine q_iconst (v := 0) X dX10_dutyOfPart_32 (by decide) ?_
      refine q_goto (tgt := 37) X dX10_dutyOfPart_33 (by decide) ?_
      refine q_calli (q_runV X hK hZ zo (gm (t := 30) (by decide) (ok1 (t := 30) (Nat.le_of_ble_eq_true rfl))) rfl rfl [.int 0] [] rfl rfl (Nat.le_of_ble_eq_true rfl) dX10_dutyOfPart_37 ⟨Nat.le_of_ble_eq_true rfl, Nat.le_of_ble_eq_true rfl⟩ (c_X10_refused ax 0 mm _ h) rfl rfl (gV kw_7_126 kw_7_128 ks_95 kw_1_11 kw_7_129) hy_X10_refused ⟨Nat.le_of_ble_eq_true rfl, Nat.le_of_ble_eq_true rfl⟩) (fun r_14 m_15 h => ?_)
      refine q_if_eq (tgt := 47) X dX10_dutyOfPart_40 (by decide) (fun c_16 => ?_) (fun c_16 => ?_)
      · have h := h.1 c_16
        refine q_aload_n (j := 1) X dX10_dutyOfPart_47 rfl rfl ?_
        refine q_iload_n (j := 0) X dX10_dutyOfPart_48 rfl rfl ?_
        refine q_iload_n (j := 3) X dX10_dutyOfPart_49 rfl rfl ?_
        refine q_calli (q_runV X hK hZ zo (gm (t := 30) (by decide) (ok1 (t := 30) (Nat.le_of_ble_eq_true rfl))) rfl rfl [.int r_1, .int p1] [] rfl rfl (Nat.le_of_ble_eq_true rfl) dX10_dutyOfPart_50 ⟨Nat.le_of_ble_eq_true rfl, Nat.le_of_ble_eq_true rfl⟩ (c_X10_dutyPart ax r_1 p1 m_15 _ h) rfl rfl (gV kw_7_107 kw_7_109 ks_91 kw_1_11 kw_7_110) hy_X10_dutyPart ⟨Nat.le_of_ble_eq_true rfl, Nat.le_of_ble_eq_true rfl⟩) (fun r_17 m_18 h => ?_)
        obtain ⟨h, hm⟩ := h
        subst hm
        exact hE _ _ _ _ dX10_dutyOfPart_53 h
      · have h := h.2 c_16
        refine q_iconst (v := 0) X dX10_dutyOfPart_43 (by decide) ?_
        refine q_goto (tgt := 53) X dX10_dutyOfPart_44 (by decide) ?_
        exact hE _ _ _ _ dX10_dutyOfPart_53 h
  · have h := h.2 c_3
    refine q_iconst (v := 1) X dX10_dutyOfPart_12 (by decide) ?_
    refine q_goto (tgt := 37) X dX10_dutyOfPart_13 (by decide) ?_
    refine q_calli (q_runV X hK hZ zo (gm (t := 30) (by decide) (ok1 (t := 30) (Nat.le_of_ble_eq_true rfl))) rfl rfl [.int 1] [] rfl rfl (Nat.le_of_ble_eq_true rfl) dX10_dutyOfPart_37 ⟨Nat.le_of_ble_eq_true rfl, Nat.le_of_ble_eq_true rfl⟩ (c_X10_refused ax 1 mm _ h) rfl rfl (gV kw_7_126 kw_7_128 ks_95 kw_1_11 kw_7_129) hy_X10_refused ⟨Nat.le_of_ble_eq_true rfl, Nat.le_of_ble_eq_true rfl⟩) (fun r_19 m_20 h => ?_)
    refine q_if_eq (tgt := 47) X dX10_dutyOfPart_40 (by decide) (fun c_21 => ?_) (fun c_21 => ?_)
    · have h := h.1 c_21
      refine q_aload_n (j := 1) X dX10_dutyOfPart_47 rfl rfl ?_
      refine q_iload_n (j := 0) X dX10_dutyOfPart_48 rfl rfl ?_
      refine q_iload_n (j := 3) X dX10_dutyOfPart_49 rfl rfl ?_
      refine q_calli (q_runV X hK hZ zo (gm (t := 30) (by decide) (ok1 (t := 30) (Nat.le_of_ble_eq_true rfl))) rfl rfl [.int r_1, .int p1] [] rfl rfl (Nat.le_of_ble_eq_true rfl) dX10_dutyOfPart_50 ⟨Nat.le_of_ble_eq_true rfl, Nat.le_of_ble_eq_true rfl⟩ (c_X10_dutyPart ax r_1 p1 m_20 _ h) rfl rfl (gV kw_7_107 kw_7_109 ks_91 kw_1_11 kw_7_110) hy_X10_dutyPart ⟨Nat.le_of_ble_eq_true rfl, Nat.le_of_ble_eq_true rfl⟩) (fun r_22 m_23 h => ?_)
      obtain ⟨h, hm⟩ := h
      subst hm
      exact hE _ _ _ _ dX10_dutyOfPart_53 h
    · have h := h.2 c_21
      refine q_iconst (v := 0) X dX10_dutyOfPart_43 (by decide) ?_
      refine q_goto (tgt := 53) X dX10_dutyOfPart_44 (by decide) ?_
      exact hE _ _ _ _ dX10_dutyOfPart_53 h
theorem dX10_dutyOf_0 : decode cX10_dutyOf 0 = .ok (.aload_n 0, 1) := by decide +kernel
theorem dX10_dutyOf_1 : decode cX10_dutyOf 1 = .ok (.iload_n 1, 1) := by decide +kernel
theorem dX10_dutyOf_2 : decode cX10_dutyOf 2 = .ok (.invokevirtual 156, 3) := by decide +kernel
theorem dX10_dutyOf_5 : decode cX10_dutyOf 5 = .ok (.istore_n 2, 1) := by decide +kernel
theorem dX10_dutyOf_6 : decode cX10_dutyOf 6 = .ok (.aload_n 0, 1) := by decide +kernel
theorem dX10_dutyOf_7 : decode cX10_dutyOf 7 = .ok (.iload_n 2, 1) := by decide +kernel
theorem dX10_dutyOf_8 : decode cX10_dutyOf 8 = .ok (.iconst (-1), 1) := by decide +kernel
theorem dX10_dutyOf_9 : decode cX10_dutyOf 9 = .ok (.if_icmp .ne 7, 3) := by decide +kernel
theorem dX10_dutyOf_12 : decode cX10_dutyOf 12 = .ok (.iconst 1, 1) := by decide +kernel
theorem dX10_dutyOf_13 : decode cX10_dutyOf 13 = .ok (.goto 4, 3) := by decide +kernel
theorem dX10_dutyOf_16 : decode cX10_dutyOf 16 = .ok (.iconst 0, 1) := by decide +kernel
theorem dX10_dutyOf_17 : decode cX10_dutyOf 17 = .ok (.invokevirtual 147, 3) := by decide +kernel
theorem dX10_dutyOf_20 : decode cX10_dutyOf 20 = .ok (.ifCond .eq 7, 3) := by decide +kernel
theorem dX10_dutyOf_23 : decode cX10_dutyOf 23 = .ok (.iconst 0, 1) := by decide +kernel
theorem dX10_dutyOf_24 : decode cX10_dutyOf 24 = .ok (.goto 8, 3) := by decide +kernel
theorem dX10_dutyOf_27 : decode cX10_dutyOf 27 = .ok (.aload_n 0, 1) := by decide +kernel
theorem dX10_dutyOf_28 : decode cX10_dutyOf 28 = .ok (.iload_n 2, 1) := by decide +kernel
theorem dX10_dutyOf_29 : decode cX10_dutyOf 29 = .ok (.invokevirtual 62, 3) := by decide +kernel
theorem dX10_dutyOf_32 : decode cX10_dutyOf 32 = .ok (.ireturn, 1) := by decide +kernel
def w_X10_dutyOf (p0 : Int32) (mm : Mm) (Q9 : Int32 → Mm → Prop) : Prop :=
  w_X10_find p0 mm (fun (r_1 : Int32) => ((¬ r_1 = (-1) → w_X10_refused 0 mm (fun (r_4 : Int32) (m_5 : Mm) => ((r_4 = 0 → w_X10_dutyAll r_1 m_5 (fun (r_7 : Int32) => Q9 r_7 m_5)) ∧
  (¬ r_4 = 0 → Q9 0 m_5)))) ∧
  (r_1 = (-1) → w_X10_refused 1 mm (fun (r_9 : Int32) (m_10 : Mm) => ((r_9 = 0 → w_X10_dutyAll r_1 m_10 (fun (r_12 : Int32) => Q9 r_12 m_10)) ∧
  (¬ r_9 = 0 → Q9 0 m_10))))))
def rm_X10_dutyOf : Room := { frames := 4, cells := 0, slots := 0, locals := 89 }
theorem hy_X10_dutyOf : yX10_dutyOf.cls = RX10 ∧ yX10_dutyOf.cls ≠ "java/lang/invoke/MethodHandle" ∧ yX10_dutyOf.cls ≠ "java/lang/invoke/VarHandle" ∧ (parseMethodDescriptor yX10_dutyOf.desc).map (fun d => d.parameters.length) = some 1 := by decide +kernel
set_option maxRecDepth 100000 in
set_option maxHeartbeats 4000000 in
theorem c_X10_dutyOf {l : Launch} {D : va_G} {cA : Nat → ClassId} {ad : Nat → Nat → Nat} {A : Nat → Prop} (ax : Ax ad GM A) (p0 : Int32) (mm : Mm) (Q9 : Int32 → Mm → Prop) (h : w_X10_dutyOf p0 mm Q9) : Met l yX10_dutyOf (.code yX10_dutyOf cX10_dutyOf 3 (some .int) :: TG) rm_X10_dutyOf (PcM TT D cA ad false GM (ZM) [.ref (ad 30 1), .int p0] mm) (AnsI TT D cA ad false GM A Q9) 0 0 A := by
  have zo := ZM_ok A
  unfold w_X10_dutyOf at h
  refine enterI pl_X10 ⟨rfl, rfl⟩ rfl (Nat.le_of_ble_eq_true rfl) ?_
  intro p e s m args below meth c QQ X hK hZ hnm hE
  refine q_aload_n (j := 0) X dX10_dutyOf_0 rfl rfl ?_
  refine q_iload_n (j := 1) X dX10_dutyOf_1 rfl rfl ?_
  refine q_calli (q_runV X hK hZ zo (gm (t := 30) (by decide) (ok1 (t := 30) (Nat.le_of_ble_eq_true rfl))) rfl rfl [.int p0] [] rfl rfl (Nat.le_of_ble_eq_true rfl) dX10_dutyOf_2 ⟨Nat.le_of_ble_eq_true rfl, Nat.le_of_ble_eq_true rfl⟩ (c_X10_find ax p0 mm _ h) rfl rfl (gV kw_7_157 kw_7_159 ks_101 kw_1_11 kw_7_160) hy_X10_find ⟨Nat.le_of_ble_eq_true rfl, Nat.le_of_ble_eq_true rfl⟩) (fun r_1 m_2 h => ?_)
  obtain ⟨h, hm⟩ := h
  subst hm
  refine q_istore_n (lv' := [(2, .int r_1), (0, .ref (ad 30 1)), (1, .int p0)]) X dX10_dutyOf_5 rfl (by decide) rfl ?_
  refine q_aload_n (j := 1) X dX10_dutyOf_6 rfl rfl ?_
  refine q_iload_n (j := 0) X dX10_dutyOf_7 rfl rfl ?_
  refine q_iconst (v := (-1)) X dX10_dutyOf_8 (by decide) ?_
  refine q_icmp_ne (tgt := 16) X dX10_dutyOf_9 (by decide) (fun c_3 => ?_) (fun c_3 => ?_)
  · have h := h.1 c_3
    refine q_iconst (v := 0) X dX10_dutyOf_16 (by decide) ?_
    refine q_calli (q_runV X hK hZ zo (gm (t := 30) (by decide) (ok1 (t := 30) (Nat.le_of_ble_eq_true rfl))) rfl rfl [.int 0] [] rfl rfl (Nat.le_of_ble_eq_true rfl) dX10_dutyOf_17 ⟨Nat.le_of_ble_eq_true rfl, Nat.le_of_ble_eq_true rfl⟩ (c_X10_refused ax 0 mm _ h) rfl rfl (gV kw_7_126 kw_7_128 ks_95 kw_1_11 kw_7_129) hy_X10_refused ⟨Nat.le_of_ble_eq_true rfl, Nat.le_of_ble_eq_true rfl⟩) (fun r_4 m_5 h => ?_)
    refine q_if_eq (tgt := 27) X dX10_dutyOf_20 (by decide) (fun c_6 => ?_) (fun c_6 => ?_)
    · have h := h.1 c_6
      refine q_aload_n (j := 1) X dX10_dutyOf_27 rfl rfl ?_
      refine q_iload_n (j := 0) X dX10_dutyOf_28 rfl rfl ?_
      refine q_calli (q_runV X hK hZ zo (gm (t := 30) (by decide) (ok1 (t := 30) (Nat.le_of_ble_eq_true rfl))) rfl rfl [.int r_1] [] rfl rfl (Nat.le_of_ble_eq_true rfl) dX10_dutyOf_29 ⟨Nat.le_of_ble_eq_true rfl, Nat.le_of_ble_eq_true rfl⟩ (c_X10_dutyAll ax r_1 m_5 _ h) rfl rfl (gV kw_7_103 kw_7_105 ks_90 kw_1_11 kw_7_106) hy_X10_dutyAll ⟨Nat.le_of_ble_eq_true rfl, Nat.le_of_ble_eq_true rfl⟩) (fun r_7 m_8 h => ?_)
      obtain ⟨h, hm⟩ := h
      subst hm
      exact hE _ _ _ _ dX10_dutyOf_32 h
    · have h := h.2 c_6
      refine q_iconst (v := 0) X dX10_dutyOf_23 (by decide) ?_
      refine q_goto (tgt := 32) X dX10_dutyOf_24 (by decide) ?_
      exact hE _ _ _ _ dX10_dutyOf_32 h
  · have h := h.2 c_3
    refine q_iconst (v := 1) X dX10_dutyOf_12 (by decide) ?_
    refine q_goto (tgt := 17) X dX10_dutyOf_13 (by decide) ?_
    refine q_calli (q_runV X hK hZ zo (gm (t := 30) (by decide) (ok1 (t := 30) (Nat.le_of_ble_eq_true rfl))) rfl rfl [.int 1] [] rfl rfl (Nat.le_of_ble_eq_true rfl) dX10_dutyOf_17 ⟨Nat.le_of_ble_eq_true rfl, Nat.le_of_ble_eq_true rfl⟩ (c_X10_refused ax 1 mm _ h) rfl rfl (gV kw_7_126 kw_7_128 ks_95 kw_1_11 kw_7_129) hy_X10_refused ⟨Nat.le_of_ble_eq_true rfl, Nat.le_of_ble_eq_true rfl⟩) (fun r_9 m_10 h => ?_)
    refine q_if_eq (tgt := 27) X dX10_dutyOf_20 (by decide) (fun c_11 => ?_) (fun c_11 => ?_)
    · have h := h.1 c_11
      refine q_aload_n (j := 1) X dX10_dutyOf_27 rfl rfl ?_
      refine q_iload_n (j := 0) X dX10_dutyOf_28 rfl rfl ?_
      refine q_calli (q_runV X hK hZ zo (gm (t := 30) (by decide) (ok1 (t := 30) (Nat.le_of_ble_eq_true rfl))) rfl rfl [.int r_1] [] rfl rfl (Nat.le_of_ble_eq_true rfl) dX10_dutyOf_29 ⟨Nat.le_of_ble_eq_true rfl, Nat.le_of_ble_eq_true rfl⟩ (c_X10_dutyAll ax r_1 m_10 _ h) rfl rfl (gV kw_7_103 kw_7_105 ks_90 kw_1_11 kw_7_106) hy_X10_dutyAll ⟨Nat.le_of_ble_eq_true rfl, Nat.le_of_ble_eq_true rfl⟩) (fun r_12 m_13 h => ?_)
      obtain ⟨h, hm⟩ := h
      subst hm
      exact hE _ _ _ _ dX10_dutyOf_32 h
    · have h := h.2 c_11
      refine q_iconst (v := 0) X dX10_dutyOf_23 (by decide) ?_
      refine q_goto (tgt := 32) X dX10_dutyOf_24 (by decide) ?_
      exact hE _ _ _ _ dX10_dutyOf_32 h
theorem dX10_allowedWaste_0 : decode cX10_allowedWaste 0 = .ok (.aload_n 0, 1) := by decide +kernel
theorem dX10_allowedWaste_1 : decode cX10_allowedWaste 1 = .ok (.iload_n 1, 1) := by decide +kernel
theorem dX10_allowedWaste_2 : decode cX10_allowedWaste 2 = .ok (.invokevirtual 156, 3) := by decide +kernel
theorem dX10_allowedWaste_5 : decode cX10_allowedWaste 5 = .ok (.istore_n 2, 1) := by decide +kernel
theorem dX10_allowedWaste_6 : decode cX10_allowedWaste 6 = .ok (.aload_n 0, 1) := by decide +kernel
theorem dX10_allowedWaste_7 : decode cX10_allowedWaste 7 = .ok (.iload_n 2, 1) := by decide +kernel
theorem dX10_allowedWaste_8 : decode cX10_allowedWaste 8 = .ok (.iconst (-1), 1) := by decide +kernel
theorem dX10_allowedWaste_9 : decode cX10_allowedWaste 9 = .ok (.if_icmp .ne 7, 3) := by decide +kernel
theorem dX10_allowedWaste_12 : decode cX10_allowedWaste 12 = .ok (.iconst 1, 1) := by decide +kernel
theorem dX10_allowedWaste_13 : decode cX10_allowedWaste 13 = .ok (.goto 4, 3) := by decide +kernel
theorem dX10_allowedWaste_16 : decode cX10_allowedWaste 16 = .ok (.iconst 0, 1) := by decide +kernel
theorem dX10_allowedWaste_17 : decode cX10_allowedWaste 17 = .ok (.invokevirtual 147, 3) := by decide +kernel
theorem dX10_allowedWaste_20 : decode cX10_allowedWaste 20 = .ok (.ifCond .eq 7, 3) := by decide +kernel
theorem dX10_allowedWaste_23 : decode cX10_allowedWaste 23 = .ok (.iconst 0, 1) := by decide +kernel
theorem dX10_allowedWaste_24 : decode cX10_allowedWaste 24 = .ok (.goto 8, 3) := by decide +kernel
theorem dX10_allowedWaste_27 : decode cX10_allowedWaste 27 = .ok (.aload_n 0, 1) := by decide +kernel
theorem dX10_allowedWaste_28 : decode cX10_allowedWaste 28 = .ok (.iload_n 2, 1) := by decide +kernel
theorem dX10_allowedWaste_29 : decode cX10_allowedWaste 29 = .ok (.invokevirtual 100, 3) := by decide +kernel
theorem dX10_allowedWaste_32 : decode cX10_allowedWaste 32 = .ok (.ireturn, 1) := by decide +kernel
def w_X10_allowedWaste (p0 : Int32) (mm : Mm) (Q9 : Int32 → Mm → Prop) : Prop :=
  w_X10_find p0 mm (fun (r_1 : Int32) => ((¬ r_1 = (-1) → w_X10_refused 0 mm (fun (r_4 : Int32) (m_5 : Mm) => ((r_4 = 0 → w_X10_allowed r_1 m_5 (fun (r_7 : Int32) => Q9 r_7 m_5)) ∧
  (¬ r_4 = 0 → Q9 0 m_5)))) ∧
  (r_1 = (-1) → w_X10_refused 1 mm (fun (r_9 : Int32) (m_10 : Mm) => ((r_9 = 0 → w_X10_allowed r_1 m_10 (fun (r_12 : Int32) => Q9 r_12 m_10)) ∧
  (¬ r_9 = 0 → Q9 0 m_10))))))
def rm_X10_allowedWaste : Room := { frames := 2, cells := 0, slots := 0, locals := 44 }
theorem hy_X10_allowedWaste : yX10_allowedWaste.cls = RX10 ∧ yX10_allowedWaste.cls ≠ "java/lang/invoke/MethodHandle" ∧ yX10_allowedWaste.cls ≠ "java/lang/invoke/VarHandle" ∧ (parseMethodDescriptor yX10_allowedWaste.desc).map (fun d => d.parameters.length) = some 1 := by decide +kernel
set_option maxRecDepth 100000 in
set_option maxHeartbeats 4000000 in
theorem c_X10_allowedWaste {l : Launch} {D : va_G} {cA : Nat → ClassId} {ad : Nat → Nat → Nat} {A : Nat → Prop} (ax : Ax ad GM A) (p0 : Int32) (mm : Mm) (Q9 : Int32 → Mm → Prop) (h : w_X10_allowedWaste p0 mm Q9) : Met l yX10_allowedWaste (.code yX10_allowedWaste cX10_allowedWaste 3 (some .int) :: TG) rm_X10_allowedWaste (PcM TT D cA ad false GM (ZM) [.ref (ad 30 1), .int p0] mm) (AnsI TT D cA ad false GM A Q9) 0 0 A := by
  have zo := ZM_ok A
  unfold w_X10_allowedWaste at h
  refine enterI pl_X10 ⟨rfl, rfl⟩ rfl (Nat.le_of_ble_eq_true rfl) ?_
  intro p e s m args below meth c QQ X hK hZ hnm hE
  refine q_aload_n (j := 0) X dX10_allowedWaste_0 rfl rfl ?_
  refine q_iload_n (j := 1) X dX10_allowedWaste_1 rfl rfl ?_
  refine q_calli (q_runV X hK hZ zo (gm (t := 30) (by decide) (ok1 (t := 30) (Nat.le_of_ble_eq_true rfl))) rfl rfl [.int p0] [] rfl rfl (Nat.le_of_ble_eq_true rfl) dX10_allowedWaste_2 ⟨Nat.le_of_ble_eq_true rfl, Nat.le_of_ble_eq_true rfl⟩ (c_X10_find ax p0 mm _ h) rfl rfl (gV kw_7_157 kw_7_159 ks_101 kw_1_11 kw_7_160) hy_X10_find ⟨Nat.le_of_ble_eq_true rfl, Nat.le_of_ble_eq_true rfl⟩) (fun r_1 m_2 h => ?_)
  obtain ⟨h, hm⟩ := h
  subst hm
  refine q_istore_n (lv' := [(2, .int r_1), (0, .ref (ad 30 1)), (1, .int p0)]) X dX10_allowedWaste_5 rfl (by decide) rfl ?_
  refine q_aload_n (j := 1) X dX10_allowedWaste_6 rfl rfl ?_
  refine q_iload_n (j := 0) X dX10_allowedWaste_7 rfl rfl ?_
  refine q_iconst (v := (-1)) X dX10_allowedWaste_8 (by decide) ?_
  refine q_icmp_ne (tgt := 16) X dX10_allowedWaste_9 (by decide) (fun c_3 => ?_) (fun c_3 => ?_)
  · have h := h.1 c_3
    refine q_iconst (v := 0) X dX10_allowedWaste_16 (by decide) ?_
    refine q_calli (q_runV X hK hZ zo (gm (t := 30) (by decide) (ok1 (t := 30) (Nat.le_of_ble_eq_true rfl))) rfl rfl [.int 0] [] rfl rfl (Nat.le_of_ble_eq_true rfl) dX10_allowedWaste_17 ⟨Nat.le_of_ble_eq_true rfl, Nat.le_of_ble_eq_true rfl⟩ (c_X10_refused ax 0 mm _ h) rfl rfl (gV kw_7_126 kw_7_128 ks_95 kw_1_11 kw_7_129) hy_X10_refused ⟨Nat.le_of_ble_eq_true rfl, Nat.le_of_ble_eq_true rfl⟩) (fun r_4 m_5 h => ?_)
    refine q_if_eq (tgt := 27) X dX10_allowedWaste_20 (by decide) (fun c_6 => ?_) (fun c_6 => ?_)
    · have h := h.1 c_6
      refine q_aload_n (j := 1) X dX10_allowedWaste_27 rfl rfl ?_
      refine q_iload_n (j := 0) X dX10_allowedWaste_28 rfl rfl ?_
      refine q_calli (q_runV X hK hZ zo (gm (t := 30) (by decide) (ok1 (t := 30) (Nat.le_of_ble_eq_true rfl))) rfl rfl [.int r_1] [] rfl rfl (Nat.le_of_ble_eq_true rfl) dX10_allowedWaste_29 ⟨Nat.le_of_ble_eq_true rfl, Nat.le_of_ble_eq_true rfl⟩ (c_X10_allowed ax r_1 m_5 _ h) rfl rfl (gV kw_8_22 kw_8_24 ks_121 kw_1_11 kw_8_25) hy_X10_allowed ⟨Nat.le_of_ble_eq_true rfl, Nat.le_of_ble_eq_true rfl⟩) (fun r_7 m_8 h => ?_)
      obtain ⟨h, hm⟩ := h
      subst hm
      exact hE _ _ _ _ dX10_allowedWaste_32 h
    · have h := h.2 c_6
      refine q_iconst (v := 0) X dX10_allowedWaste_23 (by decide) ?_
      refine q_goto (tgt := 32) X dX10_allowedWaste_24 (by decide) ?_
      exact hE _ _ _ _ dX10_allowedWaste_32 h
  · have h := h.2 c_3
    refine q_iconst (v := 1) X dX10_allowedWaste_12 (by decide) ?_
    refine q_goto (tgt := 17) X dX10_allowedWaste_13 (by decide) ?_
    refine q_calli (q_runV X hK hZ zo (gm (t := 30) (by decide) (ok1 (t := 30) (Nat.le_of_ble_eq_true rfl))) rfl rfl [.int 1] [] rfl rfl (Nat.le_of_ble_eq_true rfl) dX10_allowedWaste_17 ⟨Nat.le_of_ble_eq_true rfl, Nat.le_of_ble_eq_true rfl⟩ (c_X10_refused ax 1 mm _ h) rfl rfl (gV kw_7_126 kw_7_128 ks_95 kw_1_11 kw_7_129) hy_X10_refused ⟨Nat.le_of_ble_eq_true rfl, Nat.le_of_ble_eq_true rfl⟩) (fun r_9 m_10 h => ?_)
    refine q_if_eq (tgt := 27) X dX10_allowedWaste_20 (by decide) (fun c_11 => ?_) (fun c_11 => ?_)
    · have h := h.1 c_11
      refine q_aload_n (j := 1) X dX10_allowedWaste_27 rfl rfl ?_
      refine q_iload_n (j := 0) X dX10_allowedWaste_28 rfl rfl ?_
      refine q_calli (q_runV X hK hZ zo (gm (t := 30) (by decide) (ok1 (t := 30) (Nat.le_of_ble_eq_true rfl))) rfl rfl [.int r_1] [] rfl rfl (Nat.le_of_ble_eq_true rfl) dX10_allowedWaste_29 ⟨Nat.le_of_ble_eq_true rfl, Nat.le_of_ble_eq_true rfl⟩ (c_X10_allowed ax r_1 m_10 _ h) rfl rfl (gV kw_8_22 kw_8_24 ks_121 kw_1_11 kw_8_25) hy_X10_allowed ⟨Nat.le_of_ble_eq_true rfl, Nat.le_of_ble_eq_true rfl⟩) (fun r_12 m_13 h => ?_)
      obtain ⟨h, hm⟩ := h
      subst hm
      exact hE _ _ _ _ dX10_allowedWaste_32 h
    · have h := h.2 c_11
      refine q_iconst (v := 0) X dX10_allowedWaste_23 (by decide) ?_
      refine q_goto (tgt := 32) X dX10_allowedWaste_24 (by decide) ?_
      exact hE _ _ _ _ dX10_allowedWaste_32 h
theorem dX10_meanDuty_0 : decode cX10_meanDuty 0 = .ok (.aload_n 0, 1) := by decide +kernel
theorem dX10_meanDuty_1 : decode cX10_meanDuty 1 = .ok (.iconst 0, 1) := by decide +kernel
theorem dX10_meanDuty_2 : decode cX10_meanDuty 2 = .ok (.putfield 29, 3) := by decide +kernel
theorem dX10_meanDuty_5 : decode cX10_meanDuty 5 = .ok (.aload_n 0, 1) := by decide +kernel
theorem dX10_meanDuty_6 : decode cX10_meanDuty 6 = .ok (.getfield 13, 3) := by decide +kernel
theorem dX10_meanDuty_9 : decode cX10_meanDuty 9 = .ok (.bipush 117, 2) := by decide +kernel
theorem dX10_meanDuty_11 : decode cX10_meanDuty 11 = .ok (.iaload, 1) := by decide +kernel
theorem dX10_meanDuty_12 : decode cX10_meanDuty 12 = .ok (.ifCond .ne 7, 3) := by decide +kernel
theorem dX10_meanDuty_15 : decode cX10_meanDuty 15 = .ok (.dconst 0, 1) := by decide +kernel
theorem dX10_meanDuty_16 : decode cX10_meanDuty 16 = .ok (.goto 17, 3) := by decide +kernel
theorem dX10_meanDuty_19 : decode cX10_meanDuty 19 = .ok (.aload_n 0, 1) := by decide +kernel
theorem dX10_meanDuty_20 : decode cX10_meanDuty 20 = .ok (.invokevirtual 120, 3) := by decide +kernel
theorem dX10_meanDuty_23 : decode cX10_meanDuty 23 = .ok (.i2d, 1) := by decide +kernel
theorem dX10_meanDuty_24 : decode cX10_meanDuty 24 = .ok (.aload_n 0, 1) := by decide +kernel
theorem dX10_meanDuty_25 : decode cX10_meanDuty 25 = .ok (.getfield 13, 3) := by decide +kernel
theorem dX10_meanDuty_28 : decode cX10_meanDuty 28 = .ok (.bipush 117, 2) := by decide +kernel
theorem dX10_meanDuty_30 : decode cX10_meanDuty 30 = .ok (.iaload, 1) := by decide +kernel
theorem dX10_meanDuty_31 : decode cX10_meanDuty 31 = .ok (.i2d, 1) := by decide +kernel
theorem dX10_meanDuty_32 : decode cX10_meanDuty 32 = .ok (.ddiv, 1) := by decide +kernel
theorem dX10_meanDuty_33 : decode cX10_meanDuty 33 = .ok (.dreturn, 1) := by decide +kernel
def w_X10_meanDuty  (mm : Mm) (Q9 : UInt64 → Mm → Prop) : Prop :=
  ∀ m_1 : Mm, m_1 = sI mm 30 1 0 0 → (((¬ (m_1.1 32 1 117) = 0 → w_X10_stake m_1 (fun (r_3 : Int32) => vf_n64 (FP.ddiv (FP.i2d r_3) (FP.i2d (m_1.1 32 1 117))) ∧ (Q9 (FP.ddiv (FP.i2d r_3) (FP.i2d (m_1.1 32 1 117))) m_1))) ∧
  ((m_1.1 32 1 117) = 0 → Q9 FP.dconst0 m_1)))
def rm_X10_meanDuty : Room := { frames := 5, cells := 0, slots := 0, locals := 111 }
theorem hy_X10_meanDuty : yX10_meanDuty.cls = RX10 ∧ yX10_meanDuty.cls ≠ "java/lang/invoke/MethodHandle" ∧ yX10_meanDuty.cls ≠ "java/lang/invoke/VarHandle" ∧ (parseMethodDescriptor yX10_meanDuty.desc).map (fun d => d.parameters.length) = some 0 := by decide +kernel
set_option maxRecDepth 100000 in
set_option maxHeartbeats 4000000 in
theorem c_X10_meanDuty {l : Launch} {D : va_G} {cA : Nat → ClassId} {ad : Nat → Nat → Nat} {A : Nat → Prop} (ax : Ax ad GM A)  (mm : Mm) (Q9 : UInt64 → Mm → Prop) (h : w_X10_meanDuty mm Q9) : Met l yX10_meanDuty (.code yX10_meanDuty cX10_meanDuty 1 (some .double) :: TG) rm_X10_meanDuty (PcM TT D cA ad false GM (ZM) [.ref (ad 30 1)] mm) (AnsD TT D cA ad false GM A Q9) 0 0 A := by
  have zo := ZM_ok A
  unfold w_X10_meanDuty at h
  refine enterD pl_X10 ⟨rfl, rfl⟩ rfl (Nat.le_of_ble_eq_true rfl) ?_
  intro p e s m args below meth c QQ X hK hZ hnm hE
  refine q_aload_n (j := 0) X dX10_meanDuty_0 rfl rfl ?_
  refine q_iconst (v := 0) X dX10_meanDuty_1 (by decide) ?_
  refine q_putI (k := 0) X ax hK rfl rfl (Nat.le_of_ble_eq_true rfl) inTX10 (gm (t := 30) (by decide) (ok1 (t := 30) (Nat.le_of_ble_eq_true rfl))) tyX10 tyX10_ok nmX10 kw_7_7 rfl rfl (tyX10_ok 0 (Nat.le_of_ble_eq_true rfl)) rfl dX10_meanDuty_2 ?_
  refine q_nmP (fun m_1 em_1 => ?_)
  have h := h m_1 em_1
  refine q_aload_n (j := 0) X dX10_meanDuty_5 rfl rfl ?_
  refine q_get (k := 3) (v := .ref (ad 32 1)) X hK rfl rfl (Nat.le_of_ble_eq_true rfl) inTX10 (gm (t := 30) (by decide) (ok1 (t := 30) (Nat.le_of_ble_eq_true rfl))) kw_7_10 rfl (rv_nn (a := ad 32) (r := 1) (ok1 (t := 32) (Nat.le_of_ble_eq_true rfl)).1) dX10_meanDuty_6 ?_
  refine q_bipush (v := 117) X dX10_meanDuty_9 (by decide) ?_
  refine q_iald (t := 32) (i := 1) (jn := 117) (v := .int (m_1.1 32 1 117)) X hK rfl rfl (gm (t := 32) (by decide) (ok1 (t := 32) (Nat.le_of_ble_eq_true rfl))) rfl (vpl (by decide +kernel)) (by decide +kernel) rfl dX10_meanDuty_11 ?_
  refine q_if_ne (tgt := 19) X dX10_meanDuty_12 (by decide) (fun c_2 => ?_) (fun c_2 => ?_)
  · have h := h.1 c_2
    refine q_aload_n (j := 0) X dX10_meanDuty_19 rfl rfl ?_
    refine q_calli (q_runV X hK hZ zo (gm (t := 30) (by decide) (ok1 (t := 30) (Nat.le_of_ble_eq_true rfl))) rfl rfl [] [] rfl rfl (Nat.le_of_ble_eq_true rfl) dX10_meanDuty_20 ⟨Nat.le_of_ble_eq_true rfl, Nat.le_of_ble_eq_true rfl⟩ (c_X10_stake ax m_1 _ h) rfl rfl (gV kw_7_99 kw_7_101 ks_89 kw_1_11 kw_7_102) hy_X10_stake ⟨Nat.le_of_ble_eq_true rfl, Nat.le_of_ble_eq_true rfl⟩) (fun r_3 m_4 h => ?_)
    obtain ⟨h, hm⟩ := h
    subst hm
    refine q_i2d X dX10_meanDuty_23 ?_
    refine q_aload_n (j := 0) X dX10_meanDuty_24 rfl rfl ?_
    refine q_get (k := 3) (v := .ref (ad 32 1)) X hK rfl rfl (Nat.le_of_ble_eq_true rfl) inTX10 (gm (t := 30) (by decide) (ok1 (t := 30) (Nat.le_of_ble_eq_true rfl))) kw_7_10 rfl (rv_nn (a := ad 32) (r := 1) (ok1 (t := 32) (Nat.le_of_ble_eq_true rfl)).1) dX10_meanDuty_25 ?_
    refine q_bipush (v := 117) X dX10_meanDuty_28 (by decide) ?_
    refine q_iald (t := 32) (i := 1) (jn := 117) (v := .int (m_1.1 32 1 117)) X hK rfl rfl (gm (t := 32) (by decide) (ok1 (t := 32) (Nat.le_of_ble_eq_true rfl))) rfl (vpl (by decide +kernel)) (by decide +kernel) rfl dX10_meanDuty_30 ?_
    refine q_i2d X dX10_meanDuty_31 ?_
    obtain ⟨c_5, h⟩ := h
    refine q_ddiv X dX10_meanDuty_32 c_5 ?_
    exact hE _ _ _ _ dX10_meanDuty_33 h
  · have h := h.2 c_2
    refine q_dconst0 X dX10_meanDuty_15 ?_
    refine q_goto (tgt := 33) X dX10_meanDuty_16 (by decide) ?_
    exact hE _ _ _ _ dX10_meanDuty_33 h
theorem dX10_noChamber_0 : decode cX10_noChamber 0 = .ok (.aload_n 0, 1) := by decide +kernel
theorem dX10_noChamber_1 : decode cX10_noChamber 1 = .ok (.iload_n 1, 1) := by decide +kernel
theorem dX10_noChamber_2 : decode cX10_noChamber 2 = .ok (.invokestatic 137, 3) := by decide +kernel
theorem dX10_noChamber_5 : decode cX10_noChamber 5 = .ok (.ifCond .eq 7, 3) := by decide +kernel
theorem dX10_noChamber_8 : decode cX10_noChamber 8 = .ok (.iconst 0, 1) := by decide +kernel
theorem dX10_noChamber_9 : decode cX10_noChamber 9 = .ok (.goto 4, 3) := by decide +kernel
theorem dX10_noChamber_12 : decode cX10_noChamber 12 = .ok (.iconst 1, 1) := by decide +kernel
theorem dX10_noChamber_13 : decode cX10_noChamber 13 = .ok (.invokevirtual 147, 3) := by decide +kernel
theorem dX10_noChamber_16 : decode cX10_noChamber 16 = .ok (.ireturn, 1) := by decide +kernel
def w_X10_noChamber (p0 : Int32) (mm : Mm) (Q9 : Int32 → Mm → Prop) : Prop :=
  w_X10_isChamber p0 mm (fun (r_1 : Int32) => ((r_1 = 0 → w_X10_refused 1 mm (fun (r_4 : Int32) (m_5 : Mm) => isB r_4 ∧ Q9 r_4 m_5)) ∧
  (¬ r_1 = 0 → w_X10_refused 0 mm (fun (r_7 : Int32) (m_8 : Mm) => isB r_7 ∧ Q9 r_7 m_8))))
def rm_X10_noChamber : Room := { frames := 2, cells := 0, slots := 0, locals := 45 }
theorem hy_X10_noChamber : yX10_noChamber.cls = RX10 ∧ yX10_noChamber.cls ≠ "java/lang/invoke/MethodHandle" ∧ yX10_noChamber.cls ≠ "java/lang/invoke/VarHandle" ∧ (parseMethodDescriptor yX10_noChamber.desc).map (fun d => d.parameters.length) = some 1 := by decide +kernel
set_option maxRecDepth 100000 in
set_option maxHeartbeats 4000000 in
theorem c_X10_noChamber {l : Launch} {D : va_G} {cA : Nat → ClassId} {ad : Nat → Nat → Nat} {A : Nat → Prop} (ax : Ax ad GM A) (p0 : Int32) (mm : Mm) (Q9 : Int32 → Mm → Prop) (h : w_X10_noChamber p0 mm Q9) : Met l yX10_noChamber (.code yX10_noChamber cX10_noChamber 2 (some .boolean) :: TG) rm_X10_noChamber (PcM TT D cA ad false GM (ZM) [.ref (ad 30 1), .int p0] mm) (AnsI TT D cA ad false GM A Q9) 0 0 A := by
  have zo := ZM_ok A
  unfold w_X10_noChamber at h
  refine enterZ pl_X10 ⟨rfl, rfl⟩ rfl (Nat.le_of_ble_eq_true rfl) ?_
  intro p e s m args below meth c QQ X hK hZ hnm hE
  refine q_aload_n (j := 0) X dX10_noChamber_0 rfl rfl ?_
  refine q_iload_n (j := 1) X dX10_noChamber_1 rfl rfl ?_
  refine q_calli (q_runS X hK hZ zo [.int p0] [.ref (ad 30 1)] rfl rfl (Nat.le_of_ble_eq_true rfl) dX10_noChamber_2 ⟨Nat.le_of_ble_eq_true rfl, Nat.le_of_ble_eq_true rfl⟩ (c_X10_isChamber ax p0 mm _ h) rfl rfl (gS kw_7_79 kw_7_80 kw_1_11 kw_7_81) hy_X10_isChamber.2 ⟨Nat.le_of_ble_eq_true rfl, Nat.le_of_ble_eq_true rfl⟩) (fun r_1 m_2 h => ?_)
  obtain ⟨h, hm⟩ := h
  subst hm
  refine q_if_eq (tgt := 12) X dX10_noChamber_5 (by decide) (fun c_3 => ?_) (fun c_3 => ?_)
  · have h := h.1 c_3
    refine q_iconst (v := 1) X dX10_noChamber_12 (by decide) ?_
    refine q_calli (q_runV X hK hZ zo (gm (t := 30) (by decide) (ok1 (t := 30) (Nat.le_of_ble_eq_true rfl))) rfl rfl [.int 1] [] rfl rfl (Nat.le_of_ble_eq_true rfl) dX10_noChamber_13 ⟨Nat.le_of_ble_eq_true rfl, Nat.le_of_ble_eq_true rfl⟩ (c_X10_refused ax 1 mm _ h) rfl rfl (gV kw_7_126 kw_7_128 ks_95 kw_1_11 kw_7_129) hy_X10_refused ⟨Nat.le_of_ble_eq_true rfl, Nat.le_of_ble_eq_true rfl⟩) (fun r_4 m_5 h => ?_)
    obtain ⟨b_6, h⟩ := h
    exact hE _ _ _ _ dX10_noChamber_16 b_6 h
  · have h := h.2 c_3
    refine q_iconst (v := 0) X dX10_noChamber_8 (by decide) ?_
    refine q_goto (tgt := 13) X dX10_noChamber_9 (by decide) ?_
    refine q_calli (q_runV X hK hZ zo (gm (t := 30) (by decide) (ok1 (t := 30) (Nat.le_of_ble_eq_true rfl))) rfl rfl [.int 0] [] rfl rfl (Nat.le_of_ble_eq_true rfl) dX10_noChamber_13 ⟨Nat.le_of_ble_eq_true rfl, Nat.le_of_ble_eq_true rfl⟩ (c_X10_refused ax 0 mm _ h) rfl rfl (gV kw_7_126 kw_7_128 ks_95 kw_1_11 kw_7_129) hy_X10_refused ⟨Nat.le_of_ble_eq_true rfl, Nat.le_of_ble_eq_true rfl⟩) (fun r_7 m_8 h => ?_)
    obtain ⟨b_9, h⟩ := h
    exact hE _ _ _ _ dX10_noChamber_16 b_9 h
theorem dX10_isLocked_0 : decode cX10_isLocked 0 = .ok (.aload_n 0, 1) := by decide +kernel
theorem dX10_isLocked_1 : decode cX10_isLocked 1 = .ok (.iload_n 1, 1) := by decide +kernel
theorem dX10_isLocked_2 : decode cX10_isLocked 2 = .ok (.invokevirtual 233, 3) := by decide +kernel
theorem dX10_isLocked_5 : decode cX10_isLocked 5 = .ok (.ifCond .ne 15, 3) := by decide +kernel
theorem dX10_isLocked_8 : decode cX10_isLocked 8 = .ok (.aload_n 0, 1) := by decide +kernel
theorem dX10_isLocked_9 : decode cX10_isLocked 9 = .ok (.iload_n 1, 1) := by decide +kernel
theorem dX10_isLocked_10 : decode cX10_isLocked 10 = .ok (.invokevirtual 117, 3) := by decide +kernel
theorem dX10_isLocked_13 : decode cX10_isLocked 13 = .ok (.ifCond .eq 7, 3) := by decide +kernel
theorem dX10_isLocked_16 : decode cX10_isLocked 16 = .ok (.iconst 1, 1) := by decide +kernel
theorem dX10_isLocked_17 : decode cX10_isLocked 17 = .ok (.goto 4, 3) := by decide +kernel
theorem dX10_isLocked_20 : decode cX10_isLocked 20 = .ok (.iconst 0, 1) := by decide +kernel
theorem dX10_isLocked_21 : decode cX10_isLocked 21 = .ok (.ireturn, 1) := by decide +kernel
def w_X10_isLocked (p0 : Int32) (mm : Mm) (Q9 : Int32 → Mm → Prop) : Prop :=
  w_X10_noChamber p0 mm (fun (r_1 : Int32) (m_2 : Mm) => ((¬ r_1 = 0 → Q9 0 m_2) ∧
  (r_1 = 0 → w_X10_isShut p0 m_2 (fun (r_4 : Int32) => ((r_4 = 0 → Q9 0 m_2) ∧
  (¬ r_4 = 0 → Q9 1 m_2))))))
def rm_X10_isLocked : Room := { frames := 3, cells := 0, slots := 0, locals := 66 }
theorem hy_X10_isLocked : yX10_isLocked.cls = RX10 ∧ yX10_isLocked.cls ≠ "java/lang/invoke/MethodHandle" ∧ yX10_isLocked.cls ≠ "java/lang/invoke/VarHandle" ∧ (parseMethodDescriptor yX10_isLocked.desc).map (fun d => d.parameters.length) = some 1 := by decide +kernel
set_option maxRecDepth 100000 in
set_option maxHeartbeats 4000000 in
theorem c_X10_isLocked {l : Launch} {D : va_G} {cA : Nat → ClassId} {ad : Nat → Nat → Nat} {A : Nat → Prop} (ax : Ax ad GM A) (p0 : Int32) (mm : Mm) (Q9 : Int32 → Mm → Prop) (h : w_X10_isLocked p0 mm Q9) : Met l yX10_isLocked (.code yX10_isLocked cX10_isLocked 2 (some .boolean) :: TG) rm_X10_isLocked (PcM TT D cA ad false GM (ZM) [.ref (ad 30 1), .int p0] mm) (AnsI TT D cA ad false GM A Q9) 0 0 A := by
  have zo := ZM_ok A
  unfold w_X10_isLocked at h
  refine enterZ pl_X10 ⟨rfl, rfl⟩ rfl (Nat.le_of_ble_eq_true rfl) ?_
  intro p e s m args below meth c QQ X hK hZ hnm hE
  refine q_aload_n (j := 0) X dX10_isLocked_0 rfl rfl ?_
  refine q_iload_n (j := 1) X dX10_isLocked_1 rfl rfl ?_
  refine q_calli (q_runV X hK hZ zo (gm (t := 30) (by decide) (ok1 (t := 30) (Nat.le_of_ble_eq_true rfl))) rfl rfl [.int p0] [] rfl rfl (Nat.le_of_ble_eq_true rfl) dX10_isLocked_2 ⟨Nat.le_of_ble_eq_true rfl, Nat.le_of_ble_eq_true rfl⟩ (c_X10_noChamber ax p0 mm _ h) rfl rfl (gV kw_8_174 kw_8_176 ks_132 kw_1_11 kw_8_177) hy_X10_noChamber ⟨Nat.le_of_ble_eq_true rfl, Nat.le_of_ble_eq_true rfl⟩) (fun r_1 m_2 h => ?_)
  refine q_if_ne (tgt := 20) X dX10_isLocked_5 (by decide) (fun c_3 => ?_) (fun c_3 => ?_)
  · have h := h.1 c_3
    refine q_iconst (v := 0) X dX10_isLocked_20 (by decide) ?_
    exact hE _ _ _ _ dX10_isLocked_21 (Or.inl rfl) h
  · have h := h.2 c_3
    refine q_aload_n (j := 0) X dX10_isLocked_8 rfl rfl ?_
    refine q_iload_n (j := 1) X dX10_isLocked_9 rfl rfl ?_
    refine q_calli (q_runV X hK hZ zo (gm (t := 30) (by decide) (ok1 (t := 30) (Nat.le_of_ble_eq_true rfl))) rfl rfl [.int p0] [] rfl rfl (Nat.le_of_ble_eq_true rfl) dX10_isLocked_10 ⟨Nat.le_of_ble_eq_true rfl, Nat.le_of_ble_eq_true rfl⟩ (c_X10_isShut ax p0 m_2 _ h) rfl rfl (gV kw_7_87 kw_7_89 ks_86 kw_1_11 kw_7_90) hy_X10_isShut ⟨Nat.le_of_ble_eq_true rfl, Nat.le_of_ble_eq_true rfl⟩) (fun r_4 m_5 h => ?_)
    obtain ⟨h, hm⟩ := h
    subst hm
    refine q_if_eq (tgt := 20) X dX10_isLocked_13 (by decide) (fun c_6 => ?_) (fun c_6 => ?_)
    · have h := h.1 c_6
      refine q_iconst (v := 0) X dX10_isLocked_20 (by decide) ?_
      exact hE _ _ _ _ dX10_isLocked_21 (Or.inl rfl) h
    · have h := h.2 c_6
      refine q_iconst (v := 1) X dX10_isLocked_16 (by decide) ?_
      refine q_goto (tgt := 21) X dX10_isLocked_17 (by decide) ?_
      exact hE _ _ _ _ dX10_isLocked_21 (Or.inr rfl) h
theorem dX10_sealOf_0 : decode cX10_sealOf 0 = .ok (.aload_n 0, 1) := by decide +kernel
theorem dX10_sealOf_1 : decode cX10_sealOf 1 = .ok (.iload_n 1, 1) := by decide +kernel
theorem dX10_sealOf_2 : decode cX10_sealOf 2 = .ok (.invokevirtual 233, 3) := by decide +kernel
theorem dX10_sealOf_5 : decode cX10_sealOf 5 = .ok (.ifCond .eq 7, 3) := by decide +kernel
theorem dX10_sealOf_8 : decode cX10_sealOf 8 = .ok (.iconst 0, 1) := by decide +kernel
theorem dX10_sealOf_9 : decode cX10_sealOf 9 = .ok (.goto 24, 3) := by decide +kernel
theorem dX10_sealOf_12 : decode cX10_sealOf 12 = .ok (.aload_n 0, 1) := by decide +kernel
theorem dX10_sealOf_13 : decode cX10_sealOf 13 = .ok (.iload_n 1, 1) := by decide +kernel
theorem dX10_sealOf_14 : decode cX10_sealOf 14 = .ok (.invokevirtual 117, 3) := by decide +kernel
theorem dX10_sealOf_17 : decode cX10_sealOf 17 = .ok (.ifCond .eq 15, 3) := by decide +kernel
theorem dX10_sealOf_20 : decode cX10_sealOf 20 = .ok (.aload_n 0, 1) := by decide +kernel
theorem dX10_sealOf_21 : decode cX10_sealOf 21 = .ok (.getfield 13, 3) := by decide +kernel
theorem dX10_sealOf_24 : decode cX10_sealOf 24 = .ok (.bipush 10, 2) := by decide +kernel
theorem dX10_sealOf_26 : decode cX10_sealOf 26 = .ok (.iload_n 1, 1) := by decide +kernel
theorem dX10_sealOf_27 : decode cX10_sealOf 27 = .ok (.iadd, 1) := by decide +kernel
theorem dX10_sealOf_28 : decode cX10_sealOf 28 = .ok (.iaload, 1) := by decide +kernel
theorem dX10_sealOf_29 : decode cX10_sealOf 29 = .ok (.goto 4, 3) := by decide +kernel
theorem dX10_sealOf_32 : decode cX10_sealOf 32 = .ok (.iconst (-1), 1) := by decide +kernel
theorem dX10_sealOf_33 : decode cX10_sealOf 33 = .ok (.ireturn, 1) := by decide +kernel
def w_X10_sealOf (p0 : Int32) (mm : Mm) (Q9 : Int32 → Mm → Prop) : Prop :=
  w_X10_noChamber p0 mm (fun (r_1 : Int32) (m_2 : Mm) => ((r_1 = 0 → w_X10_isShut p0 m_2 (fun (r_4 : Int32) => ((r_4 = 0 → Q9 (-1) m_2) ∧
  (¬ r_4 = 0 → vp_in (10 + p0) 246 ∧ (Q9 (m_2.1 32 1 (10 + p0).toNatClampNeg) m_2))))) ∧
  (¬ r_1 = 0 → Q9 0 m_2)))
def rm_X10_sealOf : Room := { frames := 3, cells := 0, slots := 0, locals := 66 }
theorem hy_X10_sealOf : yX10_sealOf.cls = RX10 ∧ yX10_sealOf.cls ≠ "java/lang/invoke/MethodHandle" ∧ yX10_sealOf.cls ≠ "java/lang/invoke/VarHandle" ∧ (parseMethodDescriptor yX10_sealOf.desc).map (fun d => d.parameters.length) = some 1 := by decide +kernel
set_option maxRecDepth 100000 in
set_option maxHeartbeats 4000000 in
theorem c_X10_sealOf {l : Launch} {D : va_G} {cA : Nat → ClassId} {ad : Nat → Nat → Nat} {A : Nat → Prop} (ax : Ax ad GM A) (p0 : Int32) (mm : Mm) (Q9 : Int32 → Mm → Prop) (h : w_X10_sealOf p0 mm Q9) : Met l yX10_sealOf (.code yX10_sealOf cX10_sealOf 2 (some .int) :: TG) rm_X10_sealOf (PcM TT D cA ad false GM (ZM) [.ref (ad 30 1), .int p0] mm) (AnsI TT D cA ad false GM A Q9) 0 0 A := by
  have zo := ZM_ok A
  unfold w_X10_sealOf at h
  refine enterI pl_X10 ⟨rfl, rfl⟩ rfl (Nat.le_of_ble_eq_true rfl) ?_
  intro p e s m args below meth c QQ X hK hZ hnm hE
  refine q_aload_n (j := 0) X dX10_sealOf_0 rfl rfl ?_
  refine q_iload_n (j := 1) X dX10_sealOf_1 rfl rfl ?_
  refine q_calli (q_runV X hK hZ zo (gm (t := 30) (by decide) (ok1 (t := 30) (Nat.le_of_ble_eq_true rfl))) rfl rfl [.int p0] [] rfl rfl (Nat.le_of_ble_eq_true rfl) dX10_sealOf_2 ⟨Nat.le_of_ble_eq_true rfl, Nat.le_of_ble_eq_true rfl⟩ (c_X10_noChamber ax p0 mm _ h) rfl rfl (gV kw_8_174 kw_8_176 ks_132 kw_1_11 kw_8_177) hy_X10_noChamber ⟨Nat.le_of_ble_eq_true rfl, Nat.le_of_ble_eq_true rfl⟩) (fun r_1 m_2 h => ?_)
  refine q_if_eq (tgt := 12) X dX10_sealOf_5 (by decide) (fun c_3 => ?_) (fun c_3 => ?_)
  · have h := h.1 c_3
    refine q_aload_n (j := 0) X dX10_sealOf_12 rfl rfl ?_
    refine q_iload_n (j := 1) X dX10_sealOf_13 rfl rfl ?_
    refine q_calli (q_runV X hK hZ zo (gm (t := 30) (by decide) (ok1 (t := 30) (Nat.le_of_ble_eq_true rfl))) rfl rfl [.int p0] [] rfl rfl (Nat.le_of_ble_eq_true rfl) dX10_sealOf_14 ⟨Nat.le_of_ble_eq_true rfl, Nat.le_of_ble_eq_true rfl⟩ (c_X10_isShut ax p0 m_2 _ h) rfl rfl (gV kw_7_87 kw_7_89 ks_86 kw_1_11 kw_7_90) hy_X10_isShut ⟨Nat.le_of_ble_eq_true rfl, Nat.le_of_ble_eq_true rfl⟩) (fun r_4 m_5 h => ?_)
    obtain ⟨h, hm⟩ := h
    subst hm
    refine q_if_eq (tgt := 32) X dX10_sealOf_17 (by decide) (fun c_6 => ?_) (fun c_6 => ?_)
    · have h := h.1 c_6
      refine q_iconst (v := (-1)) X dX10_sealOf_32 (by decide) ?_
      exact hE _ _ _ _ dX10_sealOf_33 h
    · have h := h.2 c_6
      refine q_aload_n (j := 0) X dX10_sealOf_20 rfl rfl ?_
      refine q_get (k := 3) (v := .ref (ad 32 1)) X hK rfl rfl (Nat.le_of_ble_eq_true rfl) inTX10 (gm (t := 30) (by decide) (ok1 (t := 30) (Nat.le_of_ble_eq_true rfl))) kw_7_10 rfl (rv_nn (a := ad 32) (r := 1) (ok1 (t := 32) (Nat.le_of_ble_eq_true rfl)).1) dX10_sealOf_21 ?_
      refine q_bipush (v := 10) X dX10_sealOf_24 (by decide) ?_
      refine q_iload_n (j := 1) X dX10_sealOf_26 rfl rfl ?_
      refine q_iadd X dX10_sealOf_27 ?_
      obtain ⟨b_7, h⟩ := h
      refine q_iald (t := 32) (i := 1) (jn := (10 + p0).toNatClampNeg) (v := .int (m_2.1 32 1 (10 + p0).toNatClampNeg)) X hK rfl rfl (gm (t := 32) (by decide) (ok1 (t := 32) (Nat.le_of_ble_eq_true rfl))) rfl b_7 rfl rfl dX10_sealOf_28 ?_
      refine q_goto (tgt := 33) X dX10_sealOf_29 (by decide) ?_
      exact hE _ _ _ _ dX10_sealOf_33 h
  · have h := h.2 c_3
    refine q_iconst (v := 0) X dX10_sealOf_8 (by decide) ?_
    refine q_goto (tgt := 33) X dX10_sealOf_9 (by decide) ?_
    exact hE _ _ _ _ dX10_sealOf_33 h
theorem dX10_isSealBroken_0 : decode cX10_isSealBroken 0 = .ok (.aload_n 0, 1) := by decide +kernel
theorem dX10_isSealBroken_1 : decode cX10_isSealBroken 1 = .ok (.iload_n 1, 1) := by decide +kernel
theorem dX10_isSealBroken_2 : decode cX10_isSealBroken 2 = .ok (.invokevirtual 233, 3) := by decide +kernel
theorem dX10_isSealBroken_5 : decode cX10_isSealBroken 5 = .ok (.ifCond .ne 20, 3) := by decide +kernel
theorem dX10_isSealBroken_8 : decode cX10_isSealBroken 8 = .ok (.aload_n 0, 1) := by decide +kernel
theorem dX10_isSealBroken_9 : decode cX10_isSealBroken 9 = .ok (.getfield 13, 3) := by decide +kernel
theorem dX10_isSealBroken_12 : decode cX10_isSealBroken 12 = .ok (.bipush 15, 2) := by decide +kernel
theorem dX10_isSealBroken_14 : decode cX10_isSealBroken 14 = .ok (.iload_n 1, 1) := by decide +kernel
theorem dX10_isSealBroken_15 : decode cX10_isSealBroken 15 = .ok (.iadd, 1) := by decide +kernel
theorem dX10_isSealBroken_16 : decode cX10_isSealBroken 16 = .ok (.iaload, 1) := by decide +kernel
theorem dX10_isSealBroken_17 : decode cX10_isSealBroken 17 = .ok (.iconst 1, 1) := by decide +kernel
theorem dX10_isSealBroken_18 : decode cX10_isSealBroken 18 = .ok (.if_icmp .ne 7, 3) := by decide +kernel
theorem dX10_isSealBroken_21 : decode cX10_isSealBroken 21 = .ok (.iconst 1, 1) := by decide +kernel
theorem dX10_isSealBroken_22 : decode cX10_isSealBroken 22 = .ok (.goto 4, 3) := by decide +kernel
theorem dX10_isSealBroken_25 : decode cX10_isSealBroken 25 = .ok (.iconst 0, 1) := by decide +kernel
theorem dX10_isSealBroken_26 : decode cX10_isSealBroken 26 = .ok (.ireturn, 1) := by decide +kernel
def w_X10_isSealBroken (p0 : Int32) (mm : Mm) (Q9 : Int32 → Mm → Prop) : Prop :=
  w_X10_noChamber p0 mm (fun (r_1 : Int32) (m_2 : Mm) => ((¬ r_1 = 0 → Q9 0 m_2) ∧
  (r_1 = 0 → vp_in (15 + p0) 246 ∧ (((¬ (m_2.1 32 1 (15 + p0).toNatClampNeg) = 1 → Q9 0 m_2) ∧
  ((m_2.1 32 1 (15 + p0).toNatClampNeg) = 1 → Q9 1 m_2))))))
def rm_X10_isSealBroken : Room := { frames := 3, cells := 0, slots := 0, locals := 66 }
theorem hy_X10_isSealBroken : yX10_isSealBroken.cls = RX10 ∧ yX10_isSealBroken.cls ≠ "java/lang/invoke/MethodHandle" ∧ yX10_isSealBroken.cls ≠ "java/lang/invoke/VarHandle" ∧ (parseMethodDescriptor yX10_isSealBroken.desc).map (fun d => d.parameters.length) = some 1 := by decide +kernel
set_option maxRecDepth 100000 in
set_option maxHeartbeats 4000000 in
theorem c_X10_isSealBroken {l : Launch} {D : va_G} {cA : Nat → ClassId} {ad : Nat → Nat → Nat} {A : Nat → Prop} (ax : Ax ad GM A) (p0 : Int32) (mm : Mm) (Q9 : Int32 → Mm → Prop) (h : w_X10_isSealBroken p0 mm Q9) : Met l yX10_isSealBroken (.code yX10_isSealBroken cX10_isSealBroken 2 (some .boolean) :: TG) rm_X10_isSealBroken (PcM TT D cA ad false GM (ZM) [.ref (ad 30 1), .int p0] mm) (AnsI TT D cA ad false GM A Q9) 0 0 A := by
  have zo := ZM_ok A
  unfold w_X10_isSealBroken at h
  refine enterZ pl_X10 ⟨rfl, rfl⟩ rfl (Nat.le_of_ble_eq_true rfl) ?_
  intro p e s m args below meth c QQ X hK hZ hnm hE
  refine q_aload_n (j := 0) X dX10_isSealBroken_0 rfl rfl ?_
  refine q_iload_n (j := 1) X dX10_isSealBroken_1 rfl rfl ?_
  refine q_calli (q_runV X hK hZ zo (gm (t := 30) (by decide) (ok1 (t := 30) (Nat.le_of_ble_eq_true rfl))) rfl rfl [.int p0] [] rfl rfl (Nat.le_of_ble_eq_true rfl) dX10_isSealBroken_2 ⟨Nat.le_of_ble_eq_true rfl, Nat.le_of_ble_eq_true rfl⟩ (c_X10_noChamber ax p0 mm _ h) rfl rfl (gV kw_8_174 kw_8_176 ks_132 kw_1_11 kw_8_177) hy_X10_noChamber ⟨Nat.le_of_ble_eq_true rfl, Nat.le_of_ble_eq_true rfl⟩) (fun r_1 m_2 h => ?_)
  refine q_if_ne (tgt := 25) X dX10_isSealBroken_5 (by decide) (fun c_3 => ?_) (fun c_3 => ?_)
  · have h := h.1 c_3
    refine q_iconst (v := 0) X dX10_isSealBroken_25 (by decide) ?_
    exact hE _ _ _ _ dX10_isSealBroken_26 (Or.inl rfl) h
  · have h := h.2 c_3
    refine q_aload_n (j := 0) X dX10_isSealBroken_8 rfl rfl ?_
    refine q_get (k := 3) (v := .ref (ad 32 1)) X hK rfl rfl (Nat.le_of_ble_eq_true rfl) inTX10 (gm (t := 30) (by decide) (ok1 (t := 30) (Nat.le_of_ble_eq_true rfl))) kw_7_10 rfl (rv_nn (a := ad 32) (r := 1) (ok1 (t := 32) (Nat.le_of_ble_eq_true rfl)).1) dX10_isSealBroken_9 ?_
    refine q_bipush (v := 15) X dX10_isSealBroken_12 (by decide) ?_
    refine q_iload_n (j := 1) X dX10_isSealBroken_14 rfl rfl ?_
    refine q_iadd X dX10_isSealBroken_15 ?_
    obtain ⟨b_4, h⟩ := h
    refine q_iald (t := 32) (i := 1) (jn := (15 + p0).toNatClampNeg) (v := .int (m_2.1 32 1 (15 + p0).toNatClampNeg)) X hK rfl rfl (gm (t := 32) (by decide) (ok1 (t := 32) (Nat.le_of_ble_eq_true rfl))) rfl b_4 rfl rfl dX10_isSealBroken_16 ?_
    refine q_iconst (v := 1) X dX10_isSealBroken_17 (by decide) ?_
    refine q_icmp_ne (tgt := 25) X dX10_isSealBroken_18 (by decide) (fun c_5 => ?_) (fun c_5 => ?_)
    · have h := h.1 c_5
      refine q_iconst (v := 0) X dX10_isSealBroken_25 (by decide) ?_
      exact hE _ _ _ _ dX10_isSealBroken_26 (Or.inl rfl) h
    · have h := h.2 c_5
      refine q_iconst (v := 1) X dX10_isSealBroken_21 (by decide) ?_
      refine q_goto (tgt := 26) X dX10_isSealBroken_22 (by decide) ?_
      exact hE _ _ _ _ dX10_isSealBroken_26 (Or.inr rfl) h
theorem dX10_entriesIn_0 : decode cX10_entriesIn 0 = .ok (.aload_n 0, 1) := by decide +kernel
theorem dX10_entriesIn_1 : decode cX10_entriesIn 1 = .ok (.iload_n 1, 1) := by decide +kernel
theorem dX10_entriesIn_2 : decode cX10_entriesIn 2 = .ok (.invokevirtual 233, 3) := by decide +kernel
theorem dX10_entriesIn_5 : decode cX10_entriesIn 5 = .ok (.ifCond .eq 5, 3) := by decide +kernel
theorem dX10_entriesIn_8 : decode cX10_entriesIn 8 = .ok (.iconst 0, 1) := by decide +kernel
theorem dX10_entriesIn_9 : decode cX10_entriesIn 9 = .ok (.ireturn, 1) := by decide +kernel
theorem dX10_entriesIn_10 : decode cX10_entriesIn 10 = .ok (.iconst 0, 1) := by decide +kernel
theorem dX10_entriesIn_11 : decode cX10_entriesIn 11 = .ok (.istore_n 2, 1) := by decide +kernel
theorem dX10_entriesIn_12 : decode cX10_entriesIn 12 = .ok (.iconst 0, 1) := by decide +kernel
theorem dX10_entriesIn_13 : decode cX10_entriesIn 13 = .ok (.istore_n 3, 1) := by decide +kernel
theorem dX10_entriesIn_14 : decode cX10_entriesIn 14 = .ok (.iload_n 3, 1) := by decide +kernel
theorem dX10_entriesIn_15 : decode cX10_entriesIn 15 = .ok (.aload_n 0, 1) := by decide +kernel
theorem dX10_entriesIn_16 : decode cX10_entriesIn 16 = .ok (.getfield 13, 3) := by decide +kernel
theorem dX10_entriesIn_19 : decode cX10_entriesIn 19 = .ok (.bipush 117, 2) := by decide +kernel
theorem dX10_entriesIn_21 : decode cX10_entriesIn 21 = .ok (.iaload, 1) := by decide +kernel
theorem dX10_entriesIn_22 : decode cX10_entriesIn 22 = .ok (.if_icmp .ge 27, 3) := by decide +kernel
theorem dX10_entriesIn_25 : decode cX10_entriesIn 25 = .ok (.iload_n 2, 1) := by decide +kernel
theorem dX10_entriesIn_26 : decode cX10_entriesIn 26 = .ok (.aload_n 0, 1) := by decide +kernel
theorem dX10_entriesIn_27 : decode cX10_entriesIn 27 = .ok (.iload_n 3, 1) := by decide +kernel
theorem dX10_entriesIn_28 : decode cX10_entriesIn 28 = .ok (.iconst 4, 1) := by decide +kernel
theorem dX10_entriesIn_29 : decode cX10_entriesIn 29 = .ok (.invokevirtual 41, 3) := by decide +kernel
theorem dX10_entriesIn_32 : decode cX10_entriesIn 32 = .ok (.iload_n 1, 1) := by decide +kernel
theorem dX10_entriesIn_33 : decode cX10_entriesIn 33 = .ok (.if_icmp .ne 7, 3) := by decide +kernel
theorem dX10_entriesIn_36 : decode cX10_entriesIn 36 = .ok (.iconst 1, 1) := by decide +kernel
theorem dX10_entriesIn_37 : decode cX10_entriesIn 37 = .ok (.goto 4, 3) := by decide +kernel
theorem dX10_entriesIn_40 : decode cX10_entriesIn 40 = .ok (.iconst 0, 1) := by decide +kernel
theorem dX10_entriesIn_41 : decode cX10_entriesIn 41 = .ok (.iadd, 1) := by decide +kernel
theorem dX10_entriesIn_42 : decode cX10_entriesIn 42 = .ok (.istore_n 2, 1) := by decide +kernel
theorem dX10_entriesIn_43 : decode cX10_entriesIn 43 = .ok (.iinc 3 1, 3) := by decide +kernel
theorem dX10_entriesIn_46 : decode cX10_entriesIn 46 = .ok (.goto (-32), 3) := by decide +kernel
theorem dX10_entriesIn_49 : decode cX10_entriesIn 49 = .ok (.iload_n 2, 1) := by decide +kernel
theorem dX10_entriesIn_50 : decode cX10_entriesIn 50 = .ok (.ireturn, 1) := by decide +kernel
def w_X10_entriesIn_B14 (p0 : Int32) (Q9 : Int32 → Mm → Prop) (m_2 : Mm) (K_6 : Int32 → Int32 → Prop) (y_4 : Int32) (y_5 : Int32) : Prop :=
  (((m_2.1 32 1 117) ≤ y_5 → Q9 y_4 m_2) ∧
  (¬ (m_2.1 32 1 117) ≤ y_5 → w_X10_of y_5 4 m_2 (fun (r_9 : Int32) => ((¬ r_9 = p0 → ∀ x_12 : Int32, x_12 = (y_4 + 0) → (∀ x_13 : Int32, x_13 = y_5 + 1 → (K_6 x_12 x_13))) ∧
  (r_9 = p0 → ∀ x_14 : Int32, x_14 = (y_4 + 1) → (∀ x_15 : Int32, x_15 = y_5 + 1 → (K_6 x_14 x_15)))))))
def w_X10_entriesIn (p0 : Int32) (mm : Mm) (Q9 : Int32 → Mm → Prop) : Prop :=
  w_X10_noChamber p0 mm (fun (r_1 : Int32) (m_2 : Mm) => ((r_1 = 0 → ∃ n, itr (α := Int32 × Int32) (fun K a => w_X10_entriesIn_B14 p0 Q9 m_2 (fun z0 z1 => K (z0, z1)) a.1 a.2) n (0, 0)) ∧
  (¬ r_1 = 0 → Q9 0 m_2)))
def rm_X10_entriesIn : Room := { frames := 3, cells := 0, slots := 0, locals := 66 }
theorem hy_X10_entriesIn : yX10_entriesIn.cls = RX10 ∧ yX10_entriesIn.cls ≠ "java/lang/invoke/MethodHandle" ∧ yX10_entriesIn.cls ≠ "java/lang/invoke/VarHandle" ∧ (parseMethodDescriptor yX10_entriesIn.desc).map (fun d => d.parameters.length) = some 1 := by decide +kernel
set_option maxRecDepth 100000 in
set_option maxHeartbeats 4000000 in
theorem c_X10_entriesIn {l : Launch} {D : va_G} {cA : Nat → ClassId} {ad : Nat → Nat → Nat} {A : Nat → Prop} (ax : Ax ad GM A) (p0 : Int32) (mm : Mm) (Q9 : Int32 → Mm → Prop) (h : w_X10_entriesIn p0 mm Q9) : Met l yX10_entriesIn (.code yX10_entriesIn cX10_entriesIn 4 (some .int) :: TG) rm_X10_entriesIn (PcM TT D cA ad false GM (ZM) [.ref (ad 30 1), .int p0] mm) (AnsI TT D cA ad false GM A Q9) 0 0 A := by
  have zo := ZM_ok A
  unfold w_X10_entriesIn at h
  refine enterI pl_X10 ⟨rfl, rfl⟩ rfl (Nat.le_of_ble_eq_true rfl) ?_
  intro p e s m args below meth c QQ X hK hZ hnm hE
  refine q_aload_n (j := 0) X dX10_entriesIn_0 rfl rfl ?_
  refine q_iload_n (j := 1) X dX10_entriesIn_1 rfl rfl ?_
  refine q_calli (q_runV X hK hZ zo (gm (t := 30) (by decide) (ok1 (t := 30) (Nat.le_of_ble_eq_true rfl))) rfl rfl [.int p0] [] rfl rfl (Nat.le_of_ble_eq_true rfl) dX10_entriesIn_2 ⟨Nat.le_of_ble_eq_true rfl, Nat.le_of_ble_eq_true rfl⟩ (c_X10_noChamber ax p0 mm _ h) rfl rfl (gV kw_8_174 kw_8_176 ks_132 kw_1_11 kw_8_177) hy_X10_noChamber ⟨Nat.le_of_ble_eq_true rfl, Nat.le_of_ble_eq_true rfl⟩) (fun r_1 m_2 h => ?_)
  refine q_if_eq (tgt := 10) X dX10_entriesIn_5 (by decide) (fun c_3 => ?_) (fun c_3 => ?_)
  · have h := h.1 c_3
    refine q_iconst (v := 0) X dX10_entriesIn_10 (by decide) ?_
    refine q_istore_n (lv' := [(2, .int 0), (0, .ref (ad 30 1)), (1, .int p0)]) X dX10_entriesIn_11 rfl (by decide) rfl ?_
    refine q_iconst (v := 0) X dX10_entriesIn_12 (by decide) ?_
    refine q_istore_n (lv' := [(3, .int 0), (2, .int 0), (0, .ref (ad 30 1)), (1, .int p0)]) X dX10_entriesIn_13 rfl (by decide) rfl ?_
    refine q_sub [2, 3, 1, 0] rfl ?_
    have L14 : ∀ (n : Nat) (y_4 : Int32) (y_5 : Int32), itr (α := Int32 × Int32) (fun K a => w_X10_entriesIn_B14 p0 Q9 m_2 (fun z0 z1 => K (z0, z1)) a.1 a.2) n (y_4, y_5) → V p l e rm_X10_entriesIn s m args below meth c QQ 4 A 0 0 (Rep TT D cA ad false GM m_2) 14 [(0, .ref (ad 30 1)), (1, .int p0), (2, .int y_4), (3, .int y_5)] [] := by
      intro n
      induction n with
      | zero => intro y_4 y_5 h; exact h.elim
      | succ n ih_7 =>
        intro y_4 y_5 h
        have h : w_X10_entriesIn_B14 p0 Q9 m_2 (fun z0 z1 => itr (α := Int32 × Int32) (fun K a => w_X10_entriesIn_B14 p0 Q9 m_2 (fun z0 z1 => K (z0, z1)) a.1 a.2) n (z0, z1)) y_4 y_5 := h
        unfold w_X10_entriesIn_B14 at h
        refine q_iload_n (j := 3) X dX10_entriesIn_14 rfl rfl ?_
        refine q_aload_n (j := 0) X dX10_entriesIn_15 rfl rfl ?_
        refine q_get (k := 3) (v := .ref (ad 32 1)) X hK rfl rfl (Nat.le_of_ble_eq_true rfl) inTX10 (gm (t := 30) (by decide) (ok1 (t := 30) (Nat.le_of_ble_eq_true rfl))) kw_7_10 rfl (rv_nn (a := ad 32) (r := 1) (ok1 (t := 32) (Nat.le_of_ble_eq_true rfl)).1) dX10_entriesIn_16 ?_
        refine q_bipush (v := 117) X dX10_entriesIn_19 (by decide) ?_
        refine q_iald (t := 32) (i := 1) (jn := 117) (v := .int (m_2.1 32 1 117)) X hK rfl rfl (gm (t := 32) (by decide) (ok1 (t := 32) (Nat.le_of_ble_eq_true rfl))) rfl (vpl (by decide +kernel)) (by decide +kernel) rfl dX10_entriesIn_21 ?_
        refine q_icmp_ge (tgt := 49) X dX10_entriesIn_22 (by decide) (fun c_8 => ?_) (fun c_8 => ?_)
        · have h := h.1 c_8
          refine q_iload_n (j := 2) X dX10_entriesIn_49 rfl rfl ?_
          exact hE _ _ _ _ dX10_entriesIn_50 h
        · have h := h.2 c_8
          refine q_iload_n (j := 2) X dX10_entriesIn_25 rfl rfl ?_
          refine q_aload_n (j := 0) X dX10_entriesIn_26 rfl rfl ?_
          refine q_iload_n (j := 3) X dX10_entriesIn_27 rfl rfl ?_
          refine q_iconst (v := 4) X dX10_entriesIn_28 (by decide) ?_
          refine q_calli (q_runV X hK hZ zo (gm (t := 30) (by decide) (ok1 (t := 30) (Nat.le_of_ble_eq_true rfl))) rfl rfl [.int y_5, .int 4] [.int y_4] rfl rfl (Nat.le_of_ble_eq_true rfl) dX10_entriesIn_29 ⟨Nat.le_of_ble_eq_true rfl, Nat.le_of_ble_eq_true rfl⟩ (c_X10_of ax y_5 4 m_2 _ h) rfl rfl (gV kw_7_95 kw_7_97 ks_88 kw_1_11 kw_7_98) hy_X10_of ⟨Nat.le_of_ble_eq_true rfl, Nat.le_of_ble_eq_true rfl⟩) (fun r_9 m_10 h => ?_)
          obtain ⟨h, hm⟩ := h
          subst hm
          refine q_iload_n (j := 1) X dX10_entriesIn_32 rfl rfl ?_
          refine q_icmp_ne (tgt := 40) X dX10_entriesIn_33 (by decide) (fun c_11 => ?_) (fun c_11 => ?_)
          · have h := h.1 c_11
            refine q_iconst (v := 0) X dX10_entriesIn_40 (by decide) ?_
            refine q_iadd X dX10_entriesIn_41 ?_
            refine q_topi (fun x_12 ex_12 => ?_)
            have h := h x_12 ex_12
            refine q_istore_n (lv' := [(2, .int x_12), (0, .ref (ad 30 1)), (1, .int p0), (3, .int y_5)]) X dX10_entriesIn_42 rfl (by decide) rfl ?_
            obtain ⟨x_13, ex_13⟩ : ∃ z : Int32, z = y_5 + 1 := ⟨_, rfl⟩
            have h := h x_13 ex_13
            refine q_iinc (j := 3) (v := x_13) (lv' := [(3, .int x_13), (2, .int x_12), (0, .ref (ad 30 1)), (1, .int p0)]) X dX10_entriesIn_43 rfl (by rw [ex_13]; rfl) (by decide) rfl ?_
            refine q_goto (tgt := 14) X dX10_entriesIn_46 (by decide) ?_
            refine q_sub [2, 3, 1, 0] rfl ?_
            exact ih_7 x_12 x_13 h
          · have h := h.2 c_11
            refine q_iconst (v := 1) X dX10_entriesIn_36 (by decide) ?_
            refine q_goto (tgt := 41) X dX10_entriesIn_37 (by decide) ?_
            refine q_iadd X dX10_entriesIn_41 ?_
            refine q_topi (fun x_14 ex_14 => ?_)
            have h := h x_14 ex_14
            refine q_istore_n (lv' := [(2, .int x_14), (0, .ref (ad 30 1)), (1, .int p0), (3, .int y_5)]) X dX10_entriesIn_42 rfl (by decide) rfl ?_
            obtain ⟨x_15, ex_15⟩ : ∃ z : Int32, z = y_5 + 1 := ⟨_, rfl⟩
            have h := h x_15 ex_15
            refine q_iinc (j := 3) (v := x_15) (lv' := [(3, .int x_15), (2, .int x_14), (0, .ref (ad 30 1)), (1, .int p0)]) X dX10_entriesIn_43 rfl (by rw [ex_15]; rfl) (by decide) rfl ?_
            refine q_goto (tgt := 14) X dX10_entriesIn_46 (by decide) ?_
            refine q_sub [2, 3, 1, 0] rfl ?_
            exact ih_7 x_14 x_15 h
    obtain ⟨n_16, h⟩ := h
    exact L14 n_16 0 0 h
  · have h := h.2 c_3
    refine q_iconst (v := 0) X dX10_entriesIn_8 (by decide) ?_
    exact hE _ _ _ _ dX10_entriesIn_9 h
theorem dX10_roomIn_0 : decode cX10_roomIn 0 = .ok (.aload_n 0, 1) := by decide +kernel
theorem dX10_roomIn_1 : decode cX10_roomIn 1 = .ok (.iload_n 1, 1) := by decide +kernel
theorem dX10_roomIn_2 : decode cX10_roomIn 2 = .ok (.invokevirtual 233, 3) := by decide +kernel
theorem dX10_roomIn_5 : decode cX10_roomIn 5 = .ok (.ifCond .eq 7, 3) := by decide +kernel
theorem dX10_roomIn_8 : decode cX10_roomIn 8 = .ok (.iconst 0, 1) := by decide +kernel
theorem dX10_roomIn_9 : decode cX10_roomIn 9 = .ok (.goto 8, 3) := by decide +kernel
theorem dX10_roomIn_12 : decode cX10_roomIn 12 = .ok (.aload_n 0, 1) := by decide +kernel
theorem dX10_roomIn_13 : decode cX10_roomIn 13 = .ok (.iload_n 1, 1) := by decide +kernel
theorem dX10_roomIn_14 : decode cX10_roomIn 14 = .ok (.invokevirtual 94, 3) := by decide +kernel
theorem dX10_roomIn_17 : decode cX10_roomIn 17 = .ok (.ireturn, 1) := by decide +kernel
def w_X10_roomIn (p0 : Int32) (mm : Mm) (Q9 : Int32 → Mm → Prop) : Prop :=
  w_X10_noChamber p0 mm (fun (r_1 : Int32) (m_2 : Mm) => ((r_1 = 0 → w_X10_room p0 m_2 (fun (r_4 : Int32) => Q9 r_4 m_2)) ∧
  (¬ r_1 = 0 → Q9 0 m_2)))
def rm_X10_roomIn : Room := { frames := 3, cells := 0, slots := 0, locals := 66 }
theorem hy_X10_roomIn : yX10_roomIn.cls = RX10 ∧ yX10_roomIn.cls ≠ "java/lang/invoke/MethodHandle" ∧ yX10_roomIn.cls ≠ "java/lang/invoke/VarHandle" ∧ (parseMethodDescriptor yX10_roomIn.desc).map (fun d => d.parameters.length) = some 1 := by decide +kernel
set_option maxRecDepth 100000 in
set_option maxHeartbeats 4000000 in
theorem c_X10_roomIn {l : Launch} {D : va_G} {cA : Nat → ClassId} {ad : Nat → Nat → Nat} {A : Nat → Prop} (ax : Ax ad GM A) (p0 : Int32) (mm : Mm) (Q9 : Int32 → Mm → Prop) (h : w_X10_roomIn p0 mm Q9) : Met l yX10_roomIn (.code yX10_roomIn cX10_roomIn 2 (some .int) :: TG) rm_X10_roomIn (PcM TT D cA ad false GM (ZM) [.ref (ad 30 1), .int p0] mm) (AnsI TT D cA ad false GM A Q9) 0 0 A := by
  have zo := ZM_ok A
  unfold w_X10_roomIn at h
  refine enterI pl_X10 ⟨rfl, rfl⟩ rfl (Nat.le_of_ble_eq_true rfl) ?_
  intro p e s m args below meth c QQ X hK hZ hnm hE
  refine q_aload_n (j := 0) X dX10_roomIn_0 rfl rfl ?_
  refine q_iload_n (j := 1) X dX10_roomIn_1 rfl rfl ?_
  refine q_calli (q_runV X hK hZ zo (gm (t := 30) (by decide) (ok1 (t := 30) (Nat.le_of_ble_eq_true rfl))) rfl rfl [.int p0] [] rfl rfl (Nat.le_of_ble_eq_true rfl) dX10_roomIn_2 ⟨Nat.le_of_ble_eq_true rfl, Nat.le_of_ble_eq_true rfl⟩ (c_X10_noChamber ax p0 mm _ h) rfl rfl (gV kw_8_174 kw_8_176 ks_132 kw_1_11 kw_8_177) hy_X10_noChamber ⟨Nat.le_of_ble_eq_true rfl, Nat.le_of_ble_eq_true rfl⟩) (fun r_1 m_2 h => ?_)
  refine q_if_eq (tgt := 12) X dX10_roomIn_5 (by decide) (fun c_3 => ?_) (fun c_3 => ?_)
  · have h := h.1 c_3
    refine q_aload_n (j := 0) X dX10_roomIn_12 rfl rfl ?_
    refine q_iload_n (j := 1) X dX10_roomIn_13 rfl rfl ?_
    refine q_calli (q_runV X hK hZ zo (gm (t := 30) (by decide) (ok1 (t := 30) (Nat.le_of_ble_eq_true rfl))) rfl rfl [.int p0] [] rfl rfl (Nat.le_of_ble_eq_true rfl) dX10_roomIn_14 ⟨Nat.le_of_ble_eq_true rfl, Nat.le_of_ble_eq_true rfl⟩ (c_X10_room ax p0 m_2 _ h) rfl rfl (gV kw_7_91 kw_7_93 ks_87 kw_1_11 kw_7_94) hy_X10_room ⟨Nat.le_of_ble_eq_true rfl, Nat.le_of_ble_eq_true rfl⟩) (fun r_4 m_5 h => ?_)
    obtain ⟨h, hm⟩ := h
    subst hm
    exact hE _ _ _ _ dX10_roomIn_17 h
  · have h := h.2 c_3
    refine q_iconst (v := 0) X dX10_roomIn_8 (by decide) ?_
    refine q_goto (tgt := 17) X dX10_roomIn_9 (by decide) ?_
    exact hE _ _ _ _ dX10_roomIn_17 h
theorem dX10_receipts_0 : decode cX10_receipts 0 = .ok (.aload_n 0, 1) := by decide +kernel
theorem dX10_receipts_1 : decode cX10_receipts 1 = .ok (.aload_n 0, 1) := by decide +kernel
theorem dX10_receipts_2 : decode cX10_receipts 2 = .ok (.getfield 13, 3) := by decide +kernel
theorem dX10_receipts_5 : decode cX10_receipts 5 = .ok (.bipush 68, 2) := by decide +kernel
theorem dX10_receipts_7 : decode cX10_receipts 7 = .ok (.iaload, 1) := by decide +kernel
theorem dX10_receipts_8 : decode cX10_receipts 8 = .ok (.invokevirtual 227, 3) := by decide +kernel
theorem dX10_receipts_11 : decode cX10_receipts 11 = .ok (.ireturn, 1) := by decide +kernel
def w_X10_receipts  (mm : Mm) (Q9 : Int32 → Mm → Prop) : Prop :=
  w_X10_told (mm.1 32 1 68) mm (fun (r_1 : Int32) (m_2 : Mm) => Q9 r_1 m_2)
def rm_X10_receipts : Room := { frames := 1, cells := 0, slots := 0, locals := 21 }
theorem hy_X10_receipts : yX10_receipts.cls = RX10 ∧ yX10_receipts.cls ≠ "java/lang/invoke/MethodHandle" ∧ yX10_receipts.cls ≠ "java/lang/invoke/VarHandle" ∧ (parseMethodDescriptor yX10_receipts.desc).map (fun d => d.parameters.length) = some 0 := by decide +kernel
set_option maxRecDepth 100000 in
set_option maxHeartbeats 4000000 in
theorem c_X10_receipts {l : Launch} {D : va_G} {cA : Nat → ClassId} {ad : Nat → Nat → Nat} {A : Nat → Prop} (ax : Ax ad GM A)  (mm : Mm) (Q9 : Int32 → Mm → Prop) (h : w_X10_receipts mm Q9) : Met l yX10_receipts (.code yX10_receipts cX10_receipts 1 (some .int) :: TG) rm_X10_receipts (PcM TT D cA ad false GM (ZM) [.ref (ad 30 1)] mm) (AnsI TT D cA ad false GM A Q9) 0 0 A := by
  have zo := ZM_ok A
  unfold w_X10_receipts at h
  refine enterI pl_X10 ⟨rfl, rfl⟩ rfl (Nat.le_of_ble_eq_true rfl) ?_
  intro p e s m args below meth c QQ X hK hZ hnm hE
  refine q_aload_n (j := 0) X dX10_receipts_0 rfl rfl ?_
  refine q_aload_n (j := 0) X dX10_receipts_1 rfl rfl ?_
  refine q_get (k := 3) (v := .ref (ad 32 1)) X hK rfl rfl (Nat.le_of_ble_eq_true rfl) inTX10 (gm (t := 30) (by decide) (ok1 (t := 30) (Nat.le_of_ble_eq_true rfl))) kw_7_10 rfl (rv_nn (a := ad 32) (r := 1) (ok1 (t := 32) (Nat.le_of_ble_eq_true rfl)).1) dX10_receipts_2 ?_
  refine q_bipush (v := 68) X dX10_receipts_5 (by decide) ?_
  refine q_iald (t := 32) (i := 1) (jn := 68) (v := .int (mm.1 32 1 68)) X hK rfl rfl (gm (t := 32) (by decide) (ok1 (t := 32) (Nat.le_of_ble_eq_true rfl))) rfl (vpl (by decide +kernel)) (by decide +kernel) rfl dX10_receipts_7 ?_
  refine q_calli (q_runV X hK hZ zo (gm (t := 30) (by decide) (ok1 (t := 30) (Nat.le_of_ble_eq_true rfl))) rfl rfl [.int (mm.1 32 1 68)] [] rfl rfl (Nat.le_of_ble_eq_true rfl) dX10_receipts_8 ⟨Nat.le_of_ble_eq_true rfl, Nat.le_of_ble_eq_true rfl⟩ (c_X10_told ax (mm.1 32 1 68) mm _ h) rfl rfl (gV kw_8_102 kw_8_104 ks_130 kw_1_11 kw_8_105) hy_X10_told ⟨Nat.le_of_ble_eq_true rfl, Nat.le_of_ble_eq_true rfl⟩) (fun r_1 m_2 h => ?_)
  exact hE _ _ _ _ dX10_receipts_11 h
theorem dX10_ofPaper_0 : decode cX10_ofPaper 0 = .ok (.aload_n 0, 1) := by decide +kernel
theorem dX10_ofPaper_1 : decode cX10_ofPaper 1 = .ok (.aload_n 0, 1) := by decide +kernel
theorem dX10_ofPaper_2 : decode cX10_ofPaper 2 = .ok (.iload_n 1, 1) := by decide +kernel
theorem dX10_ofPaper_3 : decode cX10_ofPaper 3 = .ok (.invokevirtual 171, 3) := by decide +kernel
theorem dX10_ofPaper_6 : decode cX10_ofPaper 6 = .ok (.ifCond .eq 7, 3) := by decide +kernel
theorem dX10_ofPaper_9 : decode cX10_ofPaper 9 = .ok (.iconst 0, 1) := by decide +kernel
theorem dX10_ofPaper_10 : decode cX10_ofPaper 10 = .ok (.goto 4, 3) := by decide +kernel
theorem dX10_ofPaper_13 : decode cX10_ofPaper 13 = .ok (.iconst 1, 1) := by decide +kernel
theorem dX10_ofPaper_14 : decode cX10_ofPaper 14 = .ok (.invokevirtual 147, 3) := by decide +kernel
theorem dX10_ofPaper_17 : decode cX10_ofPaper 17 = .ok (.ifCond .eq 7, 3) := by decide +kernel
theorem dX10_ofPaper_20 : decode cX10_ofPaper 20 = .ok (.iconst 0, 1) := by decide +kernel
theorem dX10_ofPaper_21 : decode cX10_ofPaper 21 = .ok (.goto 16, 3) := by decide +kernel
theorem dX10_ofPaper_24 : decode cX10_ofPaper 24 = .ok (.aload_n 0, 1) := by decide +kernel
theorem dX10_ofPaper_25 : decode cX10_ofPaper 25 = .ok (.getfield 13, 3) := by decide +kernel
theorem dX10_ofPaper_28 : decode cX10_ofPaper 28 = .ok (.bipush 69, 2) := by decide +kernel
theorem dX10_ofPaper_30 : decode cX10_ofPaper 30 = .ok (.iconst 4, 1) := by decide +kernel
theorem dX10_ofPaper_31 : decode cX10_ofPaper 31 = .ok (.iload_n 1, 1) := by decide +kernel
theorem dX10_ofPaper_32 : decode cX10_ofPaper 32 = .ok (.imul, 1) := by decide +kernel
theorem dX10_ofPaper_33 : decode cX10_ofPaper 33 = .ok (.iadd, 1) := by decide +kernel
theorem dX10_ofPaper_34 : decode cX10_ofPaper 34 = .ok (.iload_n 2, 1) := by decide +kernel
theorem dX10_ofPaper_35 : decode cX10_ofPaper 35 = .ok (.iadd, 1) := by decide +kernel
theorem dX10_ofPaper_36 : decode cX10_ofPaper 36 = .ok (.iaload, 1) := by decide +kernel
theorem dX10_ofPaper_37 : decode cX10_ofPaper 37 = .ok (.ireturn, 1) := by decide +kernel
def w_X10_ofPaper_J14 (p0 : Int32) (p1 : Int32) (mm : Mm) (Q9 : Int32 → Mm → Prop) (y_3 : Int32) : Prop :=
  w_X10_refused y_3 mm (fun (r_4 : Int32) (m_5 : Mm) => ((r_4 = 0 → vp_in ((69 + (4 * p0)) + p1) 246 ∧ (Q9 (m_5.1 32 1 ((69 + (4 * p0)) + p1).toNatClampNeg) m_5)) ∧
  (¬ r_4 = 0 → Q9 0 m_5)))
def w_X10_ofPaper (p0 : Int32) (p1 : Int32) (mm : Mm) (Q9 : Int32 → Mm → Prop) : Prop :=
  w_X10_isPaper p0 mm (fun (r_1 : Int32) => ((r_1 = 0 → w_X10_ofPaper_J14 p0 p1 mm Q9 1) ∧
  (¬ r_1 = 0 → w_X10_ofPaper_J14 p0 p1 mm Q9 0)))
def rm_X10_ofPaper : Room := { frames := 2, cells := 0, slots := 0, locals := 46 }
theorem hy_X10_ofPaper : yX10_ofPaper.cls = RX10 ∧ yX10_ofPaper.cls ≠ "java/lang/invoke/MethodHandle" ∧ yX10_ofPaper.cls ≠ "java/lang/invoke/VarHandle" ∧ (parseMethodDescriptor yX10_ofPaper.desc).map (fun d => d.parameters.length) = some 2 := by decide +kernel
set_option maxRecDepth 100000 in
set_option maxHeartbeats 4000000 in
theorem c_X10_ofPaper {l : Launch} {D : va_G} {cA : Nat → ClassId} {ad : Nat → Nat → Nat} {A : Nat → Prop} (ax : Ax ad GM A) (p0 : Int32) (p1 : Int32) (mm : Mm) (Q9 : Int32 → Mm → Prop) (h : w_X10_ofPaper p0 p1 mm Q9) : Met l yX10_ofPaper (.code yX10_ofPaper cX10_ofPaper 3 (some .int) :: TG) rm_X10_ofPaper (PcM TT D cA ad false GM (ZM) [.ref (ad 30 1), .int p0, .int p1] mm) (AnsI TT D cA ad false GM A Q9) 0 0 A := by
  have zo := ZM_ok A
  unfold w_X10_ofPaper at h
  refine enterI pl_X10 ⟨rfl, rfl⟩ rfl (Nat.le_of_ble_eq_true rfl) ?_
  intro p e s m args below meth c QQ X hK hZ hnm hE
  refine q_aload_n (j := 0) X dX10_ofPaper_0 rfl rfl ?_
  refine q_aload_n (j := 0) X dX10_ofPaper_1 rfl rfl ?_
  refine q_iload_n (j := 1) X dX10_ofPaper_2 rfl rfl ?_
  refine q_calli (q_runV X hK hZ zo (gm (t := 30) (by decide) (ok1 (t := 30) (Nat.le_of_ble_eq_true rfl))) rfl rfl [.int p0] [.ref (ad 30 1)] rfl rfl (Nat.le_of_ble_eq_true rfl) dX10_ofPaper_3 ⟨Nat.le_of_ble_eq_true rfl, Nat.le_of_ble_eq_true rfl⟩ (c_X10_isPaper ax p0 mm _ h) rfl rfl (gV kw_7_201 kw_7_203 ks_110 kw_1_11 kw_7_204) hy_X10_isPaper ⟨Nat.le_of_ble_eq_true rfl, Nat.le_of_ble_eq_true rfl⟩) (fun r_1 m_2 h => ?_)
  obtain ⟨h, hm⟩ := h
  subst hm
  have J14 : ∀ (y_3 : Int32), w_X10_ofPaper_J14 p0 p1 mm Q9 y_3 → V p l e rm_X10_ofPaper s m args below meth c QQ 3 A 0 0 (Rep TT D cA ad false GM mm) 14 [(0, .ref (ad 30 1)), (1, .int p0), (2, .int p1)] [.int y_3, .ref (ad 30 1)] := by
    intro y_3 h
    unfold w_X10_ofPaper_J14 at h
    refine q_calli (q_runV X hK hZ zo (gm (t := 30) (by decide) (ok1 (t := 30) (Nat.le_of_ble_eq_true rfl))) rfl rfl [.int y_3] [] rfl rfl (Nat.le_of_ble_eq_true rfl) dX10_ofPaper_14 ⟨Nat.le_of_ble_eq_true rfl, Nat.le_of_ble_eq_true rfl⟩ (c_X10_refused ax y_3 mm _ h) rfl rfl (gV kw_7_126 kw_7_128 ks_95 kw_1_11 kw_7_129) hy_X10_refused ⟨Nat.le_of_ble_eq_true rfl, Nat.le_of_ble_eq_true rfl⟩) (fun r_4 m_5 h => ?_)
    refine q_if_eq (tgt := 24) X dX10_ofPaper_17 (by decide) (fun c_6 => ?_) (fun c_6 => ?_)
    · have h := h.1 c_6
      refine q_aload_n (j := 0) X dX10_ofPaper_24 rfl rfl ?_
      refine q_get (k := 3) (v := .ref (ad 32 1)) X hK rfl rfl (Nat.le_of_ble_eq_true rfl) inTX10 (gm (t := 30) (by decide) (ok1 (t := 30) (Nat.le_of_ble_eq_true rfl))) kw_7_10 rfl (rv_nn (a := ad 32) (r := 1) (ok1 (t := 32) (Nat.le_of_ble_eq_true rfl)).1) dX10_ofPaper_25 ?_
      refine q_bipush (v := 69) X dX10_ofPaper_28 (by decide) ?_
      refine q_iconst (v := 4) X dX10_ofPaper_30 (by decide) ?_
      refine q_iload_n (j := 1) X dX10_ofPaper_31 rfl rfl ?_
      refine q_imul X dX10_ofPaper_32 ?_
      refine q_iadd X dX10_ofPaper_33 ?_
      refine q_iload_n (j := 2) X dX10_ofPaper_34 rfl rfl ?_
      refine q_iadd X dX10_ofPaper_35 ?_
      obtain ⟨b_7, h⟩ := h
      refine q_iald (t := 32) (i := 1) (jn := ((69 + (4 * p0)) + p1).toNatClampNeg) (v := .int (m_5.1 32 1 ((69 + (4 * p0)) + p1).toNatClampNeg)) X hK rfl rfl (gm (t := 32) (by decide) (ok1 (t := 32) (Nat.le_of_ble_eq_true rfl))) rfl b_7 rfl rfl dX10_ofPaper_36 ?_
      exact hE _ _ _ _ dX10_ofPaper_37 h
    · have h := h.2 c_6
      refine q_iconst (v := 0) X dX10_ofPaper_20 (by decide) ?_
      refine q_goto (tgt := 37) X dX10_ofPaper_21 (by decide) ?_
      exact hE _ _ _ _ dX10_ofPaper_37 h
  refine q_if_eq (tgt := 13) X dX10_ofPaper_6 (by decide) (fun c_8 => ?_) (fun c_8 => ?_)
  · have h := h.1 c_8
    refine q_iconst (v := 1) X dX10_ofPaper_13 (by decide) ?_
    refine q_sub [0, 1, 2] rfl ?_
    exact J14 1 h
  · have h := h.2 c_8
    refine q_iconst (v := 0) X dX10_ofPaper_9 (by decide) ?_
    refine q_goto (tgt := 14) X dX10_ofPaper_10 (by decide) ?_
    refine q_sub [0, 1, 2] rfl ?_
    exact J14 0 h
theorem dX10_receiptKind_0 : decode cX10_receiptKind 0 = .ok (.aload_n 0, 1) := by decide +kernel
theorem dX10_receiptKind_1 : decode cX10_receiptKind 1 = .ok (.iload_n 1, 1) := by decide +kernel
theorem dX10_receiptKind_2 : decode cX10_receiptKind 2 = .ok (.iconst 0, 1) := by decide +kernel
theorem dX10_receiptKind_3 : decode cX10_receiptKind 3 = .ok (.invokevirtual 236, 3) := by decide +kernel
theorem dX10_receiptKind_6 : decode cX10_receiptKind 6 = .ok (.ireturn, 1) := by decide +kernel
def w_X10_receiptKind (p0 : Int32) (mm : Mm) (Q9 : Int32 → Mm → Prop) : Prop :=
  w_X10_ofPaper p0 0 mm (fun (r_1 : Int32) (m_2 : Mm) => Q9 r_1 m_2)
def rm_X10_receiptKind : Room := { frames := 3, cells := 0, slots := 0, locals := 68 }
theorem hy_X10_receiptKind : yX10_receiptKind.cls = RX10 ∧ yX10_receiptKind.cls ≠ "java/lang/invoke/MethodHandle" ∧ yX10_receiptKind.cls ≠ "java/lang/invoke/VarHandle" ∧ (parseMethodDescriptor yX10_receiptKind.desc).map (fun d => d.parameters.length) = some 1 := by decide +kernel
set_option maxRecDepth 100000 in
set_option maxHeartbeats 4000000 in
theorem c_X10_receiptKind {l : Launch} {D : va_G} {cA : Nat → ClassId} {ad : Nat → Nat → Nat} {A : Nat → Prop} (ax : Ax ad GM A) (p0 : Int32) (mm : Mm) (Q9 : Int32 → Mm → Prop) (h : w_X10_receiptKind p0 mm Q9) : Met l yX10_receiptKind (.code yX10_receiptKind cX10_receiptKind 2 (some .int) :: TG) rm_X10_receiptKind (PcM TT D cA ad false GM (ZM) [.ref (ad 30 1), .int p0] mm) (AnsI TT D cA ad false GM A Q9) 0 0 A := by
  have zo := ZM_ok A
  unfold w_X10_receiptKind at h
  refine enterI pl_X10 ⟨rfl, rfl⟩ rfl (Nat.le_of_ble_eq_true rfl) ?_
  intro p e s m args below meth c QQ X hK hZ hnm hE
  refine q_aload_n (j := 0) X dX10_receiptKind_0 rfl rfl ?_
  refine q_iload_n (j := 1) X dX10_receiptKind_1 rfl rfl ?_
  refine q_iconst (v := 0) X dX10_receiptKind_2 (by decide) ?_
  refine q_calli (q_runV X hK hZ zo (gm (t := 30) (by decide) (ok1 (t := 30) (Nat.le_of_ble_eq_true rfl))) rfl rfl [.int p0, .int 0] [] rfl rfl (Nat.le_of_ble_eq_true rfl) dX10_receiptKind_3 ⟨Nat.le_of_ble_eq_true rfl, Nat.le_of_ble_eq_true rfl⟩ (c_X10_ofPaper ax p0 0 mm _ h) rfl rfl (gV kw_8_202 kw_8_204 ks_133 kw_1_11 kw_8_205) hy_X10_ofPaper ⟨Nat.le_of_ble_eq_true rfl, Nat.le_of_ble_eq_true rfl⟩) (fun r_1 m_2 h => ?_)
  exact hE _ _ _ _ dX10_receiptKind_6 h
theorem dX10_receiptWeight_0 : decode cX10_receiptWeight 0 = .ok (.aload_n 0, 1) := by decide +kernel
theorem dX10_receiptWeight_1 : decode cX10_receiptWeight 1 = .ok (.iload_n 1, 1) := by decide +kernel
theorem dX10_receiptWeight_2 : decode cX10_receiptWeight 2 = .ok (.iconst 1, 1) := by decide +kernel
theorem dX10_receiptWeight_3 : decode cX10_receiptWeight 3 = .ok (.invokevirtual 236, 3) := by decide +kernel
theorem dX10_receiptWeight_6 : decode cX10_receiptWeight 6 = .ok (.ireturn, 1) := by decide +kernel
def w_X10_receiptWeight (p0 : Int32) (mm : Mm) (Q9 : Int32 → Mm → Prop) : Prop :=
  w_X10_ofPaper p0 1 mm (fun (r_1 : Int32) (m_2 : Mm) => Q9 r_1 m_2)
def rm_X10_receiptWeight : Room := { frames := 3, cells := 0, slots := 0, locals := 68 }
theorem hy_X10_receiptWeight : yX10_receiptWeight.cls = RX10 ∧ yX10_receiptWeight.cls ≠ "java/lang/invoke/MethodHandle" ∧ yX10_receiptWeight.cls ≠ "java/lang/invoke/VarHandle" ∧ (parseMethodDescriptor yX10_receiptWeight.desc).map (fun d => d.parameters.length) = some 1 := by decide +kernel
set_option maxRecDepth 100000 in
set_option maxHeartbeats 4000000 in
theorem c_X10_receiptWeight {l : Launch} {D : va_G} {cA : Nat → ClassId} {ad : Nat → Nat → Nat} {A : Nat → Prop} (ax : Ax ad GM A) (p0 : Int32) (mm : Mm) (Q9 : Int32 → Mm → Prop) (h : w_X10_receiptWeight p0 mm Q9) : Met l yX10_receiptWeight (.code yX10_receiptWeight cX10_receiptWeight 2 (some .int) :: TG) rm_X10_receiptWeight (PcM TT D cA ad false GM (ZM) [.ref (ad 30 1), .int p0] mm) (AnsI TT D cA ad false GM A Q9) 0 0 A := by
  have zo := ZM_ok A
  unfold w_X10_receiptWeight at h
  refine enterI pl_X10 ⟨rfl, rfl⟩ rfl (Nat.le_of_ble_eq_true rfl) ?_
  intro p e s m args below meth c QQ X hK hZ hnm hE
  refine q_aload_n (j := 0) X dX10_receiptWeight_0 rfl rfl ?_
  refine q_iload_n (j := 1) X dX10_receiptWeight_1 rfl rfl ?_
  refine q_iconst (v := 1) X dX10_receiptWeight_2 (by decide) ?_
  refine q_calli (q_runV X hK hZ zo (gm (t := 30) (by decide) (ok1 (t := 30) (Nat.le_of_ble_eq_true rfl))) rfl rfl [.int p0, .int 1] [] rfl rfl (Nat.le_of_ble_eq_true rfl) dX10_receiptWeight_3 ⟨Nat.le_of_ble_eq_true rfl, Nat.le_of_ble_eq_true rfl⟩ (c_X10_ofPaper ax p0 1 mm _ h) rfl rfl (gV kw_8_202 kw_8_204 ks_133 kw_1_11 kw_8_205) hy_X10_ofPaper ⟨Nat.le_of_ble_eq_true rfl, Nat.le_of_ble_eq_true rfl⟩) (fun r_1 m_2 h => ?_)
  exact hE _ _ _ _ dX10_receiptWeight_6 h
theorem dX10_receiptDuty_0 : decode cX10_receiptDuty 0 = .ok (.aload_n 0, 1) := by decide +kernel
theorem dX10_receiptDuty_1 : decode cX10_receiptDuty 1 = .ok (.iload_n 1, 1) := by decide +kernel
theorem dX10_receiptDuty_2 : decode cX10_receiptDuty 2 = .ok (.iconst 2, 1) := by decide +kernel
theorem dX10_receiptDuty_3 : decode cX10_receiptDuty 3 = .ok (.invokevirtual 236, 3) := by decide +kernel
theorem dX10_receiptDuty_6 : decode cX10_receiptDuty 6 = .ok (.ireturn, 1) := by decide +kernel
def w_X10_receiptDuty (p0 : Int32) (mm : Mm) (Q9 : Int32 → Mm → Prop) : Prop :=
  w_X10_ofPaper p0 2 mm (fun (r_1 : Int32) (m_2 : Mm) => Q9 r_1 m_2)
def rm_X10_receiptDuty : Room := { frames := 3, cells := 0, slots := 0, locals := 68 }
theorem hy_X10_receiptDuty : yX10_receiptDuty.cls = RX10 ∧ yX10_receiptDuty.cls ≠ "java/lang/invoke/MethodHandle" ∧ yX10_receiptDuty.cls ≠ "java/lang/invoke/VarHandle" ∧ (parseMethodDescriptor yX10_receiptDuty.desc).map (fun d => d.parameters.length) = some 1 := by decide +kernel
set_option maxRecDepth 100000 in
set_option maxHeartbeats 4000000 in
theorem c_X10_receiptDuty {l : Launch} {D : va_G} {cA : Nat → ClassId} {ad : Nat → Nat → Nat} {A : Nat → Prop} (ax : Ax ad GM A) (p0 : Int32) (mm : Mm) (Q9 : Int32 → Mm → Prop) (h : w_X10_receiptDuty p0 mm Q9) : Met l yX10_receiptDuty (.code yX10_receiptDuty cX10_receiptDuty 2 (some .int) :: TG) rm_X10_receiptDuty (PcM TT D cA ad false GM (ZM) [.ref (ad 30 1), .int p0] mm) (AnsI TT D cA ad false GM A Q9) 0 0 A := by
  have zo := ZM_ok A
  unfold w_X10_receiptDuty at h
  refine enterI pl_X10 ⟨rfl, rfl⟩ rfl (Nat.le_of_ble_eq_true rfl) ?_
  intro p e s m args below meth c QQ X hK hZ hnm hE
  refine q_aload_n (j := 0) X dX10_receiptDuty_0 rfl rfl ?_
  refine q_iload_n (j := 1) X dX10_receiptDuty_1 rfl rfl ?_
  refine q_iconst (v := 2) X dX10_receiptDuty_2 (by decide) ?_
  refine q_calli (q_runV X hK hZ zo (gm (t := 30) (by decide) (ok1 (t := 30) (Nat.le_of_ble_eq_true rfl))) rfl rfl [.int p0, .int 2] [] rfl rfl (Nat.le_of_ble_eq_true rfl) dX10_receiptDuty_3 ⟨Nat.le_of_ble_eq_true rfl, Nat.le_of_ble_eq_true rfl⟩ (c_X10_ofPaper ax p0 2 mm _ h) rfl rfl (gV kw_8_202 kw_8_204 ks_133 kw_1_11 kw_8_205) hy_X10_ofPaper ⟨Nat.le_of_ble_eq_true rfl, Nat.le_of_ble_eq_true rfl⟩) (fun r_1 m_2 h => ?_)
  exact hE _ _ _ _ dX10_receiptDuty_6 h
theorem dX10_receiptAge_0 : decode cX10_receiptAge 0 = .ok (.aload_n 0, 1) := by decide +kernel
theorem dX10_receiptAge_1 : decode cX10_receiptAge 1 = .ok (.iload_n 1, 1) := by decide +kernel
theorem dX10_receiptAge_2 : decode cX10_receiptAge 2 = .ok (.iconst 3, 1) := by decide +kernel
theorem dX10_receiptAge_3 : decode cX10_receiptAge 3 = .ok (.invokevirtual 236, 3) := by decide +kernel
theorem dX10_receiptAge_6 : decode cX10_receiptAge 6 = .ok (.istore_n 2, 1) := by decide +kernel
theorem dX10_receiptAge_7 : decode cX10_receiptAge 7 = .ok (.aload_n 0, 1) := by decide +kernel
theorem dX10_receiptAge_8 : decode cX10_receiptAge 8 = .ok (.getfield 29, 3) := by decide +kernel
theorem dX10_receiptAge_11 : decode cX10_receiptAge 11 = .ok (.ifCond .le 7, 3) := by decide +kernel
theorem dX10_receiptAge_14 : decode cX10_receiptAge 14 = .ok (.iconst 0, 1) := by decide +kernel
theorem dX10_receiptAge_15 : decode cX10_receiptAge 15 = .ok (.goto 11, 3) := by decide +kernel
theorem dX10_receiptAge_18 : decode cX10_receiptAge 18 = .ok (.aload_n 0, 1) := by decide +kernel
theorem dX10_receiptAge_19 : decode cX10_receiptAge 19 = .ok (.getfield 13, 3) := by decide +kernel
theorem dX10_receiptAge_22 : decode cX10_receiptAge 22 = .ok (.iconst 0, 1) := by decide +kernel
theorem dX10_receiptAge_23 : decode cX10_receiptAge 23 = .ok (.iaload, 1) := by decide +kernel
theorem dX10_receiptAge_24 : decode cX10_receiptAge 24 = .ok (.iload_n 2, 1) := by decide +kernel
theorem dX10_receiptAge_25 : decode cX10_receiptAge 25 = .ok (.isub, 1) := by decide +kernel
theorem dX10_receiptAge_26 : decode cX10_receiptAge 26 = .ok (.ireturn, 1) := by decide +kernel
def w_X10_receiptAge (p0 : Int32) (mm : Mm) (Q9 : Int32 → Mm → Prop) : Prop :=
  w_X10_ofPaper p0 3 mm (fun (r_1 : Int32) (m_2 : Mm) => (((m_2.1 30 1 0) ≤ 0 → Q9 ((m_2.1 32 1 0) - r_1) m_2) ∧
  (¬ (m_2.1 30 1 0) ≤ 0 → Q9 0 m_2)))
def rm_X10_receiptAge : Room := { frames := 3, cells := 0, slots := 0, locals := 68 }
theorem hy_X10_receiptAge : yX10_receiptAge.cls = RX10 ∧ yX10_receiptAge.cls ≠ "java/lang/invoke/MethodHandle" ∧ yX10_receiptAge.cls ≠ "java/lang/invoke/VarHandle" ∧ (parseMethodDescriptor yX10_receiptAge.desc).map (fun d => d.parameters.length) = some 1 := by decide +kernel
set_option maxRecDepth 100000 in
set_option maxHeartbeats 4000000 in
theorem c_X10_receiptAge {l : Launch} {D : va_G} {cA : Nat → ClassId} {ad : Nat → Nat → Nat} {A : Nat → Prop} (ax : Ax ad GM A) (p0 : Int32) (mm : Mm) (Q9 : Int32 → Mm → Prop) (h : w_X10_receiptAge p0 mm Q9) : Met l yX10_receiptAge (.code yX10_receiptAge cX10_receiptAge 3 (some .int) :: TG) rm_X10_receiptAge (PcM TT D cA ad false GM (ZM) [.ref (ad 30 1), .int p0] mm) (AnsI TT D cA ad false GM A Q9) 0 0 A := by
  have zo := ZM_ok A
  unfold w_X10_receiptAge at h
  refine enterI pl_X10 ⟨rfl, rfl⟩ rfl (Nat.le_of_ble_eq_true rfl) ?_
  intro p e s m args below meth c QQ X hK hZ hnm hE
  refine q_aload_n (j := 0) X dX10_receiptAge_0 rfl rfl ?_
  refine q_iload_n (j := 1) X dX10_receiptAge_1 rfl rfl ?_
  refine q_iconst (v := 3) X dX10_receiptAge_2 (by decide) ?_
  refine q_calli (q_runV X hK hZ zo (gm (t := 30) (by decide) (ok1 (t := 30) (Nat.le_of_ble_eq_true rfl))) rfl rfl [.int p0, .int 3] [] rfl rfl (Nat.le_of_ble_eq_true rfl) dX10_receiptAge_3 ⟨Nat.le_of_ble_eq_true rfl, Nat.le_of_ble_eq_true rfl⟩ (c_X10_ofPaper ax p0 3 mm _ h) rfl rfl (gV kw_8_202 kw_8_204 ks_133 kw_1_11 kw_8_205) hy_X10_ofPaper ⟨Nat.le_of_ble_eq_true rfl, Nat.le_of_ble_eq_true rfl⟩) (fun r_1 m_2 h => ?_)
  refine q_istore_n (lv' := [(2, .int r_1), (0, .ref (ad 30 1)), (1, .int p0)]) X dX10_receiptAge_6 rfl (by decide) rfl ?_
  refine q_aload_n (j := 1) X dX10_receiptAge_7 rfl rfl ?_
  refine q_get (k := 0) (v := .int (m_2.1 30 1 0)) X hK rfl rfl (Nat.le_of_ble_eq_true rfl) inTX10 (gm (t := 30) (by decide) (ok1 (t := 30) (Nat.le_of_ble_eq_true rfl))) kw_7_7 rfl rfl dX10_receiptAge_8 ?_
  refine q_if_le (tgt := 18) X dX10_receiptAge_11 (by decide) (fun c_3 => ?_) (fun c_3 => ?_)
  · have h := h.1 c_3
    refine q_aload_n (j := 1) X dX10_receiptAge_18 rfl rfl ?_
    refine q_get (k := 3) (v := .ref (ad 32 1)) X hK rfl rfl (Nat.le_of_ble_eq_true rfl) inTX10 (gm (t := 30) (by decide) (ok1 (t := 30) (Nat.le_of_ble_eq_true rfl))) kw_7_10 rfl (rv_nn (a := ad 32) (r := 1) (ok1 (t := 32) (Nat.le_of_ble_eq_true rfl)).1) dX10_receiptAge_19 ?_
    refine q_iconst (v := 0) X dX10_receiptAge_22 (by decide) ?_
    refine q_iald (t := 32) (i := 1) (jn := 0) (v := .int (m_2.1 32 1 0)) X hK rfl rfl (gm (t := 32) (by decide) (ok1 (t := 32) (Nat.le_of_ble_eq_true rfl))) rfl (vpl (by decide +kernel)) (by decide +kernel) rfl dX10_receiptAge_23 ?_
    refine q_iload_n (j := 0) X dX10_receiptAge_24 rfl rfl ?_
    refine q_isub X dX10_receiptAge_25 ?_
    exact hE _ _ _ _ dX10_receiptAge_26 h
  · have h := h.2 c_3
    refine q_iconst (v := 0) X dX10_receiptAge_14 (by decide) ?_
    refine q_goto (tgt := 26) X dX10_receiptAge_15 (by decide) ?_
    exact hE _ _ _ _ dX10_receiptAge_26 h
theorem dX10_ofKind_0 : decode cX10_ofKind 0 = .ok (.aload_n 0, 1) := by decide +kernel
theorem dX10_ofKind_1 : decode cX10_ofKind 1 = .ok (.iload_n 1, 1) := by decide +kernel
theorem dX10_ofKind_2 : decode cX10_ofKind 2 = .ok (.invokestatic 129, 3) := by decide +kernel
theorem dX10_ofKind_5 : decode cX10_ofKind 5 = .ok (.ifCond .eq 7, 3) := by decide +kernel
theorem dX10_ofKind_8 : decode cX10_ofKind 8 = .ok (.iconst 0, 1) := by decide +kernel
theorem dX10_ofKind_9 : decode cX10_ofKind 9 = .ok (.goto 4, 3) := by decide +kernel
theorem dX10_ofKind_12 : decode cX10_ofKind 12 = .ok (.iconst 1, 1) := by decide +kernel
theorem dX10_ofKind_13 : decode cX10_ofKind 13 = .ok (.invokevirtual 147, 3) := by decide +kernel
theorem dX10_ofKind_16 : decode cX10_ofKind 16 = .ok (.ifCond .eq 7, 3) := by decide +kernel
theorem dX10_ofKind_19 : decode cX10_ofKind 19 = .ok (.iconst 0, 1) := by decide +kernel
theorem dX10_ofKind_20 : decode cX10_ofKind 20 = .ok (.goto 11, 3) := by decide +kernel
theorem dX10_ofKind_23 : decode cX10_ofKind 23 = .ok (.aload_n 0, 1) := by decide +kernel
theorem dX10_ofKind_24 : decode cX10_ofKind 24 = .ok (.getfield 13, 3) := by decide +kernel
theorem dX10_ofKind_27 : decode cX10_ofKind 27 = .ok (.iload_n 2, 1) := by decide +kernel
theorem dX10_ofKind_28 : decode cX10_ofKind 28 = .ok (.iload_n 1, 1) := by decide +kernel
theorem dX10_ofKind_29 : decode cX10_ofKind 29 = .ok (.iadd, 1) := by decide +kernel
theorem dX10_ofKind_30 : decode cX10_ofKind 30 = .ok (.iaload, 1) := by decide +kernel
theorem dX10_ofKind_31 : decode cX10_ofKind 31 = .ok (.ireturn, 1) := by decide +kernel
def w_X10_ofKind_J13 (p0 : Int32) (p1 : Int32) (mm : Mm) (Q9 : Int32 → Mm → Prop) (y_3 : Int32) : Prop :=
  w_X10_refused y_3 mm (fun (r_4 : Int32) (m_5 : Mm) => ((r_4 = 0 → vp_in (p1 + p0) 246 ∧ (Q9 (m_5.1 32 1 (p1 + p0).toNatClampNeg) m_5)) ∧
  (¬ r_4 = 0 → Q9 0 m_5)))
def w_X10_ofKind (p0 : Int32) (p1 : Int32) (mm : Mm) (Q9 : Int32 → Mm → Prop) : Prop :=
  w_X10_isKind p0 mm (fun (r_1 : Int32) => ((r_1 = 0 → w_X10_ofKind_J13 p0 p1 mm Q9 1) ∧
  (¬ r_1 = 0 → w_X10_ofKind_J13 p0 p1 mm Q9 0)))
def rm_X10_ofKind : Room := { frames := 2, cells := 0, slots := 0, locals := 45 }
theorem hy_X10_ofKind : yX10_ofKind.cls = RX10 ∧ yX10_ofKind.cls ≠ "java/lang/invoke/MethodHandle" ∧ yX10_ofKind.cls ≠ "java/lang/invoke/VarHandle" ∧ (parseMethodDescriptor yX10_ofKind.desc).map (fun d => d.parameters.length) = some 2 := by decide +kernel
set_option maxRecDepth 100000 in
set_option maxHeartbeats 4000000 in
theorem c_X10_ofKind {l : Launch} {D : va_G} {cA : Nat → ClassId} {ad : Nat → Nat → Nat} {A : Nat → Prop} (ax : Ax ad GM A) (p0 : Int32) (p1 : Int32) (mm : Mm) (Q9 : Int32 → Mm → Prop) (h : w_X10_ofKind p0 p1 mm Q9) : Met l yX10_ofKind (.code yX10_ofKind cX10_ofKind 3 (some .int) :: TG) rm_X10_ofKind (PcM TT D cA ad false GM (ZM) [.ref (ad 30 1), .int p0, .int p1] mm) (AnsI TT D cA ad false GM A Q9) 0 0 A := by
  have zo := ZM_ok A
  unfold w_X10_ofKind at h
  refine enterI pl_X10 ⟨rfl, rfl⟩ rfl (Nat.le_of_ble_eq_true rfl) ?_
  intro p e s m args below meth c QQ X hK hZ hnm hE
  refine q_aload_n (j := 0) X dX10_ofKind_0 rfl rfl ?_
  refine q_iload_n (j := 1) X dX10_ofKind_1 rfl rfl ?_
  refine q_calli (q_runS X hK hZ zo [.int p0] [.ref (ad 30 1)] rfl rfl (Nat.le_of_ble_eq_true rfl) dX10_ofKind_2 ⟨Nat.le_of_ble_eq_true rfl, Nat.le_of_ble_eq_true rfl⟩ (c_X10_isKind ax p0 mm _ h) rfl rfl (gS kw_7_67 kw_7_68 kw_1_11 kw_7_69) hy_X10_isKind.2 ⟨Nat.le_of_ble_eq_true rfl, Nat.le_of_ble_eq_true rfl⟩) (fun r_1 m_2 h => ?_)
  obtain ⟨h, hm⟩ := h
  subst hm
  have J13 : ∀ (y_3 : Int32), w_X10_ofKind_J13 p0 p1 mm Q9 y_3 → V p l e rm_X10_ofKind s m args below meth c QQ 3 A 0 0 (Rep TT D cA ad false GM mm) 13 [(0, .ref (ad 30 1)), (1, .int p0), (2, .int p1)] [.int y_3, .ref (ad 30 1)] := by
    intro y_3 h
    unfold w_X10_ofKind_J13 at h
    refine q_calli (q_runV X hK hZ zo (gm (t := 30) (by decide) (ok1 (t := 30) (Nat.le_of_ble_eq_true rfl))) rfl rfl [.int y_3] [] rfl rfl (Nat.le_of_ble_eq_true rfl) dX10_ofKind_13 ⟨Nat.le_of_ble_eq_true rfl, Nat.le_of_ble_eq_true rfl⟩ (c_X10_refused ax y_3 mm _ h) rfl rfl (gV kw_7_126 kw_7_128 ks_95 kw_1_11 kw_7_129) hy_X10_refused ⟨Nat.le_of_ble_eq_true rfl, Nat.le_of_ble_eq_true rfl⟩) (fun r_4 m_5 h => ?_)
    refine q_if_eq (tgt := 23) X dX10_ofKind_16 (by decide) (fun c_6 => ?_) (fun c_6 => ?_)
    · have h := h.1 c_6
      refine q_aload_n (j := 0) X dX10_ofKind_23 rfl rfl ?_
      refine q_get (k := 3) (v := .ref (ad 32 1)) X hK rfl rfl (Nat.le_of_ble_eq_true rfl) inTX10 (gm (t := 30) (by decide) (ok1 (t := 30) (Nat.le_of_ble_eq_true rfl))) kw_7_10 rfl (rv_nn (a := ad 32) (r := 1) (ok1 (t := 32) (Nat.le_of_ble_eq_true rfl)).1) dX10_ofKind_24 ?_
      refine q_iload_n (j := 2) X dX10_ofKind_27 rfl rfl ?_
      refine q_iload_n (j := 1) X dX10_ofKind_28 rfl rfl ?_
      refine q_iadd X dX10_ofKind_29 ?_
      obtain ⟨b_7, h⟩ := h
      refine q_iald (t := 32) (i := 1) (jn := (p1 + p0).toNatClampNeg) (v := .int (m_5.1 32 1 (p1 + p0).toNatClampNeg)) X hK rfl rfl (gm (t := 32) (by decide) (ok1 (t := 32) (Nat.le_of_ble_eq_true rfl))) rfl b_7 rfl rfl dX10_ofKind_30 ?_
      exact hE _ _ _ _ dX10_ofKind_31 h
    · have h := h.2 c_6
      refine q_iconst (v := 0) X dX10_ofKind_19 (by decide) ?_
      refine q_goto (tgt := 31) X dX10_ofKind_20 (by decide) ?_
      exact hE _ _ _ _ dX10_ofKind_31 h
  refine q_if_eq (tgt := 12) X dX10_ofKind_5 (by decide) (fun c_8 => ?_) (fun c_8 => ?_)
  · have h := h.1 c_8
    refine q_iconst (v := 1) X dX10_ofKind_12 (by decide) ?_
    refine q_sub [0, 1, 2] rfl ?_
    exact J13 1 h
  · have h := h.2 c_8
    refine q_iconst (v := 0) X dX10_ofKind_8 (by decide) ?_
    refine q_goto (tgt := 13) X dX10_ofKind_9 (by decide) ?_
    refine q_sub [0, 1, 2] rfl ?_
    exact J13 0 h
theorem dX10_rateByValue_0 : decode cX10_rateByValue 0 = .ok (.aload_n 0, 1) := by decide +kernel
theorem dX10_rateByValue_1 : decode cX10_rateByValue 1 = .ok (.iload_n 1, 1) := by decide +kernel
theorem dX10_rateByValue_2 : decode cX10_rateByValue 2 = .ok (.bipush 20, 2) := by decide +kernel
theorem dX10_rateByValue_4 : decode cX10_rateByValue 4 = .ok (.invokevirtual 239, 3) := by decide +kernel
theorem dX10_rateByValue_7 : decode cX10_rateByValue 7 = .ok (.ireturn, 1) := by decide +kernel
def w_X10_rateByValue (p0 : Int32) (mm : Mm) (Q9 : Int32 → Mm → Prop) : Prop :=
  w_X10_ofKind p0 20 mm (fun (r_1 : Int32) (m_2 : Mm) => Q9 r_1 m_2)
def rm_X10_rateByValue : Room := { frames := 3, cells := 0, slots := 0, locals := 67 }
theorem hy_X10_rateByValue : yX10_rateByValue.cls = RX10 ∧ yX10_rateByValue.cls ≠ "java/lang/invoke/MethodHandle" ∧ yX10_rateByValue.cls ≠ "java/lang/invoke/VarHandle" ∧ (parseMethodDescriptor yX10_rateByValue.desc).map (fun d => d.parameters.length) = some 1 := by decide +kernel
set_option maxRecDepth 100000 in
set_option maxHeartbeats 4000000 in
theorem c_X10_rateByValue {l : Launch} {D : va_G} {cA : Nat → ClassId} {ad : Nat → Nat → Nat} {A : Nat → Prop} (ax : Ax ad GM A) (p0 : Int32) (mm : Mm) (Q9 : Int32 → Mm → Prop) (h : w_X10_rateByValue p0 mm Q9) : Met l yX10_rateByValue (.code yX10_rateByValue cX10_rateByValue 2 (some .int) :: TG) rm_X10_rateByValue (PcM TT D cA ad false GM (ZM) [.ref (ad 30 1), .int p0] mm) (AnsI TT D cA ad false GM A Q9) 0 0 A := by
  have zo := ZM_ok A
  unfold w_X10_rateByValue at h
  refine enterI pl_X10 ⟨rfl, rfl⟩ rfl (Nat.le_of_ble_eq_true rfl) ?_
  intro p e s m args below meth c QQ X hK hZ hnm hE
  refine q_aload_n (j := 0) X dX10_rateByValue_0 rfl rfl ?_
  refine q_iload_n (j := 1) X dX10_rateByValue_1 rfl rfl ?_
  refine q_bipush (v := 20) X dX10_rateByValue_2 (by decide) ?_
  refine q_calli (q_runV X hK hZ zo (gm (t := 30) (by decide) (ok1 (t := 30) (Nat.le_of_ble_eq_true rfl))) rfl rfl [.int p0, .int 20] [] rfl rfl (Nat.le_of_ble_eq_true rfl) dX10_rateByValue_4 ⟨Nat.le_of_ble_eq_true rfl, Nat.le_of_ble_eq_true rfl⟩ (c_X10_ofKind ax p0 20 mm _ h) rfl rfl (gV kw_8_222 kw_8_224 ks_134 kw_1_11 kw_8_225) hy_X10_ofKind ⟨Nat.le_of_ble_eq_true rfl, Nat.le_of_ble_eq_true rfl⟩) (fun r_1 m_2 h => ?_)
  exact hE _ _ _ _ dX10_rateByValue_7 h
theorem dX10_rateByWeight_0 : decode cX10_rateByWeight 0 = .ok (.aload_n 0, 1) := by decide +kernel
theorem dX10_rateByWeight_1 : decode cX10_rateByWeight 1 = .ok (.iload_n 1, 1) := by decide +kernel
theorem dX10_rateByWeight_2 : decode cX10_rateByWeight 2 = .ok (.bipush 26, 2) := by decide +kernel
theorem dX10_rateByWeight_4 : decode cX10_rateByWeight 4 = .ok (.invokevirtual 239, 3) := by decide +kernel
theorem dX10_rateByWeight_7 : decode cX10_rateByWeight 7 = .ok (.ireturn, 1) := by decide +kernel
def w_X10_rateByWeight (p0 : Int32) (mm : Mm) (Q9 : Int32 → Mm → Prop) : Prop :=
  w_X10_ofKind p0 26 mm (fun (r_1 : Int32) (m_2 : Mm) => Q9 r_1 m_2)
def rm_X10_rateByWeight : Room := { frames := 3, cells := 0, slots := 0, locals := 67 }
theorem hy_X10_rateByWeight : yX10_rateByWeight.cls = RX10 ∧ yX10_rateByWeight.cls ≠ "java/lang/invoke/MethodHandle" ∧ yX10_rateByWeight.cls ≠ "java/lang/invoke/VarHandle" ∧ (parseMethodDescriptor yX10_rateByWeight.desc).map (fun d => d.parameters.length) = some 1 := by decide +kernel
set_option maxRecDepth 100000 in
set_option maxHeartbeats 4000000 in
theorem c_X10_rateByWeight {l : Launch} {D : va_G} {cA : Nat → ClassId} {ad : Nat → Nat → Nat} {A : Nat → Prop} (ax : Ax ad GM A) (p0 : Int32) (mm : Mm) (Q9 : Int32 → Mm → Prop) (h : w_X10_rateByWeight p0 mm Q9) : Met l yX10_rateByWeight (.code yX10_rateByWeight cX10_rateByWeight 2 (some .int) :: TG) rm_X10_rateByWeight (PcM TT D cA ad false GM (ZM) [.ref (ad 30 1), .int p0] mm) (AnsI TT D cA ad false GM A Q9) 0 0 A := by
  have zo := ZM_ok A
  unfold w_X10_rateByWeight at h
  refine enterI pl_X10 ⟨rfl, rfl⟩ rfl (Nat.le_of_ble_eq_true rfl) ?_
  intro p e s m args below meth c QQ X hK hZ hnm hE
  refine q_aload_n (j := 0) X dX10_rateByWeight_0 rfl rfl ?_
  refine q_iload_n (j := 1) X dX10_rateByWeight_1 rfl rfl ?_
  refine q_bipush (v := 26) X dX10_rateByWeight_2 (by decide) ?_
  refine q_calli (q_runV X hK hZ zo (gm (t := 30) (by decide) (ok1 (t := 30) (Nat.le_of_ble_eq_true rfl))) rfl rfl [.int p0, .int 26] [] rfl rfl (Nat.le_of_ble_eq_true rfl) dX10_rateByWeight_4 ⟨Nat.le_of_ble_eq_true rfl, Nat.le_of_ble_eq_true rfl⟩ (c_X10_ofKind ax p0 26 mm _ h) rfl rfl (gV kw_8_222 kw_8_224 ks_134 kw_1_11 kw_8_225) hy_X10_ofKind ⟨Nat.le_of_ble_eq_true rfl, Nat.le_of_ble_eq_true rfl⟩) (fun r_1 m_2 h => ?_)
  exact hE _ _ _ _ dX10_rateByWeight_7 h
theorem dX10_bond_0 : decode cX10_bond 0 = .ok (.aload_n 0, 1) := by decide +kernel
theorem dX10_bond_1 : decode cX10_bond 1 = .ok (.aload_n 0, 1) := by decide +kernel
theorem dX10_bond_2 : decode cX10_bond 2 = .ok (.getfield 13, 3) := by decide +kernel
theorem dX10_bond_5 : decode cX10_bond 5 = .ok (.iconst 5, 1) := by decide +kernel
theorem dX10_bond_6 : decode cX10_bond 6 = .ok (.iaload, 1) := by decide +kernel
theorem dX10_bond_7 : decode cX10_bond 7 = .ok (.invokevirtual 227, 3) := by decide +kernel
theorem dX10_bond_10 : decode cX10_bond 10 = .ok (.ireturn, 1) := by decide +kernel
def w_X10_bond  (mm : Mm) (Q9 : Int32 → Mm → Prop) : Prop :=
  w_X10_told (mm.1 32 1 5) mm (fun (r_1 : Int32) (m_2 : Mm) => Q9 r_1 m_2)
def rm_X10_bond : Room := { frames := 1, cells := 0, slots := 0, locals := 21 }
theorem hy_X10_bond : yX10_bond.cls = RX10 ∧ yX10_bond.cls ≠ "java/lang/invoke/MethodHandle" ∧ yX10_bond.cls ≠ "java/lang/invoke/VarHandle" ∧ (parseMethodDescriptor yX10_bond.desc).map (fun d => d.parameters.length) = some 0 := by decide +kernel
set_option maxRecDepth 100000 in
set_option maxHeartbeats 4000000 in
theorem c_X10_bond {l : Launch} {D : va_G} {cA : Nat → ClassId} {ad : Nat → Nat → Nat} {A : Nat → Prop} (ax : Ax ad GM A)  (mm : Mm) (Q9 : Int32 → Mm → Prop) (h : w_X10_bond mm Q9) : Met l yX10_bond (.code yX10_bond cX10_bond 1 (some .int) :: TG) rm_X10_bond (PcM TT D cA ad false GM (ZM) [.ref (ad 30 1)] mm) (AnsI TT D cA ad false GM A Q9) 0 0 A := by
  have zo := ZM_ok A
  unfold w_X10_bond at h
  refine enterI pl_X10 ⟨rfl, rfl⟩ rfl (Nat.le_of_ble_eq_true rfl) ?_
  intro p e s m args below meth c QQ X hK hZ hnm hE
  refine q_aload_n (j := 0) X dX10_bond_0 rfl rfl ?_
  refine q_aload_n (j := 0) X dX10_bond_1 rfl rfl ?_
  refine q_get (k := 3) (v := .ref (ad 32 1)) X hK rfl rfl (Nat.le_of_ble_eq_true rfl) inTX10 (gm (t := 30) (by decide) (ok1 (t := 30) (Nat.le_of_ble_eq_true rfl))) kw_7_10 rfl (rv_nn (a := ad 32) (r := 1) (ok1 (t := 32) (Nat.le_of_ble_eq_true rfl)).1) dX10_bond_2 ?_
  refine q_iconst (v := 5) X dX10_bond_5 (by decide) ?_
  refine q_iald (t := 32) (i := 1) (jn := 5) (v := .int (mm.1 32 1 5)) X hK rfl rfl (gm (t := 32) (by decide) (ok1 (t := 32) (Nat.le_of_ble_eq_true rfl))) rfl (vpl (by decide +kernel)) (by decide +kernel) rfl dX10_bond_6 ?_
  refine q_calli (q_runV X hK hZ zo (gm (t := 30) (by decide) (ok1 (t := 30) (Nat.le_of_ble_eq_true rfl))) rfl rfl [.int (mm.1 32 1 5)] [] rfl rfl (Nat.le_of_ble_eq_true rfl) dX10_bond_7 ⟨Nat.le_of_ble_eq_true rfl, Nat.le_of_ble_eq_true rfl⟩ (c_X10_told ax (mm.1 32 1 5) mm _ h) rfl rfl (gV kw_8_102 kw_8_104 ks_130 kw_1_11 kw_8_105) hy_X10_told ⟨Nat.le_of_ble_eq_true rfl, Nat.le_of_ble_eq_true rfl⟩) (fun r_1 m_2 h => ?_)
  exact hE _ _ _ _ dX10_bond_10 h
theorem dX10_dutyAtStake_0 : decode cX10_dutyAtStake 0 = .ok (.aload_n 0, 1) := by decide +kernel
theorem dX10_dutyAtStake_1 : decode cX10_dutyAtStake 1 = .ok (.aload_n 0, 1) := by decide +kernel
theorem dX10_dutyAtStake_2 : decode cX10_dutyAtStake 2 = .ok (.invokevirtual 120, 3) := by decide +kernel
theorem dX10_dutyAtStake_5 : decode cX10_dutyAtStake 5 = .ok (.invokevirtual 227, 3) := by decide +kernel
theorem dX10_dutyAtStake_8 : decode cX10_dutyAtStake 8 = .ok (.ireturn, 1) := by decide +kernel
def w_X10_dutyAtStake  (mm : Mm) (Q9 : Int32 → Mm → Prop) : Prop :=
  w_X10_stake mm (fun (r_1 : Int32) => w_X10_told r_1 mm (fun (r_3 : Int32) (m_4 : Mm) => Q9 r_3 m_4))
def rm_X10_dutyAtStake : Room := { frames := 5, cells := 0, slots := 0, locals := 111 }
theorem hy_X10_dutyAtStake : yX10_dutyAtStake.cls = RX10 ∧ yX10_dutyAtStake.cls ≠ "java/lang/invoke/MethodHandle" ∧ yX10_dutyAtStake.cls ≠ "java/lang/invoke/VarHandle" ∧ (parseMethodDescriptor yX10_dutyAtStake.desc).map (fun d => d.parameters.length) = some 0 := by decide +kernel
set_option maxRecDepth 100000 in
set_option maxHeartbeats 4000000 in
theorem c_X10_dutyAtStake {l : Launch} {D : va_G} {cA : Nat → ClassId} {ad : Nat → Nat → Nat} {A : Nat → Prop} (ax : Ax ad GM A)  (mm : Mm) (Q9 : Int32 → Mm → Prop) (h : w_X10_dutyAtStake mm Q9) : Met l yX10_dutyAtStake (.code yX10_dutyAtStake cX10_dutyAtStake 1 (some .int) :: TG) rm_X10_dutyAtStake (PcM TT D cA ad false GM (ZM) [.ref (ad 30 1)] mm) (AnsI TT D cA ad false GM A Q9) 0 0 A := by
  have zo := ZM_ok A
  unfold w_X10_dutyAtStake at h
  refine enterI pl_X10 ⟨rfl, rfl⟩ rfl (Nat.le_of_ble_eq_true rfl) ?_
  intro p e s m args below meth c QQ X hK hZ hnm hE
  refine q_aload_n (j := 0) X dX10_dutyAtStake_0 rfl rfl ?_
  refine q_aload_n (j := 0) X dX10_dutyAtStake_1 rfl rfl ?_
  refine q_calli (q_runV X hK hZ zo (gm (t := 30) (by decide) (ok1 (t := 30) (Nat.le_of_ble_eq_true rfl))) rfl rfl [] [.ref (ad 30 1)] rfl rfl (Nat.le_of_ble_eq_true rfl) dX10_dutyAtStake_2 ⟨Nat.le_of_ble_eq_true rfl, Nat.le_of_ble_eq_true rfl⟩ (c_X10_stake ax mm _ h) rfl rfl (gV kw_7_99 kw_7_101 ks_89 kw_1_11 kw_7_102) hy_X10_stake ⟨Nat.le_of_ble_eq_true rfl, Nat.le_of_ble_eq_true rfl⟩) (fun r_1 m_2 h => ?_)
  obtain ⟨h, hm⟩ := h
  subst hm
  refine q_calli (q_runV X hK hZ zo (gm (t := 30) (by decide) (ok1 (t := 30) (Nat.le_of_ble_eq_true rfl))) rfl rfl [.int r_1] [] rfl rfl (Nat.le_of_ble_eq_true rfl) dX10_dutyAtStake_5 ⟨Nat.le_of_ble_eq_true rfl, Nat.le_of_ble_eq_true rfl⟩ (c_X10_told ax r_1 mm _ h) rfl rfl (gV kw_8_102 kw_8_104 ks_130 kw_1_11 kw_8_105) hy_X10_told ⟨Nat.le_of_ble_eq_true rfl, Nat.le_of_ble_eq_true rfl⟩) (fun r_3 m_4 h => ?_)
  exact hE _ _ _ _ dX10_dutyAtStake_8 h
theorem dX10_account_0 : decode cX10_account 0 = .ok (.aload_n 0, 1) := by decide +kernel
theorem dX10_account_1 : decode cX10_account 1 = .ok (.aload_n 0, 1) := by decide +kernel
theorem dX10_account_2 : decode cX10_account 2 = .ok (.getfield 13, 3) := by decide +kernel
theorem dX10_account_5 : decode cX10_account 5 = .ok (.iconst 3, 1) := by decide +kernel
theorem dX10_account_6 : decode cX10_account 6 = .ok (.iaload, 1) := by decide +kernel
theorem dX10_account_7 : decode cX10_account 7 = .ok (.invokevirtual 227, 3) := by decide +kernel
theorem dX10_account_10 : decode cX10_account 10 = .ok (.ireturn, 1) := by decide +kernel
def w_X10_account  (mm : Mm) (Q9 : Int32 → Mm → Prop) : Prop :=
  w_X10_told (mm.1 32 1 3) mm (fun (r_1 : Int32) (m_2 : Mm) => Q9 r_1 m_2)
def rm_X10_account : Room := { frames := 1, cells := 0, slots := 0, locals := 21 }
theorem hy_X10_account : yX10_account.cls = RX10 ∧ yX10_account.cls ≠ "java/lang/invoke/MethodHandle" ∧ yX10_account.cls ≠ "java/lang/invoke/VarHandle" ∧ (parseMethodDescriptor yX10_account.desc).map (fun d => d.parameters.length) = some 0 := by decide +kernel
set_option maxRecDepth 100000 in
set_option maxHeartbeats 4000000 in
theorem c_X10_account {l : Launch} {D : va_G} {cA : Nat → ClassId} {ad : Nat → Nat → Nat} {A : Nat → Prop} (ax : Ax ad GM A)  (mm : Mm) (Q9 : Int32 → Mm → Prop) (h : w_X10_account mm Q9) : Met l yX10_account (.code yX10_account cX10_account 1 (some .int) :: TG) rm_X10_account (PcM TT D cA ad false GM (ZM) [.ref (ad 30 1)] mm) (AnsI TT D cA ad false GM A Q9) 0 0 A := by
  have zo := ZM_ok A
  unfold w_X10_account at h
  refine enterI pl_X10 ⟨rfl, rfl⟩ rfl (Nat.le_of_ble_eq_true rfl) ?_
  intro p e s m args below meth c QQ X hK hZ hnm hE
  refine q_aload_n (j := 0) X dX10_account_0 rfl rfl ?_
  refine q_aload_n (j := 0) X dX10_account_1 rfl rfl ?_
  refine q_get (k := 3) (v := .ref (ad 32 1)) X hK rfl rfl (Nat.le_of_ble_eq_true rfl) inTX10 (gm (t := 30) (by decide) (ok1 (t := 30) (Nat.le_of_ble_eq_true rfl))) kw_7_10 rfl (rv_nn (a := ad 32) (r := 1) (ok1 (t := 32) (Nat.le_of_ble_eq_true rfl)).1) dX10_account_2 ?_
  refine q_iconst (v := 3) X dX10_account_5 (by decide) ?_
  refine q_iald (t := 32) (i := 1) (jn := 3) (v := .int (mm.1 32 1 3)) X hK rfl rfl (gm (t := 32) (by decide) (ok1 (t := 32) (Nat.le_of_ble_eq_true rfl))) rfl (vpl (by decide +kernel)) (by decide +kernel) rfl dX10_account_6 ?_
  refine q_calli (q_runV X hK hZ zo (gm (t := 30) (by decide) (ok1 (t := 30) (Nat.le_of_ble_eq_true rfl))) rfl rfl [.int (mm.1 32 1 3)] [] rfl rfl (Nat.le_of_ble_eq_true rfl) dX10_account_7 ⟨Nat.le_of_ble_eq_true rfl, Nat.le_of_ble_eq_true rfl⟩ (c_X10_told ax (mm.1 32 1 3) mm _ h) rfl rfl (gV kw_8_102 kw_8_104 ks_130 kw_1_11 kw_8_105) hy_X10_told ⟨Nat.le_of_ble_eq_true rfl, Nat.le_of_ble_eq_true rfl⟩) (fun r_1 m_2 h => ?_)
  exact hE _ _ _ _ dX10_account_10 h
theorem dX10_debt_0 : decode cX10_debt 0 = .ok (.aload_n 0, 1) := by decide +kernel
theorem dX10_debt_1 : decode cX10_debt 1 = .ok (.aload_n 0, 1) := by decide +kernel
theorem dX10_debt_2 : decode cX10_debt 2 = .ok (.getfield 13, 3) := by decide +kernel
theorem dX10_debt_5 : decode cX10_debt 5 = .ok (.iconst 4, 1) := by decide +kernel
theorem dX10_debt_6 : decode cX10_debt 6 = .ok (.iaload, 1) := by decide +kernel
theorem dX10_debt_7 : decode cX10_debt 7 = .ok (.invokevirtual 227, 3) := by decide +kernel
theorem dX10_debt_10 : decode cX10_debt 10 = .ok (.ireturn, 1) := by decide +kernel
def w_X10_debt  (mm : Mm) (Q9 : Int32 → Mm → Prop) : Prop :=
  w_X10_told (mm.1 32 1 4) mm (fun (r_1 : Int32) (m_2 : Mm) => Q9 r_1 m_2)
def rm_X10_debt : Room := { frames := 1, cells := 0, slots := 0, locals := 21 }
theorem hy_X10_debt : yX10_debt.cls = RX10 ∧ yX10_debt.cls ≠ "java/lang/invoke/MethodHandle" ∧ yX10_debt.cls ≠ "java/lang/invoke/VarHandle" ∧ (parseMethodDescriptor yX10_debt.desc).map (fun d => d.parameters.length) = some 0 := by decide +kernel
set_option maxRecDepth 100000 in
set_option maxHeartbeats 4000000 in
theorem c_X10_debt {l : Launch} {D : va_G} {cA : Nat → ClassId} {ad : Nat → Nat → Nat} {A : Nat → Prop} (ax : Ax ad GM A)  (mm : Mm) (Q9 : Int32 → Mm → Prop) (h : w_X10_debt mm Q9) : Met l yX10_debt (.code yX10_debt cX10_debt 1 (some .int) :: TG) rm_X10_debt (PcM TT D cA ad false GM (ZM) [.ref (ad 30 1)] mm) (AnsI TT D cA ad false GM A Q9) 0 0 A := by
  have zo := ZM_ok A
  unfold w_X10_debt at h
  refine enterI pl_X10 ⟨rfl, rfl⟩ rfl (Nat.le_of_ble_eq_true rfl) ?_
  intro p e s m args below meth c QQ X hK hZ hnm hE
  refine q_aload_n (j := 0) X dX10_debt_0 rfl rfl ?_
  refine q_aload_n (j := 0) X dX10_debt_1 rfl rfl ?_
  refine q_get (k := 3) (v := .ref (ad 32 1)) X hK rfl rfl (Nat.le_of_ble_eq_true rfl) inTX10 (gm (t := 30) (by decide) (ok1 (t := 30) (Nat.le_of_ble_eq_true rfl))) kw_7_10 rfl (rv_nn (a := ad 32) (r := 1) (ok1 (t := 32) (Nat.le_of_ble_eq_true rfl)).1) dX10_debt_2 ?_
  refine q_iconst (v := 4) X dX10_debt_5 (by decide) ?_
  refine q_iald (t := 32) (i := 1) (jn := 4) (v := .int (mm.1 32 1 4)) X hK rfl rfl (gm (t := 32) (by decide) (ok1 (t := 32) (Nat.le_of_ble_eq_true rfl))) rfl (vpl (by decide +kernel)) (by decide +kernel) rfl dX10_debt_6 ?_
  refine q_calli (q_runV X hK hZ zo (gm (t := 30) (by decide) (ok1 (t := 30) (Nat.le_of_ble_eq_true rfl))) rfl rfl [.int (mm.1 32 1 4)] [] rfl rfl (Nat.le_of_ble_eq_true rfl) dX10_debt_7 ⟨Nat.le_of_ble_eq_true rfl, Nat.le_of_ble_eq_true rfl⟩ (c_X10_told ax (mm.1 32 1 4) mm _ h) rfl rfl (gV kw_8_102 kw_8_104 ks_130 kw_1_11 kw_8_105) hy_X10_told ⟨Nat.le_of_ble_eq_true rfl, Nat.le_of_ble_eq_true rfl⟩) (fun r_1 m_2 h => ?_)
  exact hE _ _ _ _ dX10_debt_10 h
theorem dX10_balance_0 : decode cX10_balance 0 = .ok (.aload_n 0, 1) := by decide +kernel
theorem dX10_balance_1 : decode cX10_balance 1 = .ok (.aload_n 0, 1) := by decide +kernel
theorem dX10_balance_2 : decode cX10_balance 2 = .ok (.getfield 13, 3) := by decide +kernel
theorem dX10_balance_5 : decode cX10_balance 5 = .ok (.iconst 3, 1) := by decide +kernel
theorem dX10_balance_6 : decode cX10_balance 6 = .ok (.iaload, 1) := by decide +kernel
theorem dX10_balance_7 : decode cX10_balance 7 = .ok (.aload_n 0, 1) := by decide +kernel
theorem dX10_balance_8 : decode cX10_balance 8 = .ok (.getfield 13, 3) := by decide +kernel
theorem dX10_balance_11 : decode cX10_balance 11 = .ok (.iconst 4, 1) := by decide +kernel
theorem dX10_balance_12 : decode cX10_balance 12 = .ok (.iaload, 1) := by decide +kernel
theorem dX10_balance_13 : decode cX10_balance 13 = .ok (.isub, 1) := by decide +kernel
theorem dX10_balance_14 : decode cX10_balance 14 = .ok (.invokevirtual 227, 3) := by decide +kernel
theorem dX10_balance_17 : decode cX10_balance 17 = .ok (.ireturn, 1) := by decide +kernel
def w_X10_balance  (mm : Mm) (Q9 : Int32 → Mm → Prop) : Prop :=
  w_X10_told ((mm.1 32 1 3) - (mm.1 32 1 4)) mm (fun (r_1 : Int32) (m_2 : Mm) => Q9 r_1 m_2)
def rm_X10_balance : Room := { frames := 1, cells := 0, slots := 0, locals := 21 }
theorem hy_X10_balance : yX10_balance.cls = RX10 ∧ yX10_balance.cls ≠ "java/lang/invoke/MethodHandle" ∧ yX10_balance.cls ≠ "java/lang/invoke/VarHandle" ∧ (parseMethodDescriptor yX10_balance.desc).map (fun d => d.parameters.length) = some 0 := by decide +kernel
set_option maxRecDepth 100000 in
set_option maxHeartbeats 4000000 in
theorem c_X10_balance {l : Launch} {D : va_G} {cA : Nat → ClassId} {ad : Nat → Nat → Nat} {A : Nat → Prop} (ax : Ax ad GM A)  (mm : Mm) (Q9 : Int32 → Mm → Prop) (h : w_X10_balance mm Q9) : Met l yX10_balance (.code yX10_balance cX10_balance 1 (some .int) :: TG) rm_X10_balance (PcM TT D cA ad false GM (ZM) [.ref (ad 30 1)] mm) (AnsI TT D cA ad false GM A Q9) 0 0 A := by
  have zo := ZM_ok A
  unfold w_X10_balance at h
  refine enterI pl_X10 ⟨rfl, rfl⟩ rfl (Nat.le_of_ble_eq_true rfl) ?_
  intro p e s m args below meth c QQ X hK hZ hnm hE
  refine q_aload_n (j := 0) X dX10_balance_0 rfl rfl ?_
  refine q_aload_n (j := 0) X dX10_balance_1 rfl rfl ?_
  refine q_get (k := 3) (v := .ref (ad 32 1)) X hK rfl rfl (Nat.le_of_ble_eq_true rfl) inTX10 (gm (t := 30) (by decide) (ok1 (t := 30) (Nat.le_of_ble_eq_true rfl))) kw_7_10 rfl (rv_nn (a := ad 32) (r := 1) (ok1 (t := 32) (Nat.le_of_ble_eq_true rfl)).1) dX10_balance_2 ?_
  refine q_iconst (v := 3) X dX10_balance_5 (by decide) ?_
  refine q_iald (t := 32) (i := 1) (jn := 3) (v := .int (mm.1 32 1 3)) X hK rfl rfl (gm (t := 32) (by decide) (ok1 (t := 32) (Nat.le_of_ble_eq_true rfl))) rfl (vpl (by decide +kernel)) (by decide +kernel) rfl dX10_balance_6 ?_
  refine q_aload_n (j := 0) X dX10_balance_7 rfl rfl ?_
  refine q_get (k := 3) (v := .ref (ad 32 1)) X hK rfl rfl (Nat.le_of_ble_eq_true rfl) inTX10 (gm (t := 30) (by decide) (ok1 (t := 30) (Nat.le_of_ble_eq_true rfl))) kw_7_10 rfl (rv_nn (a := ad 32) (r := 1) (ok1 (t := 32) (Nat.le_of_ble_eq_true rfl)).1) dX10_balance_8 ?_
  refine q_iconst (v := 4) X dX10_balance_11 (by decide) ?_
  refine q_iald (t := 32) (i := 1) (jn := 4) (v := .int (mm.1 32 1 4)) X hK rfl rfl (gm (t := 32) (by decide) (ok1 (t := 32) (Nat.le_of_ble_eq_true rfl))) rfl (vpl (by decide +kernel)) (by decide +kernel) rfl dX10_balance_12 ?_
  refine q_isub X dX10_balance_13 ?_
  refine q_calli (q_runV X hK hZ zo (gm (t := 30) (by decide) (ok1 (t := 30) (Nat.le_of_ble_eq_true rfl))) rfl rfl [.int ((mm.1 32 1 3) - (mm.1 32 1 4))] [] rfl rfl (Nat.le_of_ble_eq_true rfl) dX10_balance_14 ⟨Nat.le_of_ble_eq_true rfl, Nat.le_of_ble_eq_true rfl⟩ (c_X10_told ax ((mm.1 32 1 3) - (mm.1 32 1 4)) mm _ h) rfl rfl (gV kw_8_102 kw_8_104 ks_130 kw_1_11 kw_8_105) hy_X10_told ⟨Nat.le_of_ble_eq_true rfl, Nat.le_of_ble_eq_true rfl⟩) (fun r_1 m_2 h => ?_)
  exact hE _ _ _ _ dX10_balance_17 h
theorem dX10_balanceByTotals_0 : decode cX10_balanceByTotals 0 = .ok (.aload_n 0, 1) := by decide +kernel
theorem dX10_balanceByTotals_1 : decode cX10_balanceByTotals 1 = .ok (.aload_n 0, 1) := by decide +kernel
theorem dX10_balanceByTotals_2 : decode cX10_balanceByTotals 2 = .ok (.getfield 13, 3) := by decide +kernel
theorem dX10_balanceByTotals_5 : decode cX10_balanceByTotals 5 = .ok (.bipush 6, 2) := by decide +kernel
theorem dX10_balanceByTotals_7 : decode cX10_balanceByTotals 7 = .ok (.iaload, 1) := by decide +kernel
theorem dX10_balanceByTotals_8 : decode cX10_balanceByTotals 8 = .ok (.aload_n 0, 1) := by decide +kernel
theorem dX10_balanceByTotals_9 : decode cX10_balanceByTotals 9 = .ok (.getfield 13, 3) := by decide +kernel
theorem dX10_balanceByTotals_12 : decode cX10_balanceByTotals 12 = .ok (.bipush 9, 2) := by decide +kernel
theorem dX10_balanceByTotals_14 : decode cX10_balanceByTotals 14 = .ok (.iaload, 1) := by decide +kernel
theorem dX10_balanceByTotals_15 : decode cX10_balanceByTotals 15 = .ok (.iadd, 1) := by decide +kernel
theorem dX10_balanceByTotals_16 : decode cX10_balanceByTotals 16 = .ok (.aload_n 0, 1) := by decide +kernel
theorem dX10_balanceByTotals_17 : decode cX10_balanceByTotals 17 = .ok (.getfield 13, 3) := by decide +kernel
theorem dX10_balanceByTotals_20 : decode cX10_balanceByTotals 20 = .ok (.bipush 7, 2) := by decide +kernel
theorem dX10_balanceByTotals_22 : decode cX10_balanceByTotals 22 = .ok (.iaload, 1) := by decide +kernel
theorem dX10_balanceByTotals_23 : decode cX10_balanceByTotals 23 = .ok (.isub, 1) := by decide +kernel
theorem dX10_balanceByTotals_24 : decode cX10_balanceByTotals 24 = .ok (.aload_n 0, 1) := by decide +kernel
theorem dX10_balanceByTotals_25 : decode cX10_balanceByTotals 25 = .ok (.getfield 13, 3) := by decide +kernel
theorem dX10_balanceByTotals_28 : decode cX10_balanceByTotals 28 = .ok (.bipush 8, 2) := by decide +kernel
theorem dX10_balanceByTotals_30 : decode cX10_balanceByTotals 30 = .ok (.iaload, 1) := by decide +kernel
theorem dX10_balanceByTotals_31 : decode cX10_balanceByTotals 31 = .ok (.isub, 1) := by decide +kernel
theorem dX10_balanceByTotals_32 : decode cX10_balanceByTotals 32 = .ok (.invokevirtual 227, 3) := by decide +kernel
theorem dX10_balanceByTotals_35 : decode cX10_balanceByTotals 35 = .ok (.ireturn, 1) := by decide +kernel
def w_X10_balanceByTotals  (mm : Mm) (Q9 : Int32 → Mm → Prop) : Prop :=
  w_X10_told ((((mm.1 32 1 6) + (mm.1 32 1 9)) - (mm.1 32 1 7)) - (mm.1 32 1 8)) mm (fun (r_1 : Int32) (m_2 : Mm) => Q9 r_1 m_2)
def rm_X10_balanceByTotals : Room := { frames := 1, cells := 0, slots := 0, locals := 21 }
theorem hy_X10_balanceByTotals : yX10_balanceByTotals.cls = RX10 ∧ yX10_balanceByTotals.cls ≠ "java/lang/invoke/MethodHandle" ∧ yX10_balanceByTotals.cls ≠ "java/lang/invoke/VarHandle" ∧ (parseMethodDescriptor yX10_balanceByTotals.desc).map (fun d => d.parameters.length) = some 0 := by decide +kernel
set_option maxRecDepth 100000 in
set_option maxHeartbeats 4000000 in
theorem c_X10_balanceByTotals {l : Launch} {D : va_G} {cA : Nat → ClassId} {ad : Nat → Nat → Nat} {A : Nat → Prop} (ax : Ax ad GM A)  (mm : Mm) (Q9 : Int32 → Mm → Prop) (h : w_X10_balanceByTotals mm Q9) : Met l yX10_balanceByTotals (.code yX10_balanceByTotals cX10_balanceByTotals 1 (some .int) :: TG) rm_X10_balanceByTotals (PcM TT D cA ad false GM (ZM) [.ref (ad 30 1)] mm) (AnsI TT D cA ad false GM A Q9) 0 0 A := by
  have zo := ZM_ok A
  unfold w_X10_balanceByTotals at h
  refine enterI pl_X10 ⟨rfl, rfl⟩ rfl (Nat.le_of_ble_eq_true rfl) ?_
  intro p e s m args below meth c QQ X hK hZ hnm hE
  refine q_aload_n (j := 0) X dX10_balanceByTotals_0 rfl rfl ?_
  refine q_aload_n (j := 0) X dX10_balanceByTotals_1 rfl rfl ?_
  refine q_get (k := 3) (v := .ref (ad 32 1)) X hK rfl rfl (Nat.le_of_ble_eq_true rfl) inTX10 (gm (t := 30) (by decide) (ok1 (t := 30) (Nat.le_of_ble_eq_true rfl))) kw_7_10 rfl (rv_nn (a := ad 32) (r := 1) (ok1 (t := 32) (Nat.le_of_ble_eq_true rfl)).1) dX10_balanceByTotals_2 ?_
  refine q_bipush (v := 6) X dX10_balanceByTotals_5 (by decide) ?_
  refine q_iald (t := 32) (i := 1) (jn := 6) (v := .int (mm.1 32 1 6)) X hK rfl rfl (gm (t := 32) (by decide) (ok1 (t := 32) (Nat.le_of_ble_eq_true rfl))) rfl (vpl (by decide +kernel)) (by decide +kernel) rfl dX10_balanceByTotals_7 ?_
  refine q_aload_n (j := 0) X dX10_balanceByTotals_8 rfl rfl ?_
  refine q_get (k := 3) (v := .ref (ad 32 1)) X hK rfl rfl (Nat.le_of_ble_eq_true rfl) inTX10 (gm (t := 30) (by decide) (ok1 (t := 30) (Nat.le_of_ble_eq_true rfl))) kw_7_10 rfl (rv_nn (a := ad 32) (r := 1) (ok1 (t := 32) (Nat.le_of_ble_eq_true rfl)).1) dX10_balanceByTotals_9 ?_
  refine q_bipush (v := 9) X dX10_balanceByTotals_12 (by decide) ?_
  refine q_iald (t := 32) (i := 1) (jn := 9) (v := .int (mm.1 32 1 9)) X hK rfl rfl (gm (t := 32) (by decide) (ok1 (t := 32) (Nat.le_of_ble_eq_true rfl))) rfl (vpl (by decide +kernel)) (by decide +kernel) rfl dX10_balanceByTotals_14 ?_
  refine q_iadd X dX10_balanceByTotals_15 ?_
  refine q_aload_n (j := 0) X dX10_balanceByTotals_16 rfl rfl ?_
  refine q_get (k := 3) (v := .ref (ad 32 1)) X hK rfl rfl (Nat.le_of_ble_eq_true rfl) inTX10 (gm (t := 30) (by decide) (ok1 (t := 30) (Nat.le_of_ble_eq_true rfl))) kw_7_10 rfl (rv_nn (a := ad 32) (r := 1) (ok1 (t := 32) (Nat.le_of_ble_eq_true rfl)).1) dX10_balanceByTotals_17 ?_
  refine q_bipush (v := 7) X dX10_balanceByTotals_20 (by decide) ?_
  refine q_iald (t := 32) (i := 1) (jn := 7) (v := .int (mm.1 32 1 7)) X hK rfl rfl (gm (t := 32) (by decide) (ok1 (t := 32) (Nat.le_of_ble_eq_true rfl))) rfl (vpl (by decide +kernel)) (by decide +kernel) rfl dX10_balanceByTotals_22 ?_
  refine q_isub X dX10_balanceByTotals_23 ?_
  refine q_aload_n (j := 0) X dX10_balanceByTotals_24 rfl rfl ?_
  refine q_get (k := 3) (v := .ref (ad 32 1)) X hK rfl rfl (Nat.le_of_ble_eq_true rfl) inTX10 (gm (t := 30) (by decide) (ok1 (t := 30) (Nat.le_of_ble_eq_true rfl))) kw_7_10 rfl (rv_nn (a := ad 32) (r := 1) (ok1 (t := 32) (Nat.le_of_ble_eq_true rfl)).1) dX10_balanceByTotals_25 ?_
  refine q_bipush (v := 8) X dX10_balanceByTotals_28 (by decide) ?_
  refine q_iald (t := 32) (i := 1) (jn := 8) (v := .int (mm.1 32 1 8)) X hK rfl rfl (gm (t := 32) (by decide) (ok1 (t := 32) (Nat.le_of_ble_eq_true rfl))) rfl (vpl (by decide +kernel)) (by decide +kernel) rfl dX10_balanceByTotals_30 ?_
  refine q_isub X dX10_balanceByTotals_31 ?_
  refine q_calli (q_runV X hK hZ zo (gm (t := 30) (by decide) (ok1 (t := 30) (Nat.le_of_ble_eq_true rfl))) rfl rfl [.int ((((mm.1 32 1 6) + (mm.1 32 1 9)) - (mm.1 32 1 7)) - (mm.1 32 1 8))] [] rfl rfl (Nat.le_of_ble_eq_true rfl) dX10_balanceByTotals_32 ⟨Nat.le_of_ble_eq_true rfl, Nat.le_of_ble_eq_true rfl⟩ (c_X10_told ax ((((mm.1 32 1 6) + (mm.1 32 1 9)) - (mm.1 32 1 7)) - (mm.1 32 1 8)) mm _ h) rfl rfl (gV kw_8_102 kw_8_104 ks_130 kw_1_11 kw_8_105) hy_X10_told ⟨Nat.le_of_ble_eq_true rfl, Nat.le_of_ble_eq_true rfl⟩) (fun r_1 m_2 h => ?_)
  exact hE _ _ _ _ dX10_balanceByTotals_35 h
theorem dX10_deposits_0 : decode cX10_deposits 0 = .ok (.aload_n 0, 1) := by decide +kernel
theorem dX10_deposits_1 : decode cX10_deposits 1 = .ok (.aload_n 0, 1) := by decide +kernel
theorem dX10_deposits_2 : decode cX10_deposits 2 = .ok (.getfield 13, 3) := by decide +kernel
theorem dX10_deposits_5 : decode cX10_deposits 5 = .ok (.bipush 6, 2) := by decide +kernel
theorem dX10_deposits_7 : decode cX10_deposits 7 = .ok (.iaload, 1) := by decide +kernel
theorem dX10_deposits_8 : decode cX10_deposits 8 = .ok (.invokevirtual 227, 3) := by decide +kernel
theorem dX10_deposits_11 : decode cX10_deposits 11 = .ok (.ireturn, 1) := by decide +kernel
def w_X10_deposits  (mm : Mm) (Q9 : Int32 → Mm → Prop) : Prop :=
  w_X10_told (mm.1 32 1 6) mm (fun (r_1 : Int32) (m_2 : Mm) => Q9 r_1 m_2)
def rm_X10_deposits : Room := { frames := 1, cells := 0, slots := 0, locals := 21 }
theorem hy_X10_deposits : yX10_deposits.cls = RX10 ∧ yX10_deposits.cls ≠ "java/lang/invoke/MethodHandle" ∧ yX10_deposits.cls ≠ "java/lang/invoke/VarHandle" ∧ (parseMethodDescriptor yX10_deposits.desc).map (fun d => d.parameters.length) = some 0 := by decide +kernel
set_option maxRecDepth 100000 in
set_option maxHeartbeats 4000000 in
theorem c_X10_deposits {l : Launch} {D : va_G} {cA : Nat → ClassId} {ad : Nat → Nat → Nat} {A : Nat → Prop} (ax : Ax ad GM A)  (mm : Mm) (Q9 : Int32 → Mm → Prop) (h : w_X10_deposits mm Q9) : Met l yX10_deposits (.code yX10_deposits cX10_deposits 1 (some .int) :: TG) rm_X10_deposits (PcM TT D cA ad false GM (ZM) [.ref (ad 30 1)] mm) (AnsI TT D cA ad false GM A Q9) 0 0 A := by
  have zo := ZM_ok A
  unfold w_X10_deposits at h
  refine enterI pl_X10 ⟨rfl, rfl⟩ rfl (Nat.le_of_ble_eq_true rfl) ?_
  intro p e s m args below meth c QQ X hK hZ hnm hE
  refine q_aload_n (j := 0) X dX10_deposits_0 rfl rfl ?_
  refine q_aload_n (j := 0) X dX10_deposits_1 rfl rfl ?_
  refine q_get (k := 3) (v := .ref (ad 32 1)) X hK rfl rfl (Nat.le_of_ble_eq_true rfl) inTX10 (gm (t := 30) (by decide) (ok1 (t := 30) (Nat.le_of_ble_eq_true rfl))) kw_7_10 rfl (rv_nn (a := ad 32) (r := 1) (ok1 (t := 32) (Nat.le_of_ble_eq_true rfl)).1) dX10_deposits_2 ?_
  refine q_bipush (v := 6) X dX10_deposits_5 (by decide) ?_
  refine q_iald (t := 32) (i := 1) (jn := 6) (v := .int (mm.1 32 1 6)) X hK rfl rfl (gm (t := 32) (by decide) (ok1 (t := 32) (Nat.le_of_ble_eq_true rfl))) rfl (vpl (by decide +kernel)) (by decide +kernel) rfl dX10_deposits_7 ?_
  refine q_calli (q_runV X hK hZ zo (gm (t := 30) (by decide) (ok1 (t := 30) (Nat.le_of_ble_eq_true rfl))) rfl rfl [.int (mm.1 32 1 6)] [] rfl rfl (Nat.le_of_ble_eq_true rfl) dX10_deposits_8 ⟨Nat.le_of_ble_eq_true rfl, Nat.le_of_ble_eq_true rfl⟩ (c_X10_told ax (mm.1 32 1 6) mm _ h) rfl rfl (gV kw_8_102 kw_8_104 ks_130 kw_1_11 kw_8_105) hy_X10_told ⟨Nat.le_of_ble_eq_true rfl, Nat.le_of_ble_eq_true rfl⟩) (fun r_1 m_2 h => ?_)
  exact hE _ _ _ _ dX10_deposits_11 h
theorem dX10_dutiesPaid_0 : decode cX10_dutiesPaid 0 = .ok (.aload_n 0, 1) := by decide +kernel
theorem dX10_dutiesPaid_1 : decode cX10_dutiesPaid 1 = .ok (.aload_n 0, 1) := by decide +kernel
theorem dX10_dutiesPaid_2 : decode cX10_dutiesPaid 2 = .ok (.getfield 13, 3) := by decide +kernel
theorem dX10_dutiesPaid_5 : decode cX10_dutiesPaid 5 = .ok (.bipush 7, 2) := by decide +kernel
theorem dX10_dutiesPaid_7 : decode cX10_dutiesPaid 7 = .ok (.iaload, 1) := by decide +kernel
theorem dX10_dutiesPaid_8 : decode cX10_dutiesPaid 8 = .ok (.invokevirtual 227, 3) := by decide +kernel
theorem dX10_dutiesPaid_11 : decode cX10_dutiesPaid 11 = .ok (.ireturn, 1) := by decide +kernel
def w_X10_dutiesPaid  (mm : Mm) (Q9 : Int32 → Mm → Prop) : Prop :=
  w_X10_told (mm.1 32 1 7) mm (fun (r_1 : Int32) (m_2 : Mm) => Q9 r_1 m_2)
def rm_X10_dutiesPaid : Room := { frames := 1, cells := 0, slots := 0, locals := 21 }
theorem hy_X10_dutiesPaid : yX10_dutiesPaid.cls = RX10 ∧ yX10_dutiesPaid.cls ≠ "java/lang/invoke/MethodHandle" ∧ yX10_dutiesPaid.cls ≠ "java/lang/invoke/VarHandle" ∧ (parseMethodDescriptor yX10_dutiesPaid.desc).map (fun d => d.parameters.length) = some 0 := by decide +kernel
set_option maxRecDepth 100000 in
set_option maxHeartbeats 4000000 in
theorem c_X10_dutiesPaid {l : Launch} {D : va_G} {cA : Nat → ClassId} {ad : Nat → Nat → Nat} {A : Nat → Prop} (ax : Ax ad GM A)  (mm : Mm) (Q9 : Int32 → Mm → Prop) (h : w_X10_dutiesPaid mm Q9) : Met l yX10_dutiesPaid (.code yX10_dutiesPaid cX10_dutiesPaid 1 (some .int) :: TG) rm_X10_dutiesPaid (PcM TT D cA ad false GM (ZM) [.ref (ad 30 1)] mm) (AnsI TT D cA ad false GM A Q9) 0 0 A := by
  have zo := ZM_ok A
  unfold w_X10_dutiesPaid at h
  refine enterI pl_X10 ⟨rfl, rfl⟩ rfl (Nat.le_of_ble_eq_true rfl) ?_
  intro p e s m args below meth c QQ X hK hZ hnm hE
  refine q_aload_n (j := 0) X dX10_dutiesPaid_0 rfl rfl ?_
  refine q_aload_n (j := 0) X dX10_dutiesPaid_1 rfl rfl ?_
  refine q_get (k := 3) (v := .ref (ad 32 1)) X hK rfl rfl (Nat.le_of_ble_eq_true rfl) inTX10 (gm (t := 30) (by decide) (ok1 (t := 30) (Nat.le_of_ble_eq_true rfl))) kw_7_10 rfl (rv_nn (a := ad 32) (r := 1) (ok1 (t := 32) (Nat.le_of_ble_eq_true rfl)).1) dX10_dutiesPaid_2 ?_
  refine q_bipush (v := 7) X dX10_dutiesPaid_5 (by decide) ?_
  refine q_iald (t := 32) (i := 1) (jn := 7) (v := .int (mm.1 32 1 7)) X hK rfl rfl (gm (t := 32) (by decide) (ok1 (t := 32) (Nat.le_of_ble_eq_true rfl))) rfl (vpl (by decide +kernel)) (by decide +kernel) rfl dX10_dutiesPaid_7 ?_
  refine q_calli (q_runV X hK hZ zo (gm (t := 30) (by decide) (ok1 (t := 30) (Nat.le_of_ble_eq_true rfl))) rfl rfl [.int (mm.1 32 1 7)] [] rfl rfl (Nat.le_of_ble_eq_true rfl) dX10_dutiesPaid_8 ⟨Nat.le_of_ble_eq_true rfl, Nat.le_of_ble_eq_true rfl⟩ (c_X10_told ax (mm.1 32 1 7) mm _ h) rfl rfl (gV kw_8_102 kw_8_104 ks_130 kw_1_11 kw_8_105) hy_X10_told ⟨Nat.le_of_ble_eq_true rfl, Nat.le_of_ble_eq_true rfl⟩) (fun r_1 m_2 h => ?_)
  exact hE _ _ _ _ dX10_dutiesPaid_11 h
theorem dX10_charges_0 : decode cX10_charges 0 = .ok (.aload_n 0, 1) := by decide +kernel
theorem dX10_charges_1 : decode cX10_charges 1 = .ok (.aload_n 0, 1) := by decide +kernel
theorem dX10_charges_2 : decode cX10_charges 2 = .ok (.getfield 13, 3) := by decide +kernel
theorem dX10_charges_5 : decode cX10_charges 5 = .ok (.bipush 8, 2) := by decide +kernel
theorem dX10_charges_7 : decode cX10_charges 7 = .ok (.iaload, 1) := by decide +kernel
theorem dX10_charges_8 : decode cX10_charges 8 = .ok (.invokevirtual 227, 3) := by decide +kernel
theorem dX10_charges_11 : decode cX10_charges 11 = .ok (.ireturn, 1) := by decide +kernel
def w_X10_charges  (mm : Mm) (Q9 : Int32 → Mm → Prop) : Prop :=
  w_X10_told (mm.1 32 1 8) mm (fun (r_1 : Int32) (m_2 : Mm) => Q9 r_1 m_2)
def rm_X10_charges : Room := { frames := 1, cells := 0, slots := 0, locals := 21 }
theorem hy_X10_charges : yX10_charges.cls = RX10 ∧ yX10_charges.cls ≠ "java/lang/invoke/MethodHandle" ∧ yX10_charges.cls ≠ "java/lang/invoke/VarHandle" ∧ (parseMethodDescriptor yX10_charges.desc).map (fun d => d.parameters.length) = some 0 := by decide +kernel
set_option maxRecDepth 100000 in
set_option maxHeartbeats 4000000 in
theorem c_X10_charges {l : Launch} {D : va_G} {cA : Nat → ClassId} {ad : Nat → Nat → Nat} {A : Nat → Prop} (ax : Ax ad GM A)  (mm : Mm) (Q9 : Int32 → Mm → Prop) (h : w_X10_charges mm Q9) : Met l yX10_charges (.code yX10_charges cX10_charges 1 (some .int) :: TG) rm_X10_charges (PcM TT D cA ad false GM (ZM) [.ref (ad 30 1)] mm) (AnsI TT D cA ad false GM A Q9) 0 0 A := by
  have zo := ZM_ok A
  unfold w_X10_charges at h
  refine enterI pl_X10 ⟨rfl, rfl⟩ rfl (Nat.le_of_ble_eq_true rfl) ?_
  intro p e s m args below meth c QQ X hK hZ hnm hE
  refine q_aload_n (j := 0) X dX10_charges_0 rfl rfl ?_
  refine q_aload_n (j := 0) X dX10_charges_1 rfl rfl ?_
  refine q_get (k := 3) (v := .ref (ad 32 1)) X hK rfl rfl (Nat.le_of_ble_eq_true rfl) inTX10 (gm (t := 30) (by decide) (ok1 (t := 30) (Nat.le_of_ble_eq_true rfl))) kw_7_10 rfl (rv_nn (a := ad 32) (r := 1) (ok1 (t := 32) (Nat.le_of_ble_eq_true rfl)).1) dX10_charges_2 ?_
  refine q_bipush (v := 8) X dX10_charges_5 (by decide) ?_
  refine q_iald (t := 32) (i := 1) (jn := 8) (v := .int (mm.1 32 1 8)) X hK rfl rfl (gm (t := 32) (by decide) (ok1 (t := 32) (Nat.le_of_ble_eq_true rfl))) rfl (vpl (by decide +kernel)) (by decide +kernel) rfl dX10_charges_7 ?_
  refine q_calli (q_runV X hK hZ zo (gm (t := 30) (by decide) (ok1 (t := 30) (Nat.le_of_ble_eq_true rfl))) rfl rfl [.int (mm.1 32 1 8)] [] rfl rfl (Nat.le_of_ble_eq_true rfl) dX10_charges_8 ⟨Nat.le_of_ble_eq_true rfl, Nat.le_of_ble_eq_true rfl⟩ (c_X10_told ax (mm.1 32 1 8) mm _ h) rfl rfl (gV kw_8_102 kw_8_104 ks_130 kw_1_11 kw_8_105) hy_X10_told ⟨Nat.le_of_ble_eq_true rfl, Nat.le_of_ble_eq_true rfl⟩) (fun r_1 m_2 h => ?_)
  exact hE _ _ _ _ dX10_charges_11 h
theorem dX10_drawbacks_0 : decode cX10_drawbacks 0 = .ok (.aload_n 0, 1) := by decide +kernel
theorem dX10_drawbacks_1 : decode cX10_drawbacks 1 = .ok (.aload_n 0, 1) := by decide +kernel
theorem dX10_drawbacks_2 : decode cX10_drawbacks 2 = .ok (.getfield 13, 3) := by decide +kernel
theorem dX10_drawbacks_5 : decode cX10_drawbacks 5 = .ok (.bipush 9, 2) := by decide +kernel
theorem dX10_drawbacks_7 : decode cX10_drawbacks 7 = .ok (.iaload, 1) := by decide +kernel
theorem dX10_drawbacks_8 : decode cX10_drawbacks 8 = .ok (.invokevirtual 227, 3) := by decide +kernel
theorem dX10_drawbacks_11 : decode cX10_drawbacks 11 = .ok (.ireturn, 1) := by decide +kernel
def w_X10_drawbacks  (mm : Mm) (Q9 : Int32 → Mm → Prop) : Prop :=
  w_X10_told (mm.1 32 1 9) mm (fun (r_1 : Int32) (m_2 : Mm) => Q9 r_1 m_2)
def rm_X10_drawbacks : Room := { frames := 1, cells := 0, slots := 0, locals := 21 }
theorem hy_X10_drawbacks : yX10_drawbacks.cls = RX10 ∧ yX10_drawbacks.cls ≠ "java/lang/invoke/MethodHandle" ∧ yX10_drawbacks.cls ≠ "java/lang/invoke/VarHandle" ∧ (parseMethodDescriptor yX10_drawbacks.desc).map (fun d => d.parameters.length) = some 0 := by decide +kernel
set_option maxRecDepth 100000 in
set_option maxHeartbeats 4000000 in
theorem c_X10_drawbacks {l : Launch} {D : va_G} {cA : Nat → ClassId} {ad : Nat → Nat → Nat} {A : Nat → Prop} (ax : Ax ad GM A)  (mm : Mm) (Q9 : Int32 → Mm → Prop) (h : w_X10_drawbacks mm Q9) : Met l yX10_drawbacks (.code yX10_drawbacks cX10_drawbacks 1 (some .int) :: TG) rm_X10_drawbacks (PcM TT D cA ad false GM (ZM) [.ref (ad 30 1)] mm) (AnsI TT D cA ad false GM A Q9) 0 0 A := by
  have zo := ZM_ok A
  unfold w_X10_drawbacks at h
  refine enterI pl_X10 ⟨rfl, rfl⟩ rfl (Nat.le_of_ble_eq_true rfl) ?_
  intro p e s m args below meth c QQ X hK hZ hnm hE
  refine q_aload_n (j := 0) X dX10_drawbacks_0 rfl rfl ?_
  refine q_aload_n (j := 0) X dX10_drawbacks_1 rfl rfl ?_
  refine q_get (k := 3) (v := .ref (ad 32 1)) X hK rfl rfl (Nat.le_of_ble_eq_true rfl) inTX10 (gm (t := 30) (by decide) (ok1 (t := 30) (Nat.le_of_ble_eq_true rfl))) kw_7_10 rfl (rv_nn (a := ad 32) (r := 1) (ok1 (t := 32) (Nat.le_of_ble_eq_true rfl)).1) dX10_drawbacks_2 ?_
  refine q_bipush (v := 9) X dX10_drawbacks_5 (by decide) ?_
  refine q_iald (t := 32) (i := 1) (jn := 9) (v := .int (mm.1 32 1 9)) X hK rfl rfl (gm (t := 32) (by decide) (ok1 (t := 32) (Nat.le_of_ble_eq_true rfl))) rfl (vpl (by decide +kernel)) (by decide +kernel) rfl dX10_drawbacks_7 ?_
  refine q_calli (q_runV X hK hZ zo (gm (t := 30) (by decide) (ok1 (t := 30) (Nat.le_of_ble_eq_true rfl))) rfl rfl [.int (mm.1 32 1 9)] [] rfl rfl (Nat.le_of_ble_eq_true rfl) dX10_drawbacks_8 ⟨Nat.le_of_ble_eq_true rfl, Nat.le_of_ble_eq_true rfl⟩ (c_X10_told ax (mm.1 32 1 9) mm _ h) rfl rfl (gV kw_8_102 kw_8_104 ks_130 kw_1_11 kw_8_105) hy_X10_told ⟨Nat.le_of_ble_eq_true rfl, Nat.le_of_ble_eq_true rfl⟩) (fun r_1 m_2 h => ?_)
  exact hE _ _ _ _ dX10_drawbacks_11 h
theorem dX10_totalOf_0 : decode cX10_totalOf 0 = .ok (.aload_n 0, 1) := by decide +kernel
theorem dX10_totalOf_1 : decode cX10_totalOf 1 = .ok (.iload_n 1, 1) := by decide +kernel
theorem dX10_totalOf_2 : decode cX10_totalOf 2 = .ok (.invokestatic 129, 3) := by decide +kernel
theorem dX10_totalOf_5 : decode cX10_totalOf 5 = .ok (.ifCond .eq 7, 3) := by decide +kernel
theorem dX10_totalOf_8 : decode cX10_totalOf 8 = .ok (.iconst 0, 1) := by decide +kernel
theorem dX10_totalOf_9 : decode cX10_totalOf 9 = .ok (.goto 4, 3) := by decide +kernel
theorem dX10_totalOf_12 : decode cX10_totalOf 12 = .ok (.iconst 1, 1) := by decide +kernel
theorem dX10_totalOf_13 : decode cX10_totalOf 13 = .ok (.invokevirtual 147, 3) := by decide +kernel
theorem dX10_totalOf_16 : decode cX10_totalOf 16 = .ok (.ifCond .eq 7, 3) := by decide +kernel
theorem dX10_totalOf_19 : decode cX10_totalOf 19 = .ok (.iconst 0, 1) := by decide +kernel
theorem dX10_totalOf_20 : decode cX10_totalOf 20 = .ok (.goto 17, 3) := by decide +kernel
theorem dX10_totalOf_23 : decode cX10_totalOf 23 = .ok (.aload_n 0, 1) := by decide +kernel
theorem dX10_totalOf_24 : decode cX10_totalOf 24 = .ok (.getfield 13, 3) := by decide +kernel
theorem dX10_totalOf_27 : decode cX10_totalOf 27 = .ok (.bipush 32, 2) := by decide +kernel
theorem dX10_totalOf_29 : decode cX10_totalOf 29 = .ok (.bipush 6, 2) := by decide +kernel
theorem dX10_totalOf_31 : decode cX10_totalOf 31 = .ok (.iload_n 1, 1) := by decide +kernel
theorem dX10_totalOf_32 : decode cX10_totalOf 32 = .ok (.imul, 1) := by decide +kernel
theorem dX10_totalOf_33 : decode cX10_totalOf 33 = .ok (.iadd, 1) := by decide +kernel
theorem dX10_totalOf_34 : decode cX10_totalOf 34 = .ok (.iload_n 2, 1) := by decide +kernel
theorem dX10_totalOf_35 : decode cX10_totalOf 35 = .ok (.iadd, 1) := by decide +kernel
theorem dX10_totalOf_36 : decode cX10_totalOf 36 = .ok (.iaload, 1) := by decide +kernel
theorem dX10_totalOf_37 : decode cX10_totalOf 37 = .ok (.ireturn, 1) := by decide +kernel
def w_X10_totalOf_J13 (p0 : Int32) (p1 : Int32) (mm : Mm) (Q9 : Int32 → Mm → Prop) (y_3 : Int32) : Prop :=
  w_X10_refused y_3 mm (fun (r_4 : Int32) (m_5 : Mm) => ((r_4 = 0 → vp_in ((32 + (6 * p0)) + p1) 246 ∧ (Q9 (m_5.1 32 1 ((32 + (6 * p0)) + p1).toNatClampNeg) m_5)) ∧
  (¬ r_4 = 0 → Q9 0 m_5)))
def w_X10_totalOf (p0 : Int32) (p1 : Int32) (mm : Mm) (Q9 : Int32 → Mm → Prop) : Prop :=
  w_X10_isKind p0 mm (fun (r_1 : Int32) => ((r_1 = 0 → w_X10_totalOf_J13 p0 p1 mm Q9 1) ∧
  (¬ r_1 = 0 → w_X10_totalOf_J13 p0 p1 mm Q9 0)))
def rm_X10_totalOf : Room := { frames := 2, cells := 0, slots := 0, locals := 45 }
theorem hy_X10_totalOf : yX10_totalOf.cls = RX10 ∧ yX10_totalOf.cls ≠ "java/lang/invoke/MethodHandle" ∧ yX10_totalOf.cls ≠ "java/lang/invoke/VarHandle" ∧ (parseMethodDescriptor yX10_totalOf.desc).map (fun d => d.parameters.length) = some 2 := by decide +kernel
set_option maxRecDepth 100000 in
set_option maxHeartbeats 4000000 in
theorem c_X10_totalOf {l : Launch} {D : va_G} {cA : Nat → ClassId} {ad : Nat → Nat → Nat} {A : Nat → Prop} (ax : Ax ad GM A) (p0 : Int32) (p1 : Int32) (mm : Mm) (Q9 : Int32 → Mm → Prop) (h : w_X10_totalOf p0 p1 mm Q9) : Met l yX10_totalOf (.code yX10_totalOf cX10_totalOf 3 (some .int) :: TG) rm_X10_totalOf (PcM TT D cA ad false GM (ZM) [.ref (ad 30 1), .int p0, .int p1] mm) (AnsI TT D cA ad false GM A Q9) 0 0 A := by
  have zo := ZM_ok A
  unfold w_X10_totalOf at h
  refine enterI pl_X10 ⟨rfl, rfl⟩ rfl (Nat.le_of_ble_eq_true rfl) ?_
  intro p e s m args below meth c QQ X hK hZ hnm hE
  refine q_aload_n (j := 0) X dX10_totalOf_0 rfl rfl ?_
  refine q_iload_n (j := 1) X dX10_totalOf_1 rfl rfl ?_
  refine q_calli (q_runS X hK hZ zo [.int p0] [.ref (ad 30 1)] rfl rfl (Nat.le_of_ble_eq_true rfl) dX10_totalOf_2 ⟨Nat.le_of_ble_eq_true rfl, Nat.le_of_ble_eq_true rfl⟩ (c_X10_isKind ax p0 mm _ h) rfl rfl (gS kw_7_67 kw_7_68 kw_1_11 kw_7_69) hy_X10_isKind.2 ⟨Nat.le_of_ble_eq_true rfl, Nat.le_of_ble_eq_true rfl⟩) (fun r_1 m_2 h => ?_)
  obtain ⟨h, hm⟩ := h
  subst hm
  have J13 : ∀ (y_3 : Int32), w_X10_totalOf_J13 p0 p1 mm Q9 y_3 → V p l e rm_X10_totalOf s m args below meth c QQ 3 A 0 0 (Rep TT D cA ad false GM mm) 13 [(0, .ref (ad 30 1)), (1, .int p0), (2, .int p1)] [.int y_3, .ref (ad 30 1)] := by
    intro y_3 h
    unfold w_X10_totalOf_J13 at h
    refine q_calli (q_runV X hK hZ zo (gm (t := 30) (by decide) (ok1 (t := 30) (Nat.le_of_ble_eq_true rfl))) rfl rfl [.int y_3] [] rfl rfl (Nat.le_of_ble_eq_true rfl) dX10_totalOf_13 ⟨Nat.le_of_ble_eq_true rfl, Nat.le_of_ble_eq_true rfl⟩ (c_X10_refused ax y_3 mm _ h) rfl rfl (gV kw_7_126 kw_7_128 ks_95 kw_1_11 kw_7_129) hy_X10_refused ⟨Nat.le_of_ble_eq_true rfl, Nat.le_of_ble_eq_true rfl⟩) (fun r_4 m_5 h => ?_)
    refine q_if_eq (tgt := 23) X dX10_totalOf_16 (by decide) (fun c_6 => ?_) (fun c_6 => ?_)
    · have h := h.1 c_6
      refine q_aload_n (j := 0) X dX10_totalOf_23 rfl rfl ?_
      refine q_get (k := 3) (v := .ref (ad 32 1)) X hK rfl rfl (Nat.le_of_ble_eq_true rfl) inTX10 (gm (t := 30) (by decide) (ok1 (t := 30) (Nat.le_of_ble_eq_true rfl))) kw_7_10 rfl (rv_nn (a := ad 32) (r := 1) (ok1 (t := 32) (Nat.le_of_ble_eq_true rfl)).1) dX10_totalOf_24 ?_
      refine q_bipush (v := 32) X dX10_totalOf_27 (by decide) ?_
      refine q_bipush (v := 6) X dX10_totalOf_29 (by decide) ?_
      refine q_iload_n (j := 1) X dX10_totalOf_31 rfl rfl ?_
      refine q_imul X dX10_totalOf_32 ?_
      refine q_iadd X dX10_totalOf_33 ?_
      refine q_iload_n (j := 2) X dX10_totalOf_34 rfl rfl ?_
      refine q_iadd X dX10_totalOf_35 ?_
      obtain ⟨b_7, h⟩ := h
      refine q_iald (t := 32) (i := 1) (jn := ((32 + (6 * p0)) + p1).toNatClampNeg) (v := .int (m_5.1 32 1 ((32 + (6 * p0)) + p1).toNatClampNeg)) X hK rfl rfl (gm (t := 32) (by decide) (ok1 (t := 32) (Nat.le_of_ble_eq_true rfl))) rfl b_7 rfl rfl dX10_totalOf_36 ?_
      exact hE _ _ _ _ dX10_totalOf_37 h
    · have h := h.2 c_6
      refine q_iconst (v := 0) X dX10_totalOf_19 (by decide) ?_
      refine q_goto (tgt := 37) X dX10_totalOf_20 (by decide) ?_
      exact hE _ _ _ _ dX10_totalOf_37 h
  refine q_if_eq (tgt := 12) X dX10_totalOf_5 (by decide) (fun c_8 => ?_) (fun c_8 => ?_)
  · have h := h.1 c_8
    refine q_iconst (v := 1) X dX10_totalOf_12 (by decide) ?_
    refine q_sub [0, 1, 2] rfl ?_
    exact J13 1 h
  · have h := h.2 c_8
    refine q_iconst (v := 0) X dX10_totalOf_8 (by decide) ?_
    refine q_goto (tgt := 13) X dX10_totalOf_9 (by decide) ?_
    refine q_sub [0, 1, 2] rfl ?_
    exact J13 0 h
theorem dX10_entered_0 : decode cX10_entered 0 = .ok (.aload_n 0, 1) := by decide +kernel
theorem dX10_entered_1 : decode cX10_entered 1 = .ok (.iload_n 1, 1) := by decide +kernel
theorem dX10_entered_2 : decode cX10_entered 2 = .ok (.iconst 0, 1) := by decide +kernel
theorem dX10_entered_3 : decode cX10_entered 3 = .ok (.invokevirtual 242, 3) := by decide +kernel
theorem dX10_entered_6 : decode cX10_entered 6 = .ok (.ireturn, 1) := by decide +kernel
def w_X10_entered (p0 : Int32) (mm : Mm) (Q9 : Int32 → Mm → Prop) : Prop :=
  w_X10_totalOf p0 0 mm (fun (r_1 : Int32) (m_2 : Mm) => Q9 r_1 m_2)
def rm_X10_entered : Room := { frames := 3, cells := 0, slots := 0, locals := 67 }
theorem hy_X10_entered : yX10_entered.cls = RX10 ∧ yX10_entered.cls ≠ "java/lang/invoke/MethodHandle" ∧ yX10_entered.cls ≠ "java/lang/invoke/VarHandle" ∧ (parseMethodDescriptor yX10_entered.desc).map (fun d => d.parameters.length) = some 1 := by decide +kernel
set_option maxRecDepth 100000 in
set_option maxHeartbeats 4000000 in
theorem c_X10_entered {l : Launch} {D : va_G} {cA : Nat → ClassId} {ad : Nat → Nat → Nat} {A : Nat → Prop} (ax : Ax ad GM A) (p0 : Int32) (mm : Mm) (Q9 : Int32 → Mm → Prop) (h : w_X10_entered p0 mm Q9) : Met l yX10_entered (.code yX10_entered cX10_entered 2 (some .int) :: TG) rm_X10_entered (PcM TT D cA ad false GM (ZM) [.ref (ad 30 1), .int p0] mm) (AnsI TT D cA ad false GM A Q9) 0 0 A := by
  have zo := ZM_ok A
  unfold w_X10_entered at h
  refine enterI pl_X10 ⟨rfl, rfl⟩ rfl (Nat.le_of_ble_eq_true rfl) ?_
  intro p e s m args below meth c QQ X hK hZ hnm hE
  refine q_aload_n (j := 0) X dX10_entered_0 rfl rfl ?_
  refine q_iload_n (j := 1) X dX10_entered_1 rfl rfl ?_
  refine q_iconst (v := 0) X dX10_entered_2 (by decide) ?_
  refine q_calli (q_runV X hK hZ zo (gm (t := 30) (by decide) (ok1 (t := 30) (Nat.le_of_ble_eq_true rfl))) rfl rfl [.int p0, .int 0] [] rfl rfl (Nat.le_of_ble_eq_true rfl) dX10_entered_3 ⟨Nat.le_of_ble_eq_true rfl, Nat.le_of_ble_eq_true rfl⟩ (c_X10_totalOf ax p0 0 mm _ h) rfl rfl (gV kw_9_34 kw_9_36 ks_135 kw_1_11 kw_9_37) hy_X10_totalOf ⟨Nat.le_of_ble_eq_true rfl, Nat.le_of_ble_eq_true rfl⟩) (fun r_1 m_2 h => ?_)
  exact hE _ _ _ _ dX10_entered_6 h
theorem dX10_withdrawn_0 : decode cX10_withdrawn 0 = .ok (.aload_n 0, 1) := by decide +kernel
theorem dX10_withdrawn_1 : decode cX10_withdrawn 1 = .ok (.iload_n 1, 1) := by decide +kernel
theorem dX10_withdrawn_2 : decode cX10_withdrawn 2 = .ok (.iconst 1, 1) := by decide +kernel
theorem dX10_withdrawn_3 : decode cX10_withdrawn 3 = .ok (.invokevirtual 242, 3) := by decide +kernel
theorem dX10_withdrawn_6 : decode cX10_withdrawn 6 = .ok (.ireturn, 1) := by decide +kernel
def w_X10_withdrawn (p0 : Int32) (mm : Mm) (Q9 : Int32 → Mm → Prop) : Prop :=
  w_X10_totalOf p0 1 mm (fun (r_1 : Int32) (m_2 : Mm) => Q9 r_1 m_2)
def rm_X10_withdrawn : Room := { frames := 3, cells := 0, slots := 0, locals := 67 }
theorem hy_X10_withdrawn : yX10_withdrawn.cls = RX10 ∧ yX10_withdrawn.cls ≠ "java/lang/invoke/MethodHandle" ∧ yX10_withdrawn.cls ≠ "java/lang/invoke/VarHandle" ∧ (parseMethodDescriptor yX10_withdrawn.desc).map (fun d => d.parameters.length) = some 1 := by decide +kernel
set_option maxRecDepth 100000 in
set_option maxHeartbeats 4000000 in
theorem c_X10_withdrawn {l : Launch} {D : va_G} {cA : Nat → ClassId} {ad : Nat → Nat → Nat} {A : Nat → Prop} (ax : Ax ad GM A) (p0 : Int32) (mm : Mm) (Q9 : Int32 → Mm → Prop) (h : w_X10_withdrawn p0 mm Q9) : Met l yX10_withdrawn (.code yX10_withdrawn cX10_withdrawn 2 (some .int) :: TG) rm_X10_withdrawn (PcM TT D cA ad false GM (ZM) [.ref (ad 30 1), .int p0] mm) (AnsI TT D cA ad false GM A Q9) 0 0 A := by
  have zo := ZM_ok A
  unfold w_X10_withdrawn at h
  refine enterI pl_X10 ⟨rfl, rfl⟩ rfl (Nat.le_of_ble_eq_true rfl) ?_
  intro p e s m args below meth c QQ X hK hZ hnm hE
  refine q_aload_n (j := 0) X dX10_withdrawn_0 rfl rfl ?_
  refine q_iload_n (j := 1) X dX10_withdrawn_1 rfl rfl ?_
  refine q_iconst (v := 1) X dX10_withdrawn_2 (by decide) ?_
  refine q_calli (q_runV X hK hZ zo (gm (t := 30) (by decide) (ok1 (t := 30) (Nat.le_of_ble_eq_true rfl))) rfl rfl [.int p0, .int 1] [] rfl rfl (Nat.le_of_ble_eq_true rfl) dX10_withdrawn_3 ⟨Nat.le_of_ble_eq_true rfl, Nat.le_of_ble_eq_true rfl⟩ (c_X10_totalOf ax p0 1 mm _ h) rfl rfl (gV kw_9_34 kw_9_36 ks_135 kw_1_11 kw_9_37) hy_X10_totalOf ⟨Nat.le_of_ble_eq_true rfl, Nat.le_of_ble_eq_true rfl⟩) (fun r_1 m_2 h => ?_)
  exact hE _ _ _ _ dX10_withdrawn_6 h
theorem dX10_sentAbroad_0 : decode cX10_sentAbroad 0 = .ok (.aload_n 0, 1) := by decide +kernel
theorem dX10_sentAbroad_1 : decode cX10_sentAbroad 1 = .ok (.iload_n 1, 1) := by decide +kernel
theorem dX10_sentAbroad_2 : decode cX10_sentAbroad 2 = .ok (.iconst 2, 1) := by decide +kernel
theorem dX10_sentAbroad_3 : decode cX10_sentAbroad 3 = .ok (.invokevirtual 242, 3) := by decide +kernel
theorem dX10_sentAbroad_6 : decode cX10_sentAbroad 6 = .ok (.ireturn, 1) := by decide +kernel
def w_X10_sentAbroad (p0 : Int32) (mm : Mm) (Q9 : Int32 → Mm → Prop) : Prop :=
  w_X10_totalOf p0 2 mm (fun (r_1 : Int32) (m_2 : Mm) => Q9 r_1 m_2)
def rm_X10_sentAbroad : Room := { frames := 3, cells := 0, slots := 0, locals := 67 }
theorem hy_X10_sentAbroad : yX10_sentAbroad.cls = RX10 ∧ yX10_sentAbroad.cls ≠ "java/lang/invoke/MethodHandle" ∧ yX10_sentAbroad.cls ≠ "java/lang/invoke/VarHandle" ∧ (parseMethodDescriptor yX10_sentAbroad.desc).map (fun d => d.parameters.length) = some 1 := by decide +kernel
set_option maxRecDepth 100000 in
set_option maxHeartbeats 4000000 in
theorem c_X10_sentAbroad {l : Launch} {D : va_G} {cA : Nat → ClassId} {ad : Nat → Nat → Nat} {A : Nat → Prop} (ax : Ax ad GM A) (p0 : Int32) (mm : Mm) (Q9 : Int32 → Mm → Prop) (h : w_X10_sentAbroad p0 mm Q9) : Met l yX10_sentAbroad (.code yX10_sentAbroad cX10_sentAbroad 2 (some .int) :: TG) rm_X10_sentAbroad (PcM TT D cA ad false GM (ZM) [.ref (ad 30 1), .int p0] mm) (AnsI TT D cA ad false GM A Q9) 0 0 A := by
  have zo := ZM_ok A
  unfold w_X10_sentAbroad at h
  refine enterI pl_X10 ⟨rfl, rfl⟩ rfl (Nat.le_of_ble_eq_true rfl) ?_
  intro p e s m args below meth c QQ X hK hZ hnm hE
  refine q_aload_n (j := 0) X dX10_sentAbroad_0 rfl rfl ?_
  refine q_iload_n (j := 1) X dX10_sentAbroad_1 rfl rfl ?_
  refine q_iconst (v := 2) X dX10_sentAbroad_2 (by decide) ?_
  refine q_calli (q_runV X hK hZ zo (gm (t := 30) (by decide) (ok1 (t := 30) (Nat.le_of_ble_eq_true rfl))) rfl rfl [.int p0, .int 2] [] rfl rfl (Nat.le_of_ble_eq_true rfl) dX10_sentAbroad_3 ⟨Nat.le_of_ble_eq_true rfl, Nat.le_of_ble_eq_true rfl⟩ (c_X10_totalOf ax p0 2 mm _ h) rfl rfl (gV kw_9_34 kw_9_36 ks_135 kw_1_11 kw_9_37) hy_X10_totalOf ⟨Nat.le_of_ble_eq_true rfl, Nat.le_of_ble_eq_true rfl⟩) (fun r_1 m_2 h => ?_)
  exact hE _ _ _ _ dX10_sentAbroad_6 h
theorem dX10_wasted_0 : decode cX10_wasted 0 = .ok (.aload_n 0, 1) := by decide +kernel
theorem dX10_wasted_1 : decode cX10_wasted 1 = .ok (.iload_n 1, 1) := by decide +kernel
theorem dX10_wasted_2 : decode cX10_wasted 2 = .ok (.iconst 3, 1) := by decide +kernel
theorem dX10_wasted_3 : decode cX10_wasted 3 = .ok (.invokevirtual 242, 3) := by decide +kernel
theorem dX10_wasted_6 : decode cX10_wasted 6 = .ok (.ireturn, 1) := by decide +kernel
def w_X10_wasted (p0 : Int32) (mm : Mm) (Q9 : Int32 → Mm → Prop) : Prop :=
  w_X10_totalOf p0 3 mm (fun (r_1 : Int32) (m_2 : Mm) => Q9 r_1 m_2)
def rm_X10_wasted : Room := { frames := 3, cells := 0, slots := 0, locals := 67 }
theorem hy_X10_wasted : yX10_wasted.cls = RX10 ∧ yX10_wasted.cls ≠ "java/lang/invoke/MethodHandle" ∧ yX10_wasted.cls ≠ "java/lang/invoke/VarHandle" ∧ (parseMethodDescriptor yX10_wasted.desc).map (fun d => d.parameters.length) = some 1 := by decide +kernel
set_option maxRecDepth 100000 in
set_option maxHeartbeats 4000000 in
theorem c_X10_wasted {l : Launch} {D : va_G} {cA : Nat → ClassId} {ad : Nat → Nat → Nat} {A : Nat → Prop} (ax : Ax ad GM A) (p0 : Int32) (mm : Mm) (Q9 : Int32 → Mm → Prop) (h : w_X10_wasted p0 mm Q9) : Met l yX10_wasted (.code yX10_wasted cX10_wasted 2 (some .int) :: TG) rm_X10_wasted (PcM TT D cA ad false GM (ZM) [.ref (ad 30 1), .int p0] mm) (AnsI TT D cA ad false GM A Q9) 0 0 A := by
  have zo := ZM_ok A
  unfold w_X10_wasted at h
  refine enterI pl_X10 ⟨rfl, rfl⟩ rfl (Nat.le_of_ble_eq_true rfl) ?_
  intro p e s m args below meth c QQ X hK hZ hnm hE
  refine q_aload_n (j := 0) X dX10_wasted_0 rfl rfl ?_
  refine q_iload_n (j := 1) X dX10_wasted_1 rfl rfl ?_
  refine q_iconst (v := 3) X dX10_wasted_2 (by decide) ?_
  refine q_calli (q_runV X hK hZ zo (gm (t := 30) (by decide) (ok1 (t := 30) (Nat.le_of_ble_eq_true rfl))) rfl rfl [.int p0, .int 3] [] rfl rfl (Nat.le_of_ble_eq_true rfl) dX10_wasted_3 ⟨Nat.le_of_ble_eq_true rfl, Nat.le_of_ble_eq_true rfl⟩ (c_X10_totalOf ax p0 3 mm _ h) rfl rfl (gV kw_9_34 kw_9_36 ks_135 kw_1_11 kw_9_37) hy_X10_totalOf ⟨Nat.le_of_ble_eq_true rfl, Nat.le_of_ble_eq_true rfl⟩) (fun r_1 m_2 h => ?_)
  exact hE _ _ _ _ dX10_wasted_6 h
theorem dX10_lost_0 : decode cX10_lost 0 = .ok (.aload_n 0, 1) := by decide +kernel
theorem dX10_lost_1 : decode cX10_lost 1 = .ok (.iload_n 1, 1) := by decide +kernel
theorem dX10_lost_2 : decode cX10_lost 2 = .ok (.iconst 4, 1) := by decide +kernel
theorem dX10_lost_3 : decode cX10_lost 3 = .ok (.invokevirtual 242, 3) := by decide +kernel
theorem dX10_lost_6 : decode cX10_lost 6 = .ok (.ireturn, 1) := by decide +kernel
def w_X10_lost (p0 : Int32) (mm : Mm) (Q9 : Int32 → Mm → Prop) : Prop :=
  w_X10_totalOf p0 4 mm (fun (r_1 : Int32) (m_2 : Mm) => Q9 r_1 m_2)
def rm_X10_lost : Room := { frames := 3, cells := 0, slots := 0, locals := 67 }
theorem hy_X10_lost : yX10_lost.cls = RX10 ∧ yX10_lost.cls ≠ "java/lang/invoke/MethodHandle" ∧ yX10_lost.cls ≠ "java/lang/invoke/VarHandle" ∧ (parseMethodDescriptor yX10_lost.desc).map (fun d => d.parameters.length) = some 1 := by decide +kernel
set_option maxRecDepth 100000 in
set_option maxHeartbeats 4000000 in
theorem c_X10_lost {l : Launch} {D : va_G} {cA : Nat → ClassId} {ad : Nat → Nat → Nat} {A : Nat → Prop} (ax : Ax ad GM A) (p0 : Int32) (mm : Mm) (Q9 : Int32 → Mm → Prop) (h : w_X10_lost p0 mm Q9) : Met l yX10_lost (.code yX10_lost cX10_lost 2 (some .int) :: TG) rm_X10_lost (PcM TT D cA ad false GM (ZM) [.ref (ad 30 1), .int p0] mm) (AnsI TT D cA ad false GM A Q9) 0 0 A := by
  have zo := ZM_ok A
  unfold w_X10_lost at h
  refine enterI pl_X10 ⟨rfl, rfl⟩ rfl (Nat.le_of_ble_eq_true rfl) ?_
  intro p e s m args below meth c QQ X hK hZ hnm hE
  refine q_aload_n (j := 0) X dX10_lost_0 rfl rfl ?_
  refine q_iload_n (j := 1) X dX10_lost_1 rfl rfl ?_
  refine q_iconst (v := 4) X dX10_lost_2 (by decide) ?_
  refine q_calli (q_runV X hK hZ zo (gm (t := 30) (by decide) (ok1 (t := 30) (Nat.le_of_ble_eq_true rfl))) rfl rfl [.int p0, .int 4] [] rfl rfl (Nat.le_of_ble_eq_true rfl) dX10_lost_3 ⟨Nat.le_of_ble_eq_true rfl, Nat.le_of_ble_eq_true rfl⟩ (c_X10_totalOf ax p0 4 mm _ h) rfl rfl (gV kw_9_34 kw_9_36 ks_135 kw_1_11 kw_9_37) hy_X10_totalOf ⟨Nat.le_of_ble_eq_true rfl, Nat.le_of_ble_eq_true rfl⟩) (fun r_1 m_2 h => ?_)
  exact hE _ _ _ _ dX10_lost_6 h
