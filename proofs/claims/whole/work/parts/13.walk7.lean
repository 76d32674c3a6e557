theorem dX10_does_0 : decode cX10_does 0 = .ok (.iload_n 1, 1) := by decide +kernel
theorem dX10_does_1 : decode cX10_does 1 = .ok (.tableswitch 289 98 116 #[199, 289, 227, 91, 289, 289, 289, 289, 289, 289, 143, 289, 289, 171, 289, 289, 289, 289, 255], 91) := by decide +kernel
theorem dX10_does_92 : decode cX10_does 92 = .ok (.aload_n 0, 1) := by decide +kernel
theorem dX10_does_93 : decode cX10_does 93 = .ok (.aload_n 0, 1) := by decide +kernel
theorem dX10_does_94 : decode cX10_does 94 = .ok (.getfield 276, 3) := by decide +kernel
theorem dX10_does_97 : decode cX10_does 97 = .ok (.aload_n 0, 1) := by decide +kernel
theorem dX10_does_98 : decode cX10_does 98 = .ok (.getfield 282, 3) := by decide +kernel
theorem dX10_does_101 : decode cX10_does 101 = .ok (.aload_n 0, 1) := by decide +kernel
theorem dX10_does_102 : decode cX10_does 102 = .ok (.getfield 288, 3) := by decide +kernel
theorem dX10_does_105 : decode cX10_does 105 = .ok (.aload_n 0, 1) := by decide +kernel
theorem dX10_does_106 : decode cX10_does 106 = .ok (.getfield 266, 3) := by decide +kernel
theorem dX10_does_109 : decode cX10_does 109 = .ok (.invokevirtual 144, 3) := by decide +kernel
theorem dX10_does_112 : decode cX10_does 112 = .ok (.ifCond .ne 30, 3) := by decide +kernel
theorem dX10_does_115 : decode cX10_does 115 = .ok (.aload_n 0, 1) := by decide +kernel
theorem dX10_does_116 : decode cX10_does 116 = .ok (.aload_n 0, 1) := by decide +kernel
theorem dX10_does_117 : decode cX10_does 117 = .ok (.getfield 276, 3) := by decide +kernel
theorem dX10_does_120 : decode cX10_does 120 = .ok (.aload_n 0, 1) := by decide +kernel
theorem dX10_does_121 : decode cX10_does 121 = .ok (.getfield 282, 3) := by decide +kernel
theorem dX10_does_124 : decode cX10_does 124 = .ok (.aload_n 0, 1) := by decide +kernel
theorem dX10_does_125 : decode cX10_does 125 = .ok (.getfield 288, 3) := by decide +kernel
theorem dX10_does_128 : decode cX10_does 128 = .ok (.aload_n 0, 1) := by decide +kernel
theorem dX10_does_129 : decode cX10_does 129 = .ok (.getfield 266, 3) := by decide +kernel
theorem dX10_does_132 : decode cX10_does 132 = .ok (.invokevirtual 153, 3) := by decide +kernel
theorem dX10_does_135 : decode cX10_does 135 = .ok (.ifCond .lt 7, 3) := by decide +kernel
theorem dX10_does_138 : decode cX10_does 138 = .ok (.iconst 1, 1) := by decide +kernel
theorem dX10_does_139 : decode cX10_does 139 = .ok (.goto 4, 3) := by decide +kernel
theorem dX10_does_142 : decode cX10_does 142 = .ok (.iconst 0, 1) := by decide +kernel
theorem dX10_does_143 : decode cX10_does 143 = .ok (.ireturn, 1) := by decide +kernel
theorem dX10_does_144 : decode cX10_does 144 = .ok (.aload_n 0, 1) := by decide +kernel
theorem dX10_does_145 : decode cX10_does 145 = .ok (.aload_n 0, 1) := by decide +kernel
theorem dX10_does_146 : decode cX10_does 146 = .ok (.getfield 266, 3) := by decide +kernel
theorem dX10_does_149 : decode cX10_does 149 = .ok (.invokevirtual 117, 3) := by decide +kernel
theorem dX10_does_152 : decode cX10_does 152 = .ok (.ifCond .ne 18, 3) := by decide +kernel
theorem dX10_does_155 : decode cX10_does 155 = .ok (.aload_n 0, 1) := by decide +kernel
theorem dX10_does_156 : decode cX10_does 156 = .ok (.aload_n 0, 1) := by decide +kernel
theorem dX10_does_157 : decode cX10_does 157 = .ok (.getfield 266, 3) := by decide +kernel
theorem dX10_does_160 : decode cX10_does 160 = .ok (.invokevirtual 195, 3) := by decide +kernel
theorem dX10_does_163 : decode cX10_does 163 = .ok (.ifCond .le 7, 3) := by decide +kernel
theorem dX10_does_166 : decode cX10_does 166 = .ok (.iconst 1, 1) := by decide +kernel
theorem dX10_does_167 : decode cX10_does 167 = .ok (.goto 4, 3) := by decide +kernel
theorem dX10_does_170 : decode cX10_does 170 = .ok (.iconst 0, 1) := by decide +kernel
theorem dX10_does_171 : decode cX10_does 171 = .ok (.ireturn, 1) := by decide +kernel
theorem dX10_does_172 : decode cX10_does 172 = .ok (.aload_n 0, 1) := by decide +kernel
theorem dX10_does_173 : decode cX10_does 173 = .ok (.aload_n 0, 1) := by decide +kernel
theorem dX10_does_174 : decode cX10_does 174 = .ok (.getfield 266, 3) := by decide +kernel
theorem dX10_does_177 : decode cX10_does 177 = .ok (.invokevirtual 117, 3) := by decide +kernel
theorem dX10_does_180 : decode cX10_does 180 = .ok (.ifCond .eq 18, 3) := by decide +kernel
theorem dX10_does_183 : decode cX10_does 183 = .ok (.aload_n 0, 1) := by decide +kernel
theorem dX10_does_184 : decode cX10_does 184 = .ok (.aload_n 0, 1) := by decide +kernel
theorem dX10_does_185 : decode cX10_does 185 = .ok (.getfield 266, 3) := by decide +kernel
theorem dX10_does_188 : decode cX10_does 188 = .ok (.invokevirtual 198, 3) := by decide +kernel
theorem dX10_does_191 : decode cX10_does 191 = .ok (.ifCond .lt 7, 3) := by decide +kernel
theorem dX10_does_194 : decode cX10_does 194 = .ok (.iconst 1, 1) := by decide +kernel
theorem dX10_does_195 : decode cX10_does 195 = .ok (.goto 4, 3) := by decide +kernel
theorem dX10_does_198 : decode cX10_does 198 = .ok (.iconst 0, 1) := by decide +kernel
theorem dX10_does_199 : decode cX10_does 199 = .ok (.ireturn, 1) := by decide +kernel
theorem dX10_does_200 : decode cX10_does 200 = .ok (.aload_n 0, 1) := by decide +kernel
theorem dX10_does_201 : decode cX10_does 201 = .ok (.aload_n 0, 1) := by decide +kernel
theorem dX10_does_202 : decode cX10_does 202 = .ok (.getfield 266, 3) := by decide +kernel
theorem dX10_does_205 : decode cX10_does 205 = .ok (.invokevirtual 201, 3) := by decide +kernel
theorem dX10_does_208 : decode cX10_does 208 = .ok (.ifCond .eq 18, 3) := by decide +kernel
theorem dX10_does_211 : decode cX10_does 211 = .ok (.aload_n 0, 1) := by decide +kernel
theorem dX10_does_212 : decode cX10_does 212 = .ok (.aload_n 0, 1) := by decide +kernel
theorem dX10_does_213 : decode cX10_does 213 = .ok (.getfield 266, 3) := by decide +kernel
theorem dX10_does_216 : decode cX10_does 216 = .ok (.invokevirtual 204, 3) := by decide +kernel
theorem dX10_does_219 : decode cX10_does 219 = .ok (.ifCond .le 7, 3) := by decide +kernel
theorem dX10_does_222 : decode cX10_does 222 = .ok (.iconst 1, 1) := by decide +kernel
theorem dX10_does_223 : decode cX10_does 223 = .ok (.goto 4, 3) := by decide +kernel
theorem dX10_does_226 : decode cX10_does 226 = .ok (.iconst 0, 1) := by decide +kernel
theorem dX10_does_227 : decode cX10_does 227 = .ok (.ireturn, 1) := by decide +kernel
theorem dX10_does_228 : decode cX10_does 228 = .ok (.aload_n 0, 1) := by decide +kernel
theorem dX10_does_229 : decode cX10_does 229 = .ok (.aload_n 0, 1) := by decide +kernel
theorem dX10_does_230 : decode cX10_does 230 = .ok (.getfield 266, 3) := by decide +kernel
theorem dX10_does_233 : decode cX10_does 233 = .ok (.invokevirtual 207, 3) := by decide +kernel
theorem dX10_does_236 : decode cX10_does 236 = .ok (.ifCond .eq 18, 3) := by decide +kernel
theorem dX10_does_239 : decode cX10_does 239 = .ok (.aload_n 0, 1) := by decide +kernel
theorem dX10_does_240 : decode cX10_does 240 = .ok (.aload_n 0, 1) := by decide +kernel
theorem dX10_does_241 : decode cX10_does 241 = .ok (.getfield 266, 3) := by decide +kernel
theorem dX10_does_244 : decode cX10_does 244 = .ok (.invokevirtual 210, 3) := by decide +kernel
theorem dX10_does_247 : decode cX10_does 247 = .ok (.ifCond .lt 7, 3) := by decide +kernel
theorem dX10_does_250 : decode cX10_does 250 = .ok (.iconst 1, 1) := by decide +kernel
theorem dX10_does_251 : decode cX10_does 251 = .ok (.goto 4, 3) := by decide +kernel
theorem dX10_does_254 : decode cX10_does 254 = .ok (.iconst 0, 1) := by decide +kernel
theorem dX10_does_255 : decode cX10_does 255 = .ok (.ireturn, 1) := by decide +kernel
theorem dX10_does_256 : decode cX10_does 256 = .ok (.aload_n 0, 1) := by decide +kernel
theorem dX10_does_257 : decode cX10_does 257 = .ok (.getfield 13, 3) := by decide +kernel
theorem dX10_does_260 : decode cX10_does 260 = .ok (.iconst 0, 1) := by decide +kernel
theorem dX10_does_261 : decode cX10_does 261 = .ok (.iaload, 1) := by decide +kernel
theorem dX10_does_262 : decode cX10_does 262 = .ok (.aload_n 0, 1) := by decide +kernel
theorem dX10_does_263 : decode cX10_does 263 = .ok (.getfield 266, 3) := by decide +kernel
theorem dX10_does_266 : decode cX10_does 266 = .ok (.iadd, 1) := by decide +kernel
theorem dX10_does_267 : decode cX10_does 267 = .ok (.sipush 9999, 3) := by decide +kernel
theorem dX10_does_270 : decode cX10_does 270 = .ok (.if_icmp .gt 18, 3) := by decide +kernel
theorem dX10_does_273 : decode cX10_does 273 = .ok (.aload_n 0, 1) := by decide +kernel
theorem dX10_does_274 : decode cX10_does 274 = .ok (.aload_n 0, 1) := by decide +kernel
theorem dX10_does_275 : decode cX10_does 275 = .ok (.getfield 266, 3) := by decide +kernel
theorem dX10_does_278 : decode cX10_does 278 = .ok (.invokevirtual 224, 3) := by decide +kernel
theorem dX10_does_281 : decode cX10_does 281 = .ok (.ifCond .lt 7, 3) := by decide +kernel
theorem dX10_does_284 : decode cX10_does 284 = .ok (.iconst 1, 1) := by decide +kernel
theorem dX10_does_285 : decode cX10_does 285 = .ok (.goto 4, 3) := by decide +kernel
theorem dX10_does_288 : decode cX10_does 288 = .ok (.iconst 0, 1) := by decide +kernel
theorem dX10_does_289 : decode cX10_does 289 = .ok (.ireturn, 1) := by decide +kernel
theorem dX10_does_290 : decode cX10_does 290 = .ok (.aload_n 0, 1) := by decide +kernel
theorem dX10_does_291 : decode cX10_does 291 = .ok (.iload_n 1, 1) := by decide +kernel
theorem dX10_does_292 : decode cX10_does 292 = .ok (.invokevirtual 295, 3) := by decide +kernel
theorem dX10_does_295 : decode cX10_does 295 = .ok (.ireturn, 1) := by decide +kernel
def w_X10_does (p0 : Int32) (mm : Mm) (Q9 : Int32 → Mm → Prop) : Prop :=
  ((p0 = 98 → w_X10_canBreak (mm.1 30 1 10) mm (fun (r_2 : Int32) => ((r_2 = 0 → Q9 0 mm) ∧
  (¬ r_2 = 0 → w_X10_breakOn (mm.1 30 1 10) mm (fun (r_5 : Int32) (m_6 : Mm) => ((r_5 ≤ 0 → Q9 0 m_6) ∧
  (¬ r_5 ≤ 0 → Q9 1 m_6))))))) ∧
  (p0 = 100 → w_X10_canPay (mm.1 30 1 10) mm (fun (r_8 : Int32) => ((r_8 = 0 → Q9 0 mm) ∧
  (¬ r_8 = 0 → w_X10_payOn (mm.1 30 1 10) mm (fun (r_11 : Int32) (m_12 : Mm) => ((r_11 < 0 → Q9 0 m_12) ∧
  (¬ r_11 < 0 → Q9 1 m_12))))))) ∧
  (p0 = 101 → w_X10_noEntry (mm.1 30 1 11) (mm.1 30 1 12) (mm.1 30 1 13) (mm.1 30 1 10) mm (fun (r_14 : Int32) => ((¬ r_14 = 0 → Q9 0 mm) ∧
  (r_14 = 0 → w_X10_enterOn (mm.1 30 1 11) (mm.1 30 1 12) (mm.1 30 1 13) (mm.1 30 1 10) mm (fun (r_17 : Int32) (m_18 : Mm) => ((r_17 < 0 → Q9 0 m_18) ∧
  (¬ r_17 < 0 → Q9 1 m_18))))))) ∧
  (p0 = 108 → w_X10_isShut (mm.1 30 1 10) mm (fun (r_20 : Int32) => ((¬ r_20 = 0 → Q9 0 mm) ∧
  (r_20 = 0 → w_X10_lockOn (mm.1 30 1 10) mm (fun (r_23 : Int32) (m_24 : Mm) => ((r_23 ≤ 0 → Q9 0 m_24) ∧
  (¬ r_23 ≤ 0 → Q9 1 m_24))))))) ∧
  (p0 = 111 → w_X10_isShut (mm.1 30 1 10) mm (fun (r_26 : Int32) => ((r_26 = 0 → Q9 0 mm) ∧
  (¬ r_26 = 0 → w_X10_openOn (mm.1 30 1 10) mm (fun (r_29 : Int32) (m_30 : Mm) => ((r_29 < 0 → Q9 0 m_30) ∧
  (¬ r_29 < 0 → Q9 1 m_30))))))) ∧
  (p0 = 116 → ((9999 < ((mm.1 32 1 0) + (mm.1 30 1 10)) → Q9 0 mm) ∧
  (¬ 9999 < ((mm.1 32 1 0) + (mm.1 30 1 10)) → w_X10_passOn (mm.1 30 1 10) mm (fun (r_33 : Int32) (m_34 : Mm) => ((r_33 < 0 → Q9 0 m_34) ∧
  (¬ r_33 < 0 → Q9 1 m_34)))))) ∧
  (¬ p0 = 98 → ¬ p0 = 100 → ¬ p0 = 101 → ¬ p0 = 108 → ¬ p0 = 111 → ¬ p0 = 116 → w_X10_doesEntry p0 mm (fun (r_36 : Int32) (m_37 : Mm) => isB r_36 ∧ Q9 r_36 m_37)))
def rm_X10_does : Room := { frames := 6, cells := 0, slots := 0, locals := 140 }
theorem hy_X10_does : yX10_does.cls = RX10 ∧ yX10_does.cls ≠ "java/lang/invoke/MethodHandle" ∧ yX10_does.cls ≠ "java/lang/invoke/VarHandle" ∧ (parseMethodDescriptor yX10_does.desc).map (fun d => d.parameters.length) = some 1 := by decide +kernel
set_option maxRecDepth 100000 in
set_option maxHeartbeats 4000000 in
theorem c_X10_does {l : Launch} {D : va_G} {cA : Nat → ClassId} {ad : Nat → Nat → Nat} {A : Nat → Prop} (ax : Ax ad GM A) (p0 : Int32) (mm : Mm) (Q9 : Int32 → Mm → Prop) (h : w_X10_does p0 mm Q9) : Met l yX10_does (.code yX10_does cX10_does 2 (some .boolean) :: TG) rm_X10_does (PcM TT D cA ad false GM (ZM) [.ref (ad 30 1), .int p0] mm) (AnsI TT D cA ad false GM A Q9) 0 0 A := by
  have zo := ZM_ok A
  unfold w_X10_does at h
  refine enterZ pl_X10 ⟨rfl, rfl⟩ rfl (Nat.le_of_ble_eq_true rfl) ?_
  intro p e s m args below meth c QQ X hK hZ hnm hE
  refine q_iload_n (j := 1) X dX10_does_0 rfl rfl ?_
  by_cases c_1 : p0 = 98
  · have h := h.1 c_1
    refine q_tabI (k := 98) (tgt := 200) X dX10_does_1 c_1 (by decide) (by decide) rfl (by decide) ?_
    refine q_aload_n (j := 0) X dX10_does_200 rfl rfl ?_
    refine q_aload_n (j := 0) X dX10_does_201 rfl rfl ?_
    refine q_get (k := 10) (v := .int (mm.1 30 1 10)) X hK rfl rfl (Nat.le_of_ble_eq_true rfl) inTX10 (gm (t := 30) (by decide) (ok1 (t := 30) (Nat.le_of_ble_eq_true rfl))) kw_7_17 rfl rfl dX10_does_202 ?_
    refine q_calli (q_runV X hK hZ zo (gm (t := 30) (by decide) (ok1 (t := 30) (Nat.le_of_ble_eq_true rfl))) rfl rfl [.int (mm.1 30 1 10)] [] rfl rfl (Nat.le_of_ble_eq_true rfl) dX10_does_205 ⟨Nat.le_of_ble_eq_true rfl, Nat.le_of_ble_eq_true rfl⟩ (c_X10_canBreak ax (mm.1 30 1 10) mm _ h) rfl rfl (gV kw_8_49 kw_8_51 ks_124 kw_1_11 kw_8_52) hy_X10_canBreak ⟨Nat.le_of_ble_eq_true rfl, Nat.le_of_ble_eq_true rfl⟩) (fun r_2 m_3 h => ?_)
    obtain ⟨h, hm⟩ := h
    subst hm
    refine q_if_eq (tgt := 226) X dX10_does_208 (by decide) (fun c_4 => ?_) (fun c_4 => ?_)
    · have h := h.1 c_4
      refine q_iconst (v := 0) X dX10_does_226 (by decide) ?_
      exact hE _ _ _ _ dX10_does_227 (Or.inl rfl) h
    · have h := h.2 c_4
      refine q_aload_n (j := 0) X dX10_does_211 rfl rfl ?_
      refine q_aload_n (j := 0) X dX10_does_212 rfl rfl ?_
      refine q_get (k := 10) (v := .int (mm.1 30 1 10)) X hK rfl rfl (Nat.le_of_ble_eq_true rfl) inTX10 (gm (t := 30) (by decide) (ok1 (t := 30) (Nat.le_of_ble_eq_true rfl))) kw_7_17 rfl rfl dX10_does_213 ?_
      refine q_calli (q_runV X hK hZ zo (gm (t := 30) (by decide) (ok1 (t := 30) (Nat.le_of_ble_eq_true rfl))) rfl rfl [.int (mm.1 30 1 10)] [] rfl rfl (Nat.le_of_ble_eq_true rfl) dX10_does_216 ⟨Nat.le_of_ble_eq_true rfl, Nat.le_of_ble_eq_true rfl⟩ (c_X10_breakOn ax (mm.1 30 1 10) mm _ h) rfl rfl (gV kw_8_53 kw_8_55 ks_125 kw_1_11 kw_8_56) hy_X10_breakOn ⟨Nat.le_of_ble_eq_true rfl, Nat.le_of_ble_eq_true rfl⟩) (fun r_5 m_6 h => ?_)
      refine q_if_le (tgt := 226) X dX10_does_219 (by decide) (fun c_7 => ?_) (fun c_7 => ?_)
      · have h := h.1 c_7
        refine q_iconst (v := 0) X dX10_does_226 (by decide) ?_
        exact hE _ _ _ _ dX10_does_227 (Or.inl rfl) h
      · have h := h.2 c_7
        refine q_iconst (v := 1) X dX10_does_222 (by decide) ?_
        refine q_goto (tgt := 227) X dX10_does_223 (by decide) ?_
        exact hE _ _ _ _ dX10_does_227 (Or.inr rfl) h
  have h := h.2
  have nc_1_98 := c_1
  by_cases c_1 : p0 = 100
  · have h := h.1 c_1
    refine q_tabI (k := 100) (tgt := 228) X dX10_does_1 c_1 (by decide) (by decide) rfl (by decide) ?_
    refine q_aload_n (j := 0) X dX10_does_228 rfl rfl ?_
    refine q_aload_n (j := 0) X dX10_does_229 rfl rfl ?_
    refine q_get (k := 10) (v := .int (mm.1 30 1 10)) X hK rfl rfl (Nat.le_of_ble_eq_true rfl) inTX10 (gm (t := 30) (by decide) (ok1 (t := 30) (Nat.le_of_ble_eq_true rfl))) kw_7_17 rfl rfl dX10_does_230 ?_
    refine q_calli (q_runV X hK hZ zo (gm (t := 30) (by decide) (ok1 (t := 30) (Nat.le_of_ble_eq_true rfl))) rfl rfl [.int (mm.1 30 1 10)] [] rfl rfl (Nat.le_of_ble_eq_true rfl) dX10_does_233 ⟨Nat.le_of_ble_eq_true rfl, Nat.le_of_ble_eq_true rfl⟩ (c_X10_canPay ax (mm.1 30 1 10) mm _ h) rfl rfl (gV kw_8_61 kw_8_63 ks_126 kw_1_11 kw_8_64) hy_X10_canPay ⟨Nat.le_of_ble_eq_true rfl, Nat.le_of_ble_eq_true rfl⟩) (fun r_8 m_9 h => ?_)
    obtain ⟨h, hm⟩ := h
    subst hm
    refine q_if_eq (tgt := 254) X dX10_does_236 (by decide) (fun c_10 => ?_) (fun c_10 => ?_)
    · have h := h.1 c_10
      refine q_iconst (v := 0) X dX10_does_254 (by decide) ?_
      exact hE _ _ _ _ dX10_does_255 (Or.inl rfl) h
    · have h := h.2 c_10
      refine q_aload_n (j := 0) X dX10_does_239 rfl rfl ?_
      refine q_aload_n (j := 0) X dX10_does_240 rfl rfl ?_
      refine q_get (k := 10) (v := .int (mm.1 30 1 10)) X hK rfl rfl (Nat.le_of_ble_eq_true rfl) inTX10 (gm (t := 30) (by decide) (ok1 (t := 30) (Nat.le_of_ble_eq_true rfl))) kw_7_17 rfl rfl dX10_does_241 ?_
      refine q_calli (q_runV X hK hZ zo (gm (t := 30) (by decide) (ok1 (t := 30) (Nat.le_of_ble_eq_true rfl))) rfl rfl [.int (mm.1 30 1 10)] [] rfl rfl (Nat.le_of_ble_eq_true rfl) dX10_does_244 ⟨Nat.le_of_ble_eq_true rfl, Nat.le_of_ble_eq_true rfl⟩ (c_X10_payOn ax (mm.1 30 1 10) mm _ h) rfl rfl (gV kw_8_66 kw_8_68 ks_127 kw_1_11 kw_8_69) hy_X10_payOn ⟨Nat.le_of_ble_eq_true rfl, Nat.le_of_ble_eq_true rfl⟩) (fun r_11 m_12 h => ?_)
      refine q_if_lt (tgt := 254) X dX10_does_247 (by decide) (fun c_13 => ?_) (fun c_13 => ?_)
      · have h := h.1 c_13
        refine q_iconst (v := 0) X dX10_does_254 (by decide) ?_
        exact hE _ _ _ _ dX10_does_255 (Or.inl rfl) h
      · have h := h.2 c_13
        refine q_iconst (v := 1) X dX10_does_250 (by decide) ?_
        refine q_goto (tgt := 255) X dX10_does_251 (by decide) ?_
        exact hE _ _ _ _ dX10_does_255 (Or.inr rfl) h
  have h := h.2
  have nc_1_100 := c_1
  by_cases c_1 : p0 = 101
  · have h := h.1 c_1
    refine q_tabI (k := 101) (tgt := 92) X dX10_does_1 c_1 (by decide) (by decide) rfl (by decide) ?_
    refine q_aload_n (j := 0) X dX10_does_92 rfl rfl ?_
    refine q_aload_n (j := 0) X dX10_does_93 rfl rfl ?_
    refine q_get (k := 11) (v := .int (mm.1 30 1 11)) X hK rfl rfl (Nat.le_of_ble_eq_true rfl) inTX10 (gm (t := 30) (by decide) (ok1 (t := 30) (Nat.le_of_ble_eq_true rfl))) kw_7_18 rfl rfl dX10_does_94 ?_
    refine q_aload_n (j := 0) X dX10_does_97 rfl rfl ?_
    refine q_get (k := 12) (v := .int (mm.1 30 1 12)) X hK rfl rfl (Nat.le_of_ble_eq_true rfl) inTX10 (gm (t := 30) (by decide) (ok1 (t := 30) (Nat.le_of_ble_eq_true rfl))) kw_7_19 rfl rfl dX10_does_98 ?_
    refine q_aload_n (j := 0) X dX10_does_101 rfl rfl ?_
    refine q_get (k := 13) (v := .int (mm.1 30 1 13)) X hK rfl rfl (Nat.le_of_ble_eq_true rfl) inTX10 (gm (t := 30) (by decide) (ok1 (t := 30) (Nat.le_of_ble_eq_true rfl))) kw_7_20 rfl rfl dX10_does_102 ?_
    refine q_aload_n (j := 0) X dX10_does_105 rfl rfl ?_
    refine q_get (k := 10) (v := .int (mm.1 30 1 10)) X hK rfl rfl (Nat.le_of_ble_eq_true rfl) inTX10 (gm (t := 30) (by decide) (ok1 (t := 30) (Nat.le_of_ble_eq_true rfl))) kw_7_17 rfl rfl dX10_does_106 ?_
    refine q_calli (q_runV X hK hZ zo (gm (t := 30) (by decide) (ok1 (t := 30) (Nat.le_of_ble_eq_true rfl))) rfl rfl [.int (mm.1 30 1 11), .int (mm.1 30 1 12), .int (mm.1 30 1 13), .int (mm.1 30 1 10)] [] rfl rfl (Nat.le_of_ble_eq_true rfl) dX10_does_109 ⟨Nat.le_of_ble_eq_true rfl, Nat.le_of_ble_eq_true rfl⟩ (c_X10_noEntry ax (mm.1 30 1 11) (mm.1 30 1 12) (mm.1 30 1 13) (mm.1 30 1 10) mm _ h) rfl rfl (gV kw_7_83 kw_7_85 ks_85 kw_1_11 kw_7_86) hy_X10_noEntry ⟨Nat.le_of_ble_eq_true rfl, Nat.le_of_ble_eq_true rfl⟩) (fun r_14 m_15 h => ?_)
    obtain ⟨h, hm⟩ := h
    subst hm
    refine q_if_ne (tgt := 142) X dX10_does_112 (by decide) (fun c_16 => ?_) (fun c_16 => ?_)
    · have h := h.1 c_16
      refine q_iconst (v := 0) X dX10_does_142 (by decide) ?_
      exact hE _ _ _ _ dX10_does_143 (Or.inl rfl) h
    · have h := h.2 c_16
      refine q_aload_n (j := 0) X dX10_does_115 rfl rfl ?_
      refine q_aload_n (j := 0) X dX10_does_116 rfl rfl ?_
      refine q_get (k := 11) (v := .int (mm.1 30 1 11)) X hK rfl rfl (Nat.le_of_ble_eq_true rfl) inTX10 (gm (t := 30) (by decide) (ok1 (t := 30) (Nat.le_of_ble_eq_true rfl))) kw_7_18 rfl rfl dX10_does_117 ?_
      refine q_aload_n (j := 0) X dX10_does_120 rfl rfl ?_
      refine q_get (k := 12) (v := .int (mm.1 30 1 12)) X hK rfl rfl (Nat.le_of_ble_eq_true rfl) inTX10 (gm (t := 30) (by decide) (ok1 (t := 30) (Nat.le_of_ble_eq_true rfl))) kw_7_19 rfl rfl dX10_does_121 ?_
      refine q_aload_n (j := 0) X dX10_does_124 rfl rfl ?_
      refine q_get (k := 13) (v := .int (mm.1 30 1 13)) X hK rfl rfl (Nat.le_of_ble_eq_true rfl) inTX10 (gm (t := 30) (by decide) (ok1 (t := 30) (Nat.le_of_ble_eq_true rfl))) kw_7_20 rfl rfl dX10_does_125 ?_
      refine q_aload_n (j := 0) X dX10_does_128 rfl rfl ?_
      refine q_get (k := 10) (v := .int (mm.1 30 1 10)) X hK rfl rfl (Nat.le_of_ble_eq_true rfl) inTX10 (gm (t := 30) (by decide) (ok1 (t := 30) (Nat.le_of_ble_eq_true rfl))) kw_7_17 rfl rfl dX10_does_129 ?_
      refine q_calli (q_runV X hK hZ zo (gm (t := 30) (by decide) (ok1 (t := 30) (Nat.le_of_ble_eq_true rfl))) rfl rfl [.int (mm.1 30 1 11), .int (mm.1 30 1 12), .int (mm.1 30 1 13), .int (mm.1 30 1 10)] [] rfl rfl (Nat.le_of_ble_eq_true rfl) dX10_does_132 ⟨Nat.le_of_ble_eq_true rfl, Nat.le_of_ble_eq_true rfl⟩ (c_X10_enterOn ax (mm.1 30 1 11) (mm.1 30 1 12) (mm.1 30 1 13) (mm.1 30 1 10) mm _ h) rfl rfl (gV kw_7_137 kw_7_139 ks_97 kw_1_11 kw_7_140) hy_X10_enterOn ⟨Nat.le_of_ble_eq_true rfl, Nat.le_of_ble_eq_true rfl⟩) (fun r_17 m_18 h => ?_)
      refine q_if_lt (tgt := 142) X dX10_does_135 (by decide) (fun c_19 => ?_) (fun c_19 => ?_)
      · have h := h.1 c_19
        refine q_iconst (v := 0) X dX10_does_142 (by decide) ?_
        exact hE _ _ _ _ dX10_does_143 (Or.inl rfl) h
      · have h := h.2 c_19
        refine q_iconst (v := 1) X dX10_does_138 (by decide) ?_
        refine q_goto (tgt := 143) X dX10_does_139 (by decide) ?_
        exact hE _ _ _ _ dX10_does_143 (Or.inr rfl) h
  have h := h.2
  have nc_1_101 := c_1
  by_cases c_1 : p0 = 108
  · have h := h.1 c_1
    refine q_tabI (k := 108) (tgt := 144) X dX10_does_1 c_1 (by decide) (by decide) rfl (by decide) ?_
    refine q_aload_n (j := 0) X dX10_does_144 rfl rfl ?_
    refine q_aload_n (j := 0) X dX10_does_145 rfl rfl ?_
    refine q_get (k := 10) (v := .int (mm.1 30 1 10)) X hK rfl rfl (Nat.le_of_ble_eq_true rfl) inTX10 (gm (t := 30) (by decide) (ok1 (t := 30) (Nat.le_of_ble_eq_true rfl))) kw_7_17 rfl rfl dX10_does_146 ?_
    refine q_calli (q_runV X hK hZ zo (gm (t := 30) (by decide) (ok1 (t := 30) (Nat.le_of_ble_eq_true rfl))) rfl rfl [.int (mm.1 30 1 10)] [] rfl rfl (Nat.le_of_ble_eq_true rfl) dX10_does_149 ⟨Nat.le_of_ble_eq_true rfl, Nat.le_of_ble_eq_true rfl⟩ (c_X10_isShut ax (mm.1 30 1 10) mm _ h) rfl rfl (gV kw_7_87 kw_7_89 ks_86 kw_1_11 kw_7_90) hy_X10_isShut ⟨Nat.le_of_ble_eq_true rfl, Nat.le_of_ble_eq_true rfl⟩) (fun r_20 m_21 h => ?_)
    obtain ⟨h, hm⟩ := h
    subst hm
    refine q_if_ne (tgt := 170) X dX10_does_152 (by decide) (fun c_22 => ?_) (fun c_22 => ?_)
    · have h := h.1 c_22
      refine q_iconst (v := 0) X dX10_does_170 (by decide) ?_
      exact hE _ _ _ _ dX10_does_171 (Or.inl rfl) h
    · have h := h.2 c_22
      refine q_aload_n (j := 0) X dX10_does_155 rfl rfl ?_
      refine q_aload_n (j := 0) X dX10_does_156 rfl rfl ?_
      refine q_get (k := 10) (v := .int (mm.1 30 1 10)) X hK rfl rfl (Nat.le_of_ble_eq_true rfl) inTX10 (gm (t := 30) (by decide) (ok1 (t := 30) (Nat.le_of_ble_eq_true rfl))) kw_7_17 rfl rfl dX10_does_157 ?_
      refine q_calli (q_runV X hK hZ zo (gm (t := 30) (by decide) (ok1 (t := 30) (Nat.le_of_ble_eq_true rfl))) rfl rfl [.int (mm.1 30 1 10)] [] rfl rfl (Nat.le_of_ble_eq_true rfl) dX10_does_160 ⟨Nat.le_of_ble_eq_true rfl, Nat.le_of_ble_eq_true rfl⟩ (c_X10_lockOn ax (mm.1 30 1 10) mm _ h) rfl rfl (gV kw_8_33 kw_8_35 ks_122 kw_1_11 kw_8_36) hy_X10_lockOn ⟨Nat.le_of_ble_eq_true rfl, Nat.le_of_ble_eq_true rfl⟩) (fun r_23 m_24 h => ?_)
      refine q_if_le (tgt := 170) X dX10_does_163 (by decide) (fun c_25 => ?_) (fun c_25 => ?_)
      · have h := h.1 c_25
        refine q_iconst (v := 0) X dX10_does_170 (by decide) ?_
        exact hE _ _ _ _ dX10_does_171 (Or.inl rfl) h
      · have h := h.2 c_25
        refine q_iconst (v := 1) X dX10_does_166 (by decide) ?_
        refine q_goto (tgt := 171) X dX10_does_167 (by decide) ?_
        exact hE _ _ _ _ dX10_does_171 (Or.inr rfl) h
  have h := h.2
  have nc_1_108 := c_1
  by_cases c_1 : p0 = 111
  · have h := h.1 c_1
    refine q_tabI (k := 111) (tgt := 172) X dX10_does_1 c_1 (by decide) (by decide) rfl (by decide) ?_
    refine q_aload_n (j := 0) X dX10_does_172 rfl rfl ?_
    refine q_aload_n (j := 0) X dX10_does_173 rfl rfl ?_
    refine q_get (k := 10) (v := .int (mm.1 30 1 10)) X hK rfl rfl (Nat.le_of_ble_eq_true rfl) inTX10 (gm (t := 30) (by decide) (ok1 (t := 30) (Nat.le_of_ble_eq_true rfl))) kw_7_17 rfl rfl dX10_does_174 ?_
    refine q_calli (q_runV X hK hZ zo (gm (t := 30) (by decide) (ok1 (t := 30) (Nat.le_of_ble_eq_true rfl))) rfl rfl [.int (mm.1 30 1 10)] [] rfl rfl (Nat.le_of_ble_eq_true rfl) dX10_does_177 ⟨Nat.le_of_ble_eq_true rfl, Nat.le_of_ble_eq_true rfl⟩ (c_X10_isShut ax (mm.1 30 1 10) mm _ h) rfl rfl (gV kw_7_87 kw_7_89 ks_86 kw_1_11 kw_7_90) hy_X10_isShut ⟨Nat.le_of_ble_eq_true rfl, Nat.le_of_ble_eq_true rfl⟩) (fun r_26 m_27 h => ?_)
    obtain ⟨h, hm⟩ := h
    subst hm
    refine q_if_eq (tgt := 198) X dX10_does_180 (by decide) (fun c_28 => ?_) (fun c_28 => ?_)
    · have h := h.1 c_28
      refine q_iconst (v := 0) X dX10_does_198 (by decide) ?_
      exact hE _ _ _ _ dX10_does_199 (Or.inl rfl) h
    · have h := h.2 c_28
      refine q_aload_n (j := 0) X dX10_does_183 rfl rfl ?_
      refine q_aload_n (j := 0) X dX10_does_184 rfl rfl ?_
      refine q_get (k := 10) (v := .int (mm.1 30 1 10)) X hK rfl rfl (Nat.le_of_ble_eq_true rfl) inTX10 (gm (t := 30) (by decide) (ok1 (t := 30) (Nat.le_of_ble_eq_true rfl))) kw_7_17 rfl rfl dX10_does_185 ?_
      refine q_calli (q_runV X hK hZ zo (gm (t := 30) (by decide) (ok1 (t := 30) (Nat.le_of_ble_eq_true rfl))) rfl rfl [.int (mm.1 30 1 10)] [] rfl rfl (Nat.le_of_ble_eq_true rfl) dX10_does_188 ⟨Nat.le_of_ble_eq_true rfl, Nat.le_of_ble_eq_true rfl⟩ (c_X10_openOn ax (mm.1 30 1 10) mm _ h) rfl rfl (gV kw_8_41 kw_8_43 ks_123 kw_1_11 kw_8_44) hy_X10_openOn ⟨Nat.le_of_ble_eq_true rfl, Nat.le_of_ble_eq_true rfl⟩) (fun r_29 m_30 h => ?_)
      refine q_if_lt (tgt := 198) X dX10_does_191 (by decide) (fun c_31 => ?_) (fun c_31 => ?_)
      · have h := h.1 c_31
        refine q_iconst (v := 0) X dX10_does_198 (by decide) ?_
        exact hE _ _ _ _ dX10_does_199 (Or.inl rfl) h
      · have h := h.2 c_31
        refine q_iconst (v := 1) X dX10_does_194 (by decide) ?_
        refine q_goto (tgt := 199) X dX10_does_195 (by decide) ?_
        exact hE _ _ _ _ dX10_does_199 (Or.inr rfl) h
  have h := h.2
  have nc_1_111 := c_1
  by_cases c_1 : p0 = 116
  · have h := h.1 c_1
    refine q_tabI (k := 116) (tgt := 256) X dX10_does_1 c_1 (by decide) (by decide) rfl (by decide) ?_
    refine q_aload_n (j := 0) X dX10_does_256 rfl rfl ?_
    refine q_get (k := 3) (v := .ref (ad 32 1)) X hK rfl rfl (Nat.le_of_ble_eq_true rfl) inTX10 (gm (t := 30) (by decide) (ok1 (t := 30) (Nat.le_of_ble_eq_true rfl))) kw_7_10 rfl (rv_nn (a := ad 32) (r := 1) (ok1 (t := 32) (Nat.le_of_ble_eq_true rfl)).1) dX10_does_257 ?_
    refine q_iconst (v := 0) X dX10_does_260 (by decide) ?_
    refine q_iald (t := 32) (i := 1) (jn := 0) (v := .int (mm.1 32 1 0)) X hK rfl rfl (gm (t := 32) (by decide) (ok1 (t := 32) (Nat.le_of_ble_eq_true rfl))) rfl (vpl (by decide +kernel)) (by decide +kernel) rfl dX10_does_261 ?_
    refine q_aload_n (j := 0) X dX10_does_262 rfl rfl ?_
    refine q_get (k := 10) (v := .int (mm.1 30 1 10)) X hK rfl rfl (Nat.le_of_ble_eq_true rfl) inTX10 (gm (t := 30) (by decide) (ok1 (t := 30) (Nat.le_of_ble_eq_true rfl))) kw_7_17 rfl rfl dX10_does_263 ?_
    refine q_iadd X dX10_does_266 ?_
    refine q_sipush (v := 9999) X dX10_does_267 (by decide) ?_
    refine q_icmp_gt (tgt := 288) X dX10_does_270 (by decide) (fun c_32 => ?_) (fun c_32 => ?_)
    · have h := h.1 c_32
      refine q_iconst (v := 0) X dX10_does_288 (by decide) ?_
      exact hE _ _ _ _ dX10_does_289 (Or.inl rfl) h
    · have h := h.2 c_32
      refine q_aload_n (j := 0) X dX10_does_273 rfl rfl ?_
      refine q_aload_n (j := 0) X dX10_does_274 rfl rfl ?_
      refine q_get (k := 10) (v := .int (mm.1 30 1 10)) X hK rfl rfl (Nat.le_of_ble_eq_true rfl) inTX10 (gm (t := 30) (by decide) (ok1 (t := 30) (Nat.le_of_ble_eq_true rfl))) kw_7_17 rfl rfl dX10_does_275 ?_
      refine q_calli (q_runV X hK hZ zo (gm (t := 30) (by decide) (ok1 (t := 30) (Nat.le_of_ble_eq_true rfl))) rfl rfl [.int (mm.1 30 1 10)] [] rfl rfl (Nat.le_of_ble_eq_true rfl) dX10_does_278 ⟨Nat.le_of_ble_eq_true rfl, Nat.le_of_ble_eq_true rfl⟩ (c_X10_passOn ax (mm.1 30 1 10) mm _ h) rfl rfl (gV kw_8_94 kw_8_96 ks_129 kw_1_11 kw_8_97) hy_X10_passOn ⟨Nat.le_of_ble_eq_true rfl, Nat.le_of_ble_eq_true rfl⟩) (fun r_33 m_34 h => ?_)
      refine q_if_lt (tgt := 288) X dX10_does_281 (by decide) (fun c_35 => ?_) (fun c_35 => ?_)
      · have h := h.1 c_35
        refine q_iconst (v := 0) X dX10_does_288 (by decide) ?_
        exact hE _ _ _ _ dX10_does_289 (Or.inl rfl) h
      · have h := h.2 c_35
        refine q_iconst (v := 1) X dX10_does_284 (by decide) ?_
        refine q_goto (tgt := 289) X dX10_does_285 (by decide) ?_
        exact hE _ _ _ _ dX10_does_289 (Or.inr rfl) h
  have h := h.2
  have nc_1_116 := c_1
  have h := h nc_1_98 nc_1_100 nc_1_101 nc_1_108 nc_1_111 nc_1_116
  refine q_tabD (ks := [98, 100, 101, 108, 111, 116]) (tgt := 290) X dX10_does_1 (by intro k hk; simp only [List.mem_cons, List.not_mem_nil, or_false] at hk; rcases hk with rfl | rfl | rfl | rfl | rfl | rfl <;> assumption) (by decide +kernel) (by decide) ?_
  refine q_aload_n (j := 0) X dX10_does_290 rfl rfl ?_
  refine q_iload_n (j := 1) X dX10_does_291 rfl rfl ?_
  refine q_calli (q_runV X hK hZ zo (gm (t := 30) (by decide) (ok1 (t := 30) (Nat.le_of_ble_eq_true rfl))) rfl rfl [.int p0] [] rfl rfl (Nat.le_of_ble_eq_true rfl) dX10_does_292 ⟨Nat.le_of_ble_eq_true rfl, Nat.le_of_ble_eq_true rfl⟩ (c_X10_doesEntry ax p0 mm _ h) rfl rfl (gV kw_9_178 kw_9_180 ks_146 kw_1_11 kw_9_181) hy_X10_doesEntry ⟨Nat.le_of_ble_eq_true rfl, Nat.le_of_ble_eq_true rfl⟩) (fun r_36 m_37 h => ?_)
  obtain ⟨b_38, h⟩ := h
  exact hE _ _ _ _ dX10_does_295 b_38 h
theorem dX10_reads_0 : decode cX10_reads 0 = .ok (.aload_n 0, 1) := by decide +kernel
theorem dX10_reads_1 : decode cX10_reads 1 = .ok (.iconst 0, 1) := by decide +kernel
theorem dX10_reads_2 : decode cX10_reads 2 = .ok (.putfield 263, 3) := by decide +kernel
theorem dX10_reads_5 : decode cX10_reads 5 = .ok (.aload_n 0, 1) := by decide +kernel
theorem dX10_reads_6 : decode cX10_reads 6 = .ok (.iconst 0, 1) := by decide +kernel
theorem dX10_reads_7 : decode cX10_reads 7 = .ok (.putfield 298, 3) := by decide +kernel
theorem dX10_reads_10 : decode cX10_reads 10 = .ok (.aload_n 0, 1) := by decide +kernel
theorem dX10_reads_11 : decode cX10_reads 11 = .ok (.iconst 0, 1) := by decide +kernel
theorem dX10_reads_12 : decode cX10_reads 12 = .ok (.putfield 301, 3) := by decide +kernel
theorem dX10_reads_15 : decode cX10_reads 15 = .ok (.iload_n 1, 1) := by decide +kernel
theorem dX10_reads_16 : decode cX10_reads 16 = .ok (.istore_n 2, 1) := by decide +kernel
theorem dX10_reads_17 : decode cX10_reads 17 = .ok (.iconst 1, 1) := by decide +kernel
theorem dX10_reads_18 : decode cX10_reads 18 = .ok (.istore_n 3, 1) := by decide +kernel
theorem dX10_reads_19 : decode cX10_reads 19 = .ok (.iload_n 3, 1) := by decide +kernel
theorem dX10_reads_20 : decode cX10_reads 20 = .ok (.ifCond .eq 144, 3) := by decide +kernel
theorem dX10_reads_23 : decode cX10_reads 23 = .ok (.aload_n 0, 1) := by decide +kernel
theorem dX10_reads_24 : decode cX10_reads 24 = .ok (.getfield 263, 3) := by decide +kernel
theorem dX10_reads_27 : decode cX10_reads 27 = .ok (.aload_n 0, 1) := by decide +kernel
theorem dX10_reads_28 : decode cX10_reads 28 = .ok (.getfield 260, 3) := by decide +kernel
theorem dX10_reads_31 : decode cX10_reads 31 = .ok (.if_icmp .eq 18, 3) := by decide +kernel
theorem dX10_reads_34 : decode cX10_reads 34 = .ok (.aload_n 0, 1) := by decide +kernel
theorem dX10_reads_35 : decode cX10_reads 35 = .ok (.getfield 7, 3) := by decide +kernel
theorem dX10_reads_38 : decode cX10_reads 38 = .ok (.aload_n 0, 1) := by decide +kernel
theorem dX10_reads_39 : decode cX10_reads 39 = .ok (.getfield 263, 3) := by decide +kernel
theorem dX10_reads_42 : decode cX10_reads 42 = .ok (.iaload, 1) := by decide +kernel
theorem dX10_reads_43 : decode cX10_reads 43 = .ok (.invokestatic 305, 3) := by decide +kernel
theorem dX10_reads_46 : decode cX10_reads 46 = .ok (.ifCond .ne 8, 3) := by decide +kernel
theorem dX10_reads_49 : decode cX10_reads 49 = .ok (.aload_n 0, 1) := by decide +kernel
theorem dX10_reads_50 : decode cX10_reads 50 = .ok (.getfield 263, 3) := by decide +kernel
theorem dX10_reads_53 : decode cX10_reads 53 = .ok (.ireturn, 1) := by decide +kernel
theorem dX10_reads_54 : decode cX10_reads 54 = .ok (.aload_n 0, 1) := by decide +kernel
theorem dX10_reads_55 : decode cX10_reads 55 = .ok (.getfield 7, 3) := by decide +kernel
theorem dX10_reads_58 : decode cX10_reads 58 = .ok (.aload_n 0, 1) := by decide +kernel
theorem dX10_reads_59 : decode cX10_reads 59 = .ok (.getfield 263, 3) := by decide +kernel
theorem dX10_reads_62 : decode cX10_reads 62 = .ok (.iaload, 1) := by decide +kernel
theorem dX10_reads_63 : decode cX10_reads 63 = .ok (.istore 4, 2) := by decide +kernel
theorem dX10_reads_65 : decode cX10_reads 65 = .ok (.aload_n 0, 1) := by decide +kernel
theorem dX10_reads_66 : decode cX10_reads 66 = .ok (.dup, 1) := by decide +kernel
theorem dX10_reads_67 : decode cX10_reads 67 = .ok (.getfield 263, 3) := by decide +kernel
theorem dX10_reads_70 : decode cX10_reads 70 = .ok (.iconst 1, 1) := by decide +kernel
theorem dX10_reads_71 : decode cX10_reads 71 = .ok (.iadd, 1) := by decide +kernel
theorem dX10_reads_72 : decode cX10_reads 72 = .ok (.putfield 263, 3) := by decide +kernel
theorem dX10_reads_75 : decode cX10_reads 75 = .ok (.aload_n 0, 1) := by decide +kernel
theorem dX10_reads_76 : decode cX10_reads 76 = .ok (.iload 4, 2) := by decide +kernel
theorem dX10_reads_78 : decode cX10_reads 78 = .ok (.invokevirtual 308, 3) := by decide +kernel
theorem dX10_reads_81 : decode cX10_reads 81 = .ok (.ifCond .ne 8, 3) := by decide +kernel
theorem dX10_reads_84 : decode cX10_reads 84 = .ok (.aload_n 0, 1) := by decide +kernel
theorem dX10_reads_85 : decode cX10_reads 85 = .ok (.getfield 263, 3) := by decide +kernel
theorem dX10_reads_88 : decode cX10_reads 88 = .ok (.ireturn, 1) := by decide +kernel
theorem dX10_reads_89 : decode cX10_reads 89 = .ok (.iload_n 2, 1) := by decide +kernel
theorem dX10_reads_90 : decode cX10_reads 90 = .ok (.ifCond .eq 16, 3) := by decide +kernel
theorem dX10_reads_93 : decode cX10_reads 93 = .ok (.aload_n 0, 1) := by decide +kernel
theorem dX10_reads_94 : decode cX10_reads 94 = .ok (.iload 4, 2) := by decide +kernel
theorem dX10_reads_96 : decode cX10_reads 96 = .ok (.invokevirtual 311, 3) := by decide +kernel
theorem dX10_reads_99 : decode cX10_reads 99 = .ok (.ifCond .eq 7, 3) := by decide +kernel
theorem dX10_reads_102 : decode cX10_reads 102 = .ok (.iconst 1, 1) := by decide +kernel
theorem dX10_reads_103 : decode cX10_reads 103 = .ok (.goto 4, 3) := by decide +kernel
theorem dX10_reads_106 : decode cX10_reads 106 = .ok (.iconst 0, 1) := by decide +kernel
theorem dX10_reads_107 : decode cX10_reads 107 = .ok (.istore_n 2, 1) := by decide +kernel
theorem dX10_reads_108 : decode cX10_reads 108 = .ok (.aload_n 0, 1) := by decide +kernel
theorem dX10_reads_109 : decode cX10_reads 109 = .ok (.dup, 1) := by decide +kernel
theorem dX10_reads_110 : decode cX10_reads 110 = .ok (.getfield 298, 3) := by decide +kernel
theorem dX10_reads_113 : decode cX10_reads 113 = .ok (.iload_n 2, 1) := by decide +kernel
theorem dX10_reads_114 : decode cX10_reads 114 = .ok (.ifCond .eq 7, 3) := by decide +kernel
theorem dX10_reads_117 : decode cX10_reads 117 = .ok (.iconst 1, 1) := by decide +kernel
theorem dX10_reads_118 : decode cX10_reads 118 = .ok (.goto 4, 3) := by decide +kernel
theorem dX10_reads_121 : decode cX10_reads 121 = .ok (.iconst 0, 1) := by decide +kernel
theorem dX10_reads_122 : decode cX10_reads 122 = .ok (.iadd, 1) := by decide +kernel
theorem dX10_reads_123 : decode cX10_reads 123 = .ok (.putfield 298, 3) := by decide +kernel
theorem dX10_reads_126 : decode cX10_reads 126 = .ok (.aload_n 0, 1) := by decide +kernel
theorem dX10_reads_127 : decode cX10_reads 127 = .ok (.getfield 263, 3) := by decide +kernel
theorem dX10_reads_130 : decode cX10_reads 130 = .ok (.aload_n 0, 1) := by decide +kernel
theorem dX10_reads_131 : decode cX10_reads 131 = .ok (.getfield 260, 3) := by decide +kernel
theorem dX10_reads_134 : decode cX10_reads 134 = .ok (.if_icmp .ge 7, 3) := by decide +kernel
theorem dX10_reads_137 : decode cX10_reads 137 = .ok (.iconst 1, 1) := by decide +kernel
theorem dX10_reads_138 : decode cX10_reads 138 = .ok (.goto 4, 3) := by decide +kernel
theorem dX10_reads_141 : decode cX10_reads 141 = .ok (.iconst 0, 1) := by decide +kernel
theorem dX10_reads_142 : decode cX10_reads 142 = .ok (.istore_n 3, 1) := by decide +kernel
theorem dX10_reads_143 : decode cX10_reads 143 = .ok (.iload_n 3, 1) := by decide +kernel
theorem dX10_reads_144 : decode cX10_reads 144 = .ok (.ifCond .eq 17, 3) := by decide +kernel
theorem dX10_reads_147 : decode cX10_reads 147 = .ok (.aload_n 0, 1) := by decide +kernel
theorem dX10_reads_148 : decode cX10_reads 148 = .ok (.bipush 59, 2) := by decide +kernel
theorem dX10_reads_150 : decode cX10_reads 150 = .ok (.invokevirtual 279, 3) := by decide +kernel
theorem dX10_reads_153 : decode cX10_reads 153 = .ok (.ifCond .ne 8, 3) := by decide +kernel
theorem dX10_reads_156 : decode cX10_reads 156 = .ok (.aload_n 0, 1) := by decide +kernel
theorem dX10_reads_157 : decode cX10_reads 157 = .ok (.getfield 263, 3) := by decide +kernel
theorem dX10_reads_160 : decode cX10_reads 160 = .ok (.ireturn, 1) := by decide +kernel
theorem dX10_reads_161 : decode cX10_reads 161 = .ok (.goto (-142), 3) := by decide +kernel
theorem dX10_reads_164 : decode cX10_reads 164 = .ok (.aload_n 0, 1) := by decide +kernel
theorem dX10_reads_165 : decode cX10_reads 165 = .ok (.iconst 1, 1) := by decide +kernel
theorem dX10_reads_166 : decode cX10_reads 166 = .ok (.putfield 301, 3) := by decide +kernel
theorem dX10_reads_169 : decode cX10_reads 169 = .ok (.aload_n 0, 1) := by decide +kernel
theorem dX10_reads_170 : decode cX10_reads 170 = .ok (.getfield 260, 3) := by decide +kernel
theorem dX10_reads_173 : decode cX10_reads 173 = .ok (.ireturn, 1) := by decide +kernel
def w_X10_reads_J142 (Q9 : Int32 → Mm → Prop) (y_21 : Int32) (m_24 : Mm) (K_7 : Int32 → Int32 → Mm → Prop) (y_25 : Int32) : Prop :=
  ((y_25 = 0 → K_7 y_21 y_25 m_24) ∧
  (¬ y_25 = 0 → w_X10_goesOn 59 m_24 (fun (r_27 : Int32) (m_28 : Mm) => ((¬ r_27 = 0 → K_7 y_21 y_25 m_28) ∧
  (r_27 = 0 → Q9 (m_28.1 30 1 9) m_28)))))
def w_X10_reads_J122 (Q9 : Int32 → Mm → Prop) (y_21 : Int32) (m_22 : Mm) (K_7 : Int32 → Int32 → Mm → Prop) (y_23 : Int32) : Prop :=
  ∀ m_24 : Mm, m_24 = sI m_22 30 1 15 ((m_22.1 30 1 15) + y_23) → ((((m_24.1 30 1 2) ≤ (m_24.1 30 1 9) → w_X10_reads_J142 Q9 y_21 m_24 K_7 0) ∧
  (¬ (m_24.1 30 1 2) ≤ (m_24.1 30 1 9) → w_X10_reads_J142 Q9 y_21 m_24 K_7 1)))
def w_X10_reads_J107 (Q9 : Int32 → Mm → Prop) (K_7 : Int32 → Int32 → Mm → Prop) (y_21 : Int32) (m_22 : Mm) : Prop :=
  ((y_21 = 0 → w_X10_reads_J122 Q9 y_21 m_22 K_7 0) ∧
  (¬ y_21 = 0 → w_X10_reads_J122 Q9 y_21 m_22 K_7 1))
def w_X10_reads_J106 (Q9 : Int32 → Mm → Prop) (K_7 : Int32 → Int32 → Mm → Prop) (m_32 : Mm) : Prop :=
  w_X10_reads_J107 Q9 K_7 0 m_32
def w_X10_reads_B19 (Q9 : Int32 → Mm → Prop) (K_7 : Int32 → Int32 → Mm → Prop) (y_4 : Int32) (y_5 : Int32) (m_6 : Mm) : Prop :=
  ((y_5 = 0 → ∀ m_10 : Mm, m_10 = sI m_6 30 1 14 1 → (Q9 (m_10.1 30 1 2) m_10)) ∧
  (¬ y_5 = 0 → (((m_6.1 30 1 9) = (m_6.1 30 1 2) → Q9 (m_6.1 30 1 9) m_6) ∧
  (¬ (m_6.1 30 1 9) = (m_6.1 30 1 2) → vp_in (m_6.1 30 1 9) 60 ∧ (w_X10_isSign (m_6.1 31 1 (m_6.1 30 1 9).toNatClampNeg) m_6 (fun (r_13 : Int32) => ((¬ r_13 = 0 → ∀ x_16 : Int32, x_16 = (m_6.1 31 1 (m_6.1 30 1 9).toNatClampNeg) → (∀ m_17 : Mm, m_17 = sI m_6 30 1 9 ((m_6.1 30 1 9) + 1) → (w_X10_line x_16 m_17 (fun (r_18 : Int32) (m_19 : Mm) => ((¬ r_18 = 0 → ((y_4 = 0 → w_X10_reads_J106 Q9 K_7 m_19) ∧
  (¬ y_4 = 0 → w_X10_does x_16 m_19 (fun (r_34 : Int32) (m_35 : Mm) => ((r_34 = 0 → w_X10_reads_J106 Q9 K_7 m_35) ∧
  (¬ r_34 = 0 → w_X10_reads_J107 Q9 K_7 1 m_35)))))) ∧
  (r_18 = 0 → Q9 (m_19.1 30 1 9) m_19)))))) ∧
  (r_13 = 0 → Q9 (m_6.1 30 1 9) m_6))))))))
def w_X10_reads (p0 : Int32) (mm : Mm) (Q9 : Int32 → Mm → Prop) : Prop :=
  ∀ m_1 : Mm, m_1 = sI mm 30 1 9 0 → (∀ m_2 : Mm, m_2 = sI m_1 30 1 15 0 → (∀ m_3 : Mm, m_3 = sI m_2 30 1 14 0 → (∃ n, itr (α := Int32 × Int32 × Mm) (fun K a => w_X10_reads_B19 Q9 (fun z0 z1 z2 => K (z0, z1, z2)) a.1 a.2.1 a.2.2) n (p0, 1, m_3))))
def rm_X10_reads : Room := { frames := 7, cells := 0, slots := 0, locals := 161 }
theorem hy_X10_reads : yX10_reads.cls = RX10 ∧ yX10_reads.cls ≠ "java/lang/invoke/MethodHandle" ∧ yX10_reads.cls ≠ "java/lang/invoke/VarHandle" ∧ (parseMethodDescriptor yX10_reads.desc).map (fun d => d.parameters.length) = some 1 := by decide +kernel
set_option maxRecDepth 100000 in
set_option maxHeartbeats 4000000 in
theorem c_X10_reads {l : Launch} {D : va_G} {cA : Nat → ClassId} {ad : Nat → Nat → Nat} {A : Nat → Prop} (ax : Ax ad GM A) (p0 : Int32) (mm : Mm) (Q9 : Int32 → Mm → Prop) (h : w_X10_reads p0 mm Q9) : Met l yX10_reads (.code yX10_reads cX10_reads 5 (some .int) :: TG) rm_X10_reads (PcM TT D cA ad false GM (ZM) [.ref (ad 30 1), .int p0] mm) (AnsI TT D cA ad false GM A Q9) 0 0 A := by
  have zo := ZM_ok A
  unfold w_X10_reads at h
  refine enterI pl_X10 ⟨rfl, rfl⟩ rfl (Nat.le_of_ble_eq_true rfl) ?_
  intro p e s m args below meth c QQ X hK hZ hnm hE
  refine q_aload_n (j := 0) X dX10_reads_0 rfl rfl ?_
  refine q_iconst (v := 0) X dX10_reads_1 (by decide) ?_
  refine q_putI (k := 9) X ax hK rfl rfl (Nat.le_of_ble_eq_true rfl) inTX10 (gm (t := 30) (by decide) (ok1 (t := 30) (Nat.le_of_ble_eq_true rfl))) tyX10 tyX10_ok nmX10 kw_7_16 rfl rfl (tyX10_ok 9 (Nat.le_of_ble_eq_true rfl)) rfl dX10_reads_2 ?_
  refine q_nmP (fun m_1 em_1 => ?_)
  have h := h m_1 em_1
  refine q_aload_n (j := 0) X dX10_reads_5 rfl rfl ?_
  refine q_iconst (v := 0) X dX10_reads_6 (by decide) ?_
  refine q_putI (k := 15) X ax hK rfl rfl (Nat.le_of_ble_eq_true rfl) inTX10 (gm (t := 30) (by decide) (ok1 (t := 30) (Nat.le_of_ble_eq_true rfl))) tyX10 tyX10_ok nmX10 kw_7_22 rfl rfl (tyX10_ok 15 (Nat.le_of_ble_eq_true rfl)) rfl dX10_reads_7 ?_
  refine q_nmP (fun m_2 em_2 => ?_)
  have h := h m_2 em_2
  refine q_aload_n (j := 0) X dX10_reads_10 rfl rfl ?_
  refine q_iconst (v := 0) X dX10_reads_11 (by decide) ?_
  refine q_putB (k := 14) X ax hK rfl rfl (Nat.le_of_ble_eq_true rfl) inTX10 (gm (t := 30) (by decide) (ok1 (t := 30) (Nat.le_of_ble_eq_true rfl))) tyX10 tyX10_ok nmX10 kw_7_21 rfl rfl (tyX10_ok 14 (Nat.le_of_ble_eq_true rfl)) (Or.inl rfl) rfl dX10_reads_12 ?_
  refine q_nmP (fun m_3 em_3 => ?_)
  have h := h m_3 em_3
  refine q_iload_n (j := 1) X dX10_reads_15 rfl rfl ?_
  refine q_istore_n (lv' := [(2, .int p0), (0, .ref (ad 30 1)), (1, .int p0)]) X dX10_reads_16 rfl (by decide) rfl ?_
  refine q_iconst (v := 1) X dX10_reads_17 (by decide) ?_
  refine q_istore_n (lv' := [(3, .int 1), (2, .int p0), (0, .ref (ad 30 1)), (1, .int p0)]) X dX10_reads_18 rfl (by decide) rfl ?_
  refine q_sub [2, 1, 0] rfl ?_
  have L19 : ∀ (n : Nat) (y_4 : Int32) (y_5 : Int32) (m_6 : Mm), itr (α := Int32 × Int32 × Mm) (fun K a => w_X10_reads_B19 Q9 (fun z0 z1 z2 => K (z0, z1, z2)) a.1 a.2.1 a.2.2) n (y_4, y_5, m_6) → V p l e rm_X10_reads s m args below meth c QQ 5 A 0 0 (Rep TT D cA ad false GM m_6) 19 [(0, .ref (ad 30 1)), (2, .int y_4), (3, .int y_5)] [] := by
    intro n
    induction n with
    | zero => intro y_4 y_5 m_6 h; exact h.elim
    | succ n ih_8 =>
      intro y_4 y_5 m_6 h
      have h : w_X10_reads_B19 Q9 (fun z0 z1 z2 => itr (α := Int32 × Int32 × Mm) (fun K a => w_X10_reads_B19 Q9 (fun z0 z1 z2 => K (z0, z1, z2)) a.1 a.2.1 a.2.2) n (z0, z1, z2)) y_4 y_5 m_6 := h
      generalize hKe : (fun z0 z1 z2 => itr (α := Int32 × Int32 × Mm) (fun K a => w_X10_reads_B19 Q9 (fun z0 z1 z2 => K (z0, z1, z2)) a.1 a.2.1 a.2.2) n (z0, z1, z2)) = K_7 at h
      have ih_8k : ∀ (y_4 : Int32) (y_5 : Int32) (m_6 : Mm), K_7 y_4 y_5 m_6 → V p l e rm_X10_reads s m args below meth c QQ 5 A 0 0 (Rep TT D cA ad false GM m_6) 19 [(0, .ref (ad 30 1)), (2, .int y_4), (3, .int y_5)] [] := fun y_4 y_5 m_6 h => ih_8 y_4 y_5 m_6 (by rw [← hKe] at h; exact h)
      unfold w_X10_reads_B19 at h
      refine q_iload_n (j := 2) X dX10_reads_19 rfl rfl ?_
      refine q_if_eq (tgt := 164) X dX10_reads_20 (by decide) (fun c_9 => ?_) (fun c_9 => ?_)
      · have h := h.1 c_9
        refine q_aload_n (j := 0) X dX10_reads_164 rfl rfl ?_
        refine q_iconst (v := 1) X dX10_reads_165 (by decide) ?_
        refine q_putB (k := 14) X ax hK rfl rfl (Nat.le_of_ble_eq_true rfl) inTX10 (gm (t := 30) (by decide) (ok1 (t := 30) (Nat.le_of_ble_eq_true rfl))) tyX10 tyX10_ok nmX10 kw_7_21 rfl rfl (tyX10_ok 14 (Nat.le_of_ble_eq_true rfl)) (Or.inr rfl) rfl dX10_reads_166 ?_
        refine q_nmP (fun m_10 em_10 => ?_)
        have h := h m_10 em_10
        refine q_aload_n (j := 0) X dX10_reads_169 rfl rfl ?_
        refine q_get (k := 2) (v := .int (m_10.1 30 1 2)) X hK rfl rfl (Nat.le_of_ble_eq_true rfl) inTX10 (gm (t := 30) (by decide) (ok1 (t := 30) (Nat.le_of_ble_eq_true rfl))) kw_7_9 rfl rfl dX10_reads_170 ?_
        exact hE _ _ _ _ dX10_reads_173 h
      · have h := h.2 c_9
        refine q_aload_n (j := 0) X dX10_reads_23 rfl rfl ?_
        refine q_get (k := 9) (v := .int (m_6.1 30 1 9)) X hK rfl rfl (Nat.le_of_ble_eq_true rfl) inTX10 (gm (t := 30) (by decide) (ok1 (t := 30) (Nat.le_of_ble_eq_true rfl))) kw_7_16 rfl rfl dX10_reads_24 ?_
        refine q_aload_n (j := 0) X dX10_reads_27 rfl rfl ?_
        refine q_get (k := 2) (v := .int (m_6.1 30 1 2)) X hK rfl rfl (Nat.le_of_ble_eq_true rfl) inTX10 (gm (t := 30) (by decide) (ok1 (t := 30) (Nat.le_of_ble_eq_true rfl))) kw_7_9 rfl rfl dX10_reads_28 ?_
        refine q_icmp_eq (tgt := 49) X dX10_reads_31 (by decide) (fun c_11 => ?_) (fun c_11 => ?_)
        · have h := h.1 c_11
          refine q_aload_n (j := 0) X dX10_reads_49 rfl rfl ?_
          refine q_get (k := 9) (v := .int (m_6.1 30 1 9)) X hK rfl rfl (Nat.le_of_ble_eq_true rfl) inTX10 (gm (t := 30) (by decide) (ok1 (t := 30) (Nat.le_of_ble_eq_true rfl))) kw_7_16 rfl rfl dX10_reads_50 ?_
          exact hE _ _ _ _ dX10_reads_53 h
        · have h := h.2 c_11
          refine q_aload_n (j := 0) X dX10_reads_34 rfl rfl ?_
          refine q_get (k := 1) (v := .ref (ad 31 1)) X hK rfl rfl (Nat.le_of_ble_eq_true rfl) inTX10 (gm (t := 30) (by decide) (ok1 (t := 30) (Nat.le_of_ble_eq_true rfl))) kw_7_8 rfl (rv_nn (a := ad 31) (r := 1) (ok1 (t := 31) (Nat.le_of_ble_eq_true rfl)).1) dX10_reads_35 ?_
          refine q_aload_n (j := 0) X dX10_reads_38 rfl rfl ?_
          refine q_get (k := 9) (v := .int (m_6.1 30 1 9)) X hK rfl rfl (Nat.le_of_ble_eq_true rfl) inTX10 (gm (t := 30) (by decide) (ok1 (t := 30) (Nat.le_of_ble_eq_true rfl))) kw_7_16 rfl rfl dX10_reads_39 ?_
          obtain ⟨b_12, h⟩ := h
          refine q_iald (t := 31) (i := 1) (jn := (m_6.1 30 1 9).toNatClampNeg) (v := .int (m_6.1 31 1 (m_6.1 30 1 9).toNatClampNeg)) X hK rfl rfl (gm (t := 31) (by decide) (ok1 (t := 31) (Nat.le_of_ble_eq_true rfl))) rfl b_12 rfl rfl dX10_reads_42 ?_
          refine q_calli (q_runS X hK hZ zo [.int (m_6.1 31 1 (m_6.1 30 1 9).toNatClampNeg)] [] rfl rfl (Nat.le_of_ble_eq_true rfl) dX10_reads_43 ⟨Nat.le_of_ble_eq_true rfl, Nat.le_of_ble_eq_true rfl⟩ (c_X10_isSign ax (m_6.1 31 1 (m_6.1 30 1 9).toNatClampNeg) m_6 _ h) rfl rfl (gS kw_9_149 kw_9_150 kw_1_11 kw_9_151) hy_X10_isSign.2 ⟨Nat.le_of_ble_eq_true rfl, Nat.le_of_ble_eq_true rfl⟩) (fun r_13 m_14 h => ?_)
          obtain ⟨h, hm⟩ := h
          subst hm
          refine q_if_ne (tgt := 54) X dX10_reads_46 (by decide) (fun c_15 => ?_) (fun c_15 => ?_)
          · have h := h.1 c_15
            refine q_aload_n (j := 0) X dX10_reads_54 rfl rfl ?_
            refine q_get (k := 1) (v := .ref (ad 31 1)) X hK rfl rfl (Nat.le_of_ble_eq_true rfl) inTX10 (gm (t := 30) (by decide) (ok1 (t := 30) (Nat.le_of_ble_eq_true rfl))) kw_7_8 rfl (rv_nn (a := ad 31) (r := 1) (ok1 (t := 31) (Nat.le_of_ble_eq_true rfl)).1) dX10_reads_55 ?_
            refine q_aload_n (j := 0) X dX10_reads_58 rfl rfl ?_
            refine q_get (k := 9) (v := .int (m_6.1 30 1 9)) X hK rfl rfl (Nat.le_of_ble_eq_true rfl) inTX10 (gm (t := 30) (by decide) (ok1 (t := 30) (Nat.le_of_ble_eq_true rfl))) kw_7_16 rfl rfl dX10_reads_59 ?_
            refine q_iald (t := 31) (i := 1) (jn := (m_6.1 30 1 9).toNatClampNeg) (v := .int (m_6.1 31 1 (m_6.1 30 1 9).toNatClampNeg)) X hK rfl rfl (gm (t := 31) (by decide) (ok1 (t := 31) (Nat.le_of_ble_eq_true rfl))) rfl b_12 rfl rfl dX10_reads_62 ?_
            refine q_topi (fun x_16 ex_16 => ?_)
            have h := h x_16 ex_16
            refine q_istore (lv' := [(4, .int x_16), (0, .ref (ad 30 1)), (2, .int y_4), (3, .int y_5)]) X dX10_reads_63 (by decide) rfl ?_
            refine q_aload_n (j := 1) X dX10_reads_65 rfl rfl ?_
            refine q_dup X dX10_reads_66 rfl ?_
            refine q_get (k := 9) (v := .int (m_6.1 30 1 9)) X hK rfl rfl (Nat.le_of_ble_eq_true rfl) inTX10 (gm (t := 30) (by decide) (ok1 (t := 30) (Nat.le_of_ble_eq_true rfl))) kw_7_16 rfl rfl dX10_reads_67 ?_
            refine q_iconst (v := 1) X dX10_reads_70 (by decide) ?_
            refine q_iadd X dX10_reads_71 ?_
            refine q_putI (k := 9) X ax hK rfl rfl (Nat.le_of_ble_eq_true rfl) inTX10 (gm (t := 30) (by decide) (ok1 (t := 30) (Nat.le_of_ble_eq_true rfl))) tyX10 tyX10_ok nmX10 kw_7_16 rfl rfl (tyX10_ok 9 (Nat.le_of_ble_eq_true rfl)) rfl dX10_reads_72 ?_
            refine q_nmP (fun m_17 em_17 => ?_)
            have h := h m_17 em_17
            refine q_aload_n (j := 1) X dX10_reads_75 rfl rfl ?_
            refine q_iload (j := 0) X dX10_reads_76 rfl ?_
            refine q_calli (q_runV X hK hZ zo (gm (t := 30) (by decide) (ok1 (t := 30) (Nat.le_of_ble_eq_true rfl))) rfl rfl [.int x_16] [] rfl rfl (Nat.le_of_ble_eq_true rfl) dX10_reads_78 ⟨Nat.le_of_ble_eq_true rfl, Nat.le_of_ble_eq_true rfl⟩ (c_X10_line ax x_16 m_17 _ h) rfl rfl (gV kw_9_152 kw_9_154 ks_140 kw_1_11 kw_9_155) hy_X10_line ⟨Nat.le_of_ble_eq_true rfl, Nat.le_of_ble_eq_true rfl⟩) (fun r_18 m_19 h => ?_)
            refine q_if_ne (tgt := 89) X dX10_reads_81 (by decide) (fun c_20 => ?_) (fun c_20 => ?_)
            · have h := h.1 c_20
              refine q_iload_n (j := 2) X dX10_reads_89 rfl rfl ?_
              have J107 : ∀ (y_21 : Int32) (m_22 : Mm), w_X10_reads_J107 Q9 K_7 y_21 m_22 → V p l e rm_X10_reads s m args below meth c QQ 5 A 0 0 (Rep TT D cA ad false GM m_22) 107 [(0, .ref (ad 30 1))] [.int y_21] := by
                intro y_21 m_22 h
                unfold w_X10_reads_J107 at h
                refine q_istore_n (lv' := [(2, .int y_21), (0, .ref (ad 30 1))]) X dX10_reads_107 rfl (by decide) rfl ?_
                refine q_aload_n (j := 1) X dX10_reads_108 rfl rfl ?_
                refine q_dup X dX10_reads_109 rfl ?_
                refine q_get (k := 15) (v := .int (m_22.1 30 1 15)) X hK rfl rfl (Nat.le_of_ble_eq_true rfl) inTX10 (gm (t := 30) (by decide) (ok1 (t := 30) (Nat.le_of_ble_eq_true rfl))) kw_7_22 rfl rfl dX10_reads_110 ?_
                refine q_iload_n (j := 0) X dX10_reads_113 rfl rfl ?_
                have J122 : ∀ (y_23 : Int32), w_X10_reads_J122 Q9 y_21 m_22 K_7 y_23 → V p l e rm_X10_reads s m args below meth c QQ 5 A 0 0 (Rep TT D cA ad false GM m_22) 122 [(0, .ref (ad 30 1)), (2, .int y_21)] [.int y_23, .int (m_22.1 30 1 15), .ref (ad 30 1)] := by
                  intro y_23 h
                  unfold w_X10_reads_J122 at h
                  refine q_iadd X dX10_reads_122 ?_
                  refine q_putI (k := 15) X ax hK rfl rfl (Nat.le_of_ble_eq_true rfl) inTX10 (gm (t := 30) (by decide) (ok1 (t := 30) (Nat.le_of_ble_eq_true rfl))) tyX10 tyX10_ok nmX10 kw_7_22 rfl rfl (tyX10_ok 15 (Nat.le_of_ble_eq_true rfl)) rfl dX10_reads_123 ?_
                  refine q_nmP (fun m_24 em_24 => ?_)
                  have h := h m_24 em_24
                  refine q_aload_n (j := 0) X dX10_reads_126 rfl rfl ?_
                  refine q_get (k := 9) (v := .int (m_24.1 30 1 9)) X hK rfl rfl (Nat.le_of_ble_eq_true rfl) inTX10 (gm (t := 30) (by decide) (ok1 (t := 30) (Nat.le_of_ble_eq_true rfl))) kw_7_16 rfl rfl dX10_reads_127 ?_
                  refine q_aload_n (j := 0) X dX10_reads_130 rfl rfl ?_
                  refine q_get (k := 2) (v := .int (m_24.1 30 1 2)) X hK rfl rfl (Nat.le_of_ble_eq_true rfl) inTX10 (gm (t := 30) (by decide) (ok1 (t := 30) (Nat.le_of_ble_eq_true rfl))) kw_7_9 rfl rfl dX10_reads_131 ?_
                  have J142 : ∀ (y_25 : Int32), w_X10_reads_J142 Q9 y_21 m_24 K_7 y_25 → V p l e rm_X10_reads s m args below meth c QQ 5 A 0 0 (Rep TT D cA ad false GM m_24) 142 [(0, .ref (ad 30 1)), (2, .int y_21)] [.int y_25] := by
                    intro y_25 h
                    unfold w_X10_reads_J142 at h
                    refine q_istore_n (lv' := [(3, .int y_25), (0, .ref (ad 30 1)), (2, .int y_21)]) X dX10_reads_142 rfl (by decide) rfl ?_
                    refine q_iload_n (j := 0) X dX10_reads_143 rfl rfl ?_
                    refine q_if_eq (tgt := 161) X dX10_reads_144 (by decide) (fun c_26 => ?_) (fun c_26 => ?_)
                    · have h := h.1 c_26
                      refine q_goto (tgt := 19) X dX10_reads_161 (by decide) ?_
                      refine q_sub [1, 2, 0] rfl ?_
                      exact ih_8k y_21 y_25 m_24 h
                    · have h := h.2 c_26
                      refine q_aload_n (j := 1) X dX10_reads_147 rfl rfl ?_
                      refine q_bipush (v := 59) X dX10_reads_148 (by decide) ?_
                      refine q_calli (q_runV X hK hZ zo (gm (t := 30) (by decide) (ok1 (t := 30) (Nat.le_of_ble_eq_true rfl))) rfl rfl [.int 59] [] rfl rfl (Nat.le_of_ble_eq_true rfl) dX10_reads_150 ⟨Nat.le_of_ble_eq_true rfl, Nat.le_of_ble_eq_true rfl⟩ (c_X10_goesOn ax 59 m_24 _ h) rfl rfl (gV kw_9_170 kw_9_172 ks_144 kw_1_11 kw_9_173) hy_X10_goesOn ⟨Nat.le_of_ble_eq_true rfl, Nat.le_of_ble_eq_true rfl⟩) (fun r_27 m_28 h => ?_)
                      refine q_if_ne (tgt := 161) X dX10_reads_153 (by decide) (fun c_29 => ?_) (fun c_29 => ?_)
                      · have h := h.1 c_29
                        refine q_goto (tgt := 19) X dX10_reads_161 (by decide) ?_
                        refine q_sub [1, 2, 0] rfl ?_
                        exact ih_8k y_21 y_25 m_28 h
                      · have h := h.2 c_29
                        refine q_aload_n (j := 1) X dX10_reads_156 rfl rfl ?_
                        refine q_get (k := 9) (v := .int (m_28.1 30 1 9)) X hK rfl rfl (Nat.le_of_ble_eq_true rfl) inTX10 (gm (t := 30) (by decide) (ok1 (t := 30) (Nat.le_of_ble_eq_true rfl))) kw_7_16 rfl rfl dX10_reads_157 ?_
                        exact hE _ _ _ _ dX10_reads_160 h
                  refine q_icmp_ge (tgt := 141) X dX10_reads_134 (by decide) (fun c_30 => ?_) (fun c_30 => ?_)
                  · have h := h.1 c_30
                    refine q_iconst (v := 0) X dX10_reads_141 (by decide) ?_
                    refine q_sub [0, 1] rfl ?_
                    exact J142 0 h
                  · have h := h.2 c_30
                    refine q_iconst (v := 1) X dX10_reads_137 (by decide) ?_
                    refine q_goto (tgt := 142) X dX10_reads_138 (by decide) ?_
                    refine q_sub [0, 1] rfl ?_
                    exact J142 1 h
                refine q_if_eq (tgt := 121) X dX10_reads_114 (by decide) (fun c_31 => ?_) (fun c_31 => ?_)
                · have h := h.1 c_31
                  refine q_iconst (v := 0) X dX10_reads_121 (by decide) ?_
                  refine q_sub [1, 0] rfl ?_
                  exact J122 0 h
                · have h := h.2 c_31
                  refine q_iconst (v := 1) X dX10_reads_117 (by decide) ?_
                  refine q_goto (tgt := 122) X dX10_reads_118 (by decide) ?_
                  refine q_sub [1, 0] rfl ?_
                  exact J122 1 h
              have J106 : ∀ (m_32 : Mm), w_X10_reads_J106 Q9 K_7 m_32 → V p l e rm_X10_reads s m args below meth c QQ 5 A 0 0 (Rep TT D cA ad false GM m_32) 106 [(0, .ref (ad 30 1))] [] := by
                intro m_32 h
                unfold w_X10_reads_J106 at h
                refine q_iconst (v := 0) X dX10_reads_106 (by decide) ?_
                refine q_sub [0] rfl ?_
                exact J107 0 m_32 h
              refine q_if_eq (tgt := 106) X dX10_reads_90 (by decide) (fun c_33 => ?_) (fun c_33 => ?_)
              · have h := h.1 c_33
                refine q_sub [1] rfl ?_
                exact J106 m_19 h
              · have h := h.2 c_33
                refine q_aload_n (j := 1) X dX10_reads_93 rfl rfl ?_
                refine q_iload (j := 0) X dX10_reads_94 rfl ?_
                refine q_calli (q_runV X hK hZ zo (gm (t := 30) (by decide) (ok1 (t := 30) (Nat.le_of_ble_eq_true rfl))) rfl rfl [.int x_16] [] rfl rfl (Nat.le_of_ble_eq_true rfl) dX10_reads_96 ⟨Nat.le_of_ble_eq_true rfl, Nat.le_of_ble_eq_true rfl⟩ (c_X10_does ax x_16 m_19 _ h) rfl rfl (gV kw_9_174 kw_9_176 ks_145 kw_1_11 kw_9_177) hy_X10_does ⟨Nat.le_of_ble_eq_true rfl, Nat.le_of_ble_eq_true rfl⟩) (fun r_34 m_35 h => ?_)
                refine q_if_eq (tgt := 106) X dX10_reads_99 (by decide) (fun c_36 => ?_) (fun c_36 => ?_)
                · have h := h.1 c_36
                  refine q_sub [1] rfl ?_
                  exact J106 m_35 h
                · have h := h.2 c_36
                  refine q_iconst (v := 1) X dX10_reads_102 (by decide) ?_
                  refine q_goto (tgt := 107) X dX10_reads_103 (by decide) ?_
                  refine q_sub [1] rfl ?_
                  exact J107 1 m_35 h
            · have h := h.2 c_20
              refine q_aload_n (j := 1) X dX10_reads_84 rfl rfl ?_
              refine q_get (k := 9) (v := .int (m_19.1 30 1 9)) X hK rfl rfl (Nat.le_of_ble_eq_true rfl) inTX10 (gm (t := 30) (by decide) (ok1 (t := 30) (Nat.le_of_ble_eq_true rfl))) kw_7_16 rfl rfl dX10_reads_85 ?_
              exact hE _ _ _ _ dX10_reads_88 h
          · have h := h.2 c_15
            refine q_aload_n (j := 0) X dX10_reads_49 rfl rfl ?_
            refine q_get (k := 9) (v := .int (m_6.1 30 1 9)) X hK rfl rfl (Nat.le_of_ble_eq_true rfl) inTX10 (gm (t := 30) (by decide) (ok1 (t := 30) (Nat.le_of_ble_eq_true rfl))) kw_7_16 rfl rfl dX10_reads_50 ?_
            exact hE _ _ _ _ dX10_reads_53 h
  obtain ⟨n_37, h⟩ := h
  exact L19 n_37 p0 1 m_3 h
theorem dX10_firstError_0 : decode cX10_firstError 0 = .ok (.aload_n 0, 1) := by decide +kernel
theorem dX10_firstError_1 : decode cX10_firstError 1 = .ok (.iconst 0, 1) := by decide +kernel
theorem dX10_firstError_2 : decode cX10_firstError 2 = .ok (.putfield 29, 3) := by decide +kernel
theorem dX10_firstError_5 : decode cX10_firstError 5 = .ok (.aload_n 0, 1) := by decide +kernel
theorem dX10_firstError_6 : decode cX10_firstError 6 = .ok (.iconst 0, 1) := by decide +kernel
theorem dX10_firstError_7 : decode cX10_firstError 7 = .ok (.invokevirtual 314, 3) := by decide +kernel
theorem dX10_firstError_10 : decode cX10_firstError 10 = .ok (.ireturn, 1) := by decide +kernel
def w_X10_firstError  (mm : Mm) (Q9 : Int32 → Mm → Prop) : Prop :=
  ∀ m_1 : Mm, m_1 = sI mm 30 1 0 0 → (w_X10_reads 0 m_1 (fun (r_2 : Int32) (m_3 : Mm) => Q9 r_2 m_3))
def rm_X10_firstError : Room := { frames := 8, cells := 0, slots := 0, locals := 185 }
theorem hy_X10_firstError : yX10_firstError.cls = RX10 ∧ yX10_firstError.cls ≠ "java/lang/invoke/MethodHandle" ∧ yX10_firstError.cls ≠ "java/lang/invoke/VarHandle" ∧ (parseMethodDescriptor yX10_firstError.desc).map (fun d => d.parameters.length) = some 0 := by decide +kernel
set_option maxRecDepth 100000 in
set_option maxHeartbeats 4000000 in
theorem c_X10_firstError {l : Launch} {D : va_G} {cA : Nat → ClassId} {ad : Nat → Nat → Nat} {A : Nat → Prop} (ax : Ax ad GM A)  (mm : Mm) (Q9 : Int32 → Mm → Prop) (h : w_X10_firstError mm Q9) : Met l yX10_firstError (.code yX10_firstError cX10_firstError 1 (some .int) :: TG) rm_X10_firstError (PcM TT D cA ad false GM (ZM) [.ref (ad 30 1)] mm) (AnsI TT D cA ad false GM A Q9) 0 0 A := by
  have zo := ZM_ok A
  unfold w_X10_firstError at h
  refine enterI pl_X10 ⟨rfl, rfl⟩ rfl (Nat.le_of_ble_eq_true rfl) ?_
  intro p e s m args below meth c QQ X hK hZ hnm hE
  refine q_aload_n (j := 0) X dX10_firstError_0 rfl rfl ?_
  refine q_iconst (v := 0) X dX10_firstError_1 (by decide) ?_
  refine q_putI (k := 0) X ax hK rfl rfl (Nat.le_of_ble_eq_true rfl) inTX10 (gm (t := 30) (by decide) (ok1 (t := 30) (Nat.le_of_ble_eq_true rfl))) tyX10 tyX10_ok nmX10 kw_7_7 rfl rfl (tyX10_ok 0 (Nat.le_of_ble_eq_true rfl)) rfl dX10_firstError_2 ?_
  refine q_nmP (fun m_1 em_1 => ?_)
  have h := h m_1 em_1
  refine q_aload_n (j := 0) X dX10_firstError_5 rfl rfl ?_
  refine q_iconst (v := 0) X dX10_firstError_6 (by decide) ?_
  refine q_calli (q_runV X hK hZ zo (gm (t := 30) (by decide) (ok1 (t := 30) (Nat.le_of_ble_eq_true rfl))) rfl rfl [.int 0] [] rfl rfl (Nat.le_of_ble_eq_true rfl) dX10_firstError_7 ⟨Nat.le_of_ble_eq_true rfl, Nat.le_of_ble_eq_true rfl⟩ (c_X10_reads ax 0 m_1 _ h) rfl rfl (gV kw_9_145 kw_9_147 ks_139 kw_1_11 kw_9_148) hy_X10_reads ⟨Nat.le_of_ble_eq_true rfl, Nat.le_of_ble_eq_true rfl⟩) (fun r_2 m_3 h => ?_)
  exact hE _ _ _ _ dX10_firstError_10 h
theorem dX10_run_0 : decode cX10_run 0 = .ok (.aload_n 0, 1) := by decide +kernel
theorem dX10_run_1 : decode cX10_run 1 = .ok (.iconst 0, 1) := by decide +kernel
theorem dX10_run_2 : decode cX10_run 2 = .ok (.invokevirtual 314, 3) := by decide +kernel
theorem dX10_run_5 : decode cX10_run 5 = .ok (.pop, 1) := by decide +kernel
theorem dX10_run_6 : decode cX10_run 6 = .ok (.aload_n 0, 1) := by decide +kernel
theorem dX10_run_7 : decode cX10_run 7 = .ok (.aload_n 0, 1) := by decide +kernel
theorem dX10_run_8 : decode cX10_run 8 = .ok (.getfield 301, 3) := by decide +kernel
theorem dX10_run_11 : decode cX10_run 11 = .ok (.ifCond .eq 7, 3) := by decide +kernel
theorem dX10_run_14 : decode cX10_run 14 = .ok (.iconst 0, 1) := by decide +kernel
theorem dX10_run_15 : decode cX10_run 15 = .ok (.goto 4, 3) := by decide +kernel
theorem dX10_run_18 : decode cX10_run 18 = .ok (.iconst 1, 1) := by decide +kernel
theorem dX10_run_19 : decode cX10_run 19 = .ok (.invokevirtual 147, 3) := by decide +kernel
theorem dX10_run_22 : decode cX10_run 22 = .ok (.ifCond .eq 5, 3) := by decide +kernel
theorem dX10_run_25 : decode cX10_run 25 = .ok (.iconst 0, 1) := by decide +kernel
theorem dX10_run_26 : decode cX10_run 26 = .ok (.ireturn, 1) := by decide +kernel
theorem dX10_run_27 : decode cX10_run 27 = .ok (.aload_n 0, 1) := by decide +kernel
theorem dX10_run_28 : decode cX10_run 28 = .ok (.invokevirtual 150, 3) := by decide +kernel
theorem dX10_run_31 : decode cX10_run 31 = .ok (.aload_n 0, 1) := by decide +kernel
theorem dX10_run_32 : decode cX10_run 32 = .ok (.iconst 1, 1) := by decide +kernel
theorem dX10_run_33 : decode cX10_run 33 = .ok (.invokevirtual 314, 3) := by decide +kernel
theorem dX10_run_36 : decode cX10_run 36 = .ok (.pop, 1) := by decide +kernel
theorem dX10_run_37 : decode cX10_run 37 = .ok (.aload_n 0, 1) := by decide +kernel
theorem dX10_run_38 : decode cX10_run 38 = .ok (.iconst 0, 1) := by decide +kernel
theorem dX10_run_39 : decode cX10_run 39 = .ok (.putfield 260, 3) := by decide +kernel
theorem dX10_run_42 : decode cX10_run 42 = .ok (.aload_n 0, 1) := by decide +kernel
theorem dX10_run_43 : decode cX10_run 43 = .ok (.getfield 298, 3) := by decide +kernel
theorem dX10_run_46 : decode cX10_run 46 = .ok (.ireturn, 1) := by decide +kernel
def w_X10_run_J19 (Q9 : Int32 → Mm → Prop) (m_2 : Mm) (y_3 : Int32) : Prop :=
  w_X10_refused y_3 m_2 (fun (r_4 : Int32) (m_5 : Mm) => ((r_4 = 0 → w_X10_saves m_5 (fun (m_8 : Mm) => w_X10_reads 1 m_8 (fun (r_9 : Int32) (m_10 : Mm) => ∀ m_11 : Mm, m_11 = sI m_10 30 1 2 0 → (Q9 (m_11.1 30 1 15) m_11)))) ∧
  (¬ r_4 = 0 → Q9 0 m_5)))
def w_X10_run  (mm : Mm) (Q9 : Int32 → Mm → Prop) : Prop :=
  w_X10_reads 0 mm (fun (r_1 : Int32) (m_2 : Mm) => (((m_2.1 30 1 14) = 0 → w_X10_run_J19 Q9 m_2 1) ∧
  (¬ (m_2.1 30 1 14) = 0 → w_X10_run_J19 Q9 m_2 0)))
def rm_X10_run : Room := { frames := 8, cells := 0, slots := 0, locals := 185 }
theorem hy_X10_run : yX10_run.cls = RX10 ∧ yX10_run.cls ≠ "java/lang/invoke/MethodHandle" ∧ yX10_run.cls ≠ "java/lang/invoke/VarHandle" ∧ (parseMethodDescriptor yX10_run.desc).map (fun d => d.parameters.length) = some 0 := by decide +kernel
set_option maxRecDepth 100000 in
set_option maxHeartbeats 4000000 in
theorem c_X10_run {l : Launch} {D : va_G} {cA : Nat → ClassId} {ad : Nat → Nat → Nat} {A : Nat → Prop} (ax : Ax ad GM A)  (mm : Mm) (Q9 : Int32 → Mm → Prop) (h : w_X10_run mm Q9) : Met l yX10_run (.code yX10_run cX10_run 1 (some .int) :: TG) rm_X10_run (PcM TT D cA ad false GM (ZM) [.ref (ad 30 1)] mm) (AnsI TT D cA ad false GM A Q9) 0 0 A := by
  have zo := ZM_ok A
  unfold w_X10_run at h
  refine enterI pl_X10 ⟨rfl, rfl⟩ rfl (Nat.le_of_ble_eq_true rfl) ?_
  intro p e s m args below meth c QQ X hK hZ hnm hE
  refine q_aload_n (j := 0) X dX10_run_0 rfl rfl ?_
  refine q_iconst (v := 0) X dX10_run_1 (by decide) ?_
  refine q_calli (q_runV X hK hZ zo (gm (t := 30) (by decide) (ok1 (t := 30) (Nat.le_of_ble_eq_true rfl))) rfl rfl [.int 0] [] rfl rfl (Nat.le_of_ble_eq_true rfl) dX10_run_2 ⟨Nat.le_of_ble_eq_true rfl, Nat.le_of_ble_eq_true rfl⟩ (c_X10_reads ax 0 mm _ h) rfl rfl (gV kw_9_145 kw_9_147 ks_139 kw_1_11 kw_9_148) hy_X10_reads ⟨Nat.le_of_ble_eq_true rfl, Nat.le_of_ble_eq_true rfl⟩) (fun r_1 m_2 h => ?_)
  refine q_pop X dX10_run_5 rfl ?_
  refine q_aload_n (j := 0) X dX10_run_6 rfl rfl ?_
  refine q_aload_n (j := 0) X dX10_run_7 rfl rfl ?_
  refine q_get (k := 14) (v := .int (m_2.1 30 1 14)) X hK rfl rfl (Nat.le_of_ble_eq_true rfl) inTX10 (gm (t := 30) (by decide) (ok1 (t := 30) (Nat.le_of_ble_eq_true rfl))) kw_7_21 rfl rfl dX10_run_8 ?_
  have J19 : ∀ (y_3 : Int32), w_X10_run_J19 Q9 m_2 y_3 → V p l e rm_X10_run s m args below meth c QQ 1 A 0 0 (Rep TT D cA ad false GM m_2) 19 [(0, .ref (ad 30 1))] [.int y_3, .ref (ad 30 1)] := by
    intro y_3 h
    unfold w_X10_run_J19 at h
    refine q_calli (q_runV X hK hZ zo (gm (t := 30) (by decide) (ok1 (t := 30) (Nat.le_of_ble_eq_true rfl))) rfl rfl [.int y_3] [] rfl rfl (Nat.le_of_ble_eq_true rfl) dX10_run_19 ⟨Nat.le_of_ble_eq_true rfl, Nat.le_of_ble_eq_true rfl⟩ (c_X10_refused ax y_3 m_2 _ h) rfl rfl (gV kw_7_126 kw_7_128 ks_95 kw_1_11 kw_7_129) hy_X10_refused ⟨Nat.le_of_ble_eq_true rfl, Nat.le_of_ble_eq_true rfl⟩) (fun r_4 m_5 h => ?_)
    refine q_if_eq (tgt := 27) X dX10_run_22 (by decide) (fun c_6 => ?_) (fun c_6 => ?_)
    · have h := h.1 c_6
      refine q_aload_n (j := 0) X dX10_run_27 rfl rfl ?_
      refine q_callv (q_runV X hK hZ zo (gm (t := 30) (by decide) (ok1 (t := 30) (Nat.le_of_ble_eq_true rfl))) rfl rfl [] [] rfl rfl (Nat.le_of_ble_eq_true rfl) dX10_run_28 ⟨Nat.le_of_ble_eq_true rfl, Nat.le_of_ble_eq_true rfl⟩ (c_X10_saves ax m_5 _ h) rfl rfl (gV kw_7_130 kw_7_132 ks_96 kw_1_11 kw_7_133) hy_X10_saves ⟨Nat.le_of_ble_eq_true rfl, Nat.le_of_ble_eq_true rfl⟩) (fun m_8 h => ?_)
      refine q_aload_n (j := 0) X dX10_run_31 rfl rfl ?_
      refine q_iconst (v := 1) X dX10_run_32 (by decide) ?_
      refine q_calli (q_runV X hK hZ zo (gm (t := 30) (by decide) (ok1 (t := 30) (Nat.le_of_ble_eq_true rfl))) rfl rfl [.int 1] [] rfl rfl (Nat.le_of_ble_eq_true rfl) dX10_run_33 ⟨Nat.le_of_ble_eq_true rfl, Nat.le_of_ble_eq_true rfl⟩ (c_X10_reads ax 1 m_8 _ h) rfl rfl (gV kw_9_145 kw_9_147 ks_139 kw_1_11 kw_9_148) hy_X10_reads ⟨Nat.le_of_ble_eq_true rfl, Nat.le_of_ble_eq_true rfl⟩) (fun r_9 m_10 h => ?_)
      refine q_pop X dX10_run_36 rfl ?_
      refine q_aload_n (j := 0) X dX10_run_37 rfl rfl ?_
      refine q_iconst (v := 0) X dX10_run_38 (by decide) ?_
      refine q_putI (k := 2) X ax hK rfl rfl (Nat.le_of_ble_eq_true rfl) inTX10 (gm (t := 30) (by decide) (ok1 (t := 30) (Nat.le_of_ble_eq_true rfl))) tyX10 tyX10_ok nmX10 kw_7_9 rfl rfl (tyX10_ok 2 (Nat.le_of_ble_eq_true rfl)) rfl dX10_run_39 ?_
      refine q_nmP (fun m_11 em_11 => ?_)
      have h := h m_11 em_11
      refine q_aload_n (j := 0) X dX10_run_42 rfl rfl ?_
      refine q_get (k := 15) (v := .int (m_11.1 30 1 15)) X hK rfl rfl (Nat.le_of_ble_eq_true rfl) inTX10 (gm (t := 30) (by decide) (ok1 (t := 30) (Nat.le_of_ble_eq_true rfl))) kw_7_22 rfl rfl dX10_run_43 ?_
      exact hE _ _ _ _ dX10_run_46 h
    · have h := h.2 c_6
      refine q_iconst (v := 0) X dX10_run_25 (by decide) ?_
      exact hE _ _ _ _ dX10_run_26 h
  refine q_if_eq (tgt := 18) X dX10_run_11 (by decide) (fun c_12 => ?_) (fun c_12 => ?_)
  · have h := h.1 c_12
    refine q_iconst (v := 1) X dX10_run_18 (by decide) ?_
    refine q_sub [0] rfl ?_
    exact J19 1 h
  · have h := h.2 c_12
    refine q_iconst (v := 0) X dX10_run_14 (by decide) ?_
    refine q_goto (tgt := 19) X dX10_run_15 (by decide) ?_
    refine q_sub [0] rfl ?_
    exact J19 0 h
theorem dX10_undo_0 : decode cX10_undo 0 = .ok (.aload_n 0, 1) := by decide +kernel
theorem dX10_undo_1 : decode cX10_undo 1 = .ok (.aload_n 0, 1) := by decide +kernel
theorem dX10_undo_2 : decode cX10_undo 2 = .ok (.getfield 110, 3) := by decide +kernel
theorem dX10_undo_5 : decode cX10_undo 5 = .ok (.ifCond .le 7, 3) := by decide +kernel
theorem dX10_undo_8 : decode cX10_undo 8 = .ok (.iconst 0, 1) := by decide +kernel
theorem dX10_undo_9 : decode cX10_undo 9 = .ok (.goto 4, 3) := by decide +kernel
theorem dX10_undo_12 : decode cX10_undo 12 = .ok (.iconst 1, 1) := by decide +kernel
theorem dX10_undo_13 : decode cX10_undo 13 = .ok (.invokevirtual 147, 3) := by decide +kernel
theorem dX10_undo_16 : decode cX10_undo 16 = .ok (.ifCond .eq 5, 3) := by decide +kernel
theorem dX10_undo_19 : decode cX10_undo 19 = .ok (.iconst 0, 1) := by decide +kernel
theorem dX10_undo_20 : decode cX10_undo 20 = .ok (.ireturn, 1) := by decide +kernel
theorem dX10_undo_21 : decode cX10_undo 21 = .ok (.aload_n 0, 1) := by decide +kernel
theorem dX10_undo_22 : decode cX10_undo 22 = .ok (.dup, 1) := by decide +kernel
theorem dX10_undo_23 : decode cX10_undo 23 = .ok (.getfield 110, 3) := by decide +kernel
theorem dX10_undo_26 : decode cX10_undo 26 = .ok (.iconst 1, 1) := by decide +kernel
theorem dX10_undo_27 : decode cX10_undo 27 = .ok (.isub, 1) := by decide +kernel
theorem dX10_undo_28 : decode cX10_undo 28 = .ok (.putfield 110, 3) := by decide +kernel
theorem dX10_undo_31 : decode cX10_undo 31 = .ok (.aload_n 0, 1) := by decide +kernel
theorem dX10_undo_32 : decode cX10_undo 32 = .ok (.getfield 16, 3) := by decide +kernel
theorem dX10_undo_35 : decode cX10_undo 35 = .ok (.sipush 246, 3) := by decide +kernel
theorem dX10_undo_38 : decode cX10_undo 38 = .ok (.aload_n 0, 1) := by decide +kernel
theorem dX10_undo_39 : decode cX10_undo 39 = .ok (.getfield 110, 3) := by decide +kernel
theorem dX10_undo_42 : decode cX10_undo 42 = .ok (.imul, 1) := by decide +kernel
theorem dX10_undo_43 : decode cX10_undo 43 = .ok (.aload_n 0, 1) := by decide +kernel
theorem dX10_undo_44 : decode cX10_undo 44 = .ok (.getfield 13, 3) := by decide +kernel
theorem dX10_undo_47 : decode cX10_undo 47 = .ok (.iconst 0, 1) := by decide +kernel
theorem dX10_undo_48 : decode cX10_undo 48 = .ok (.invokestatic 113, 3) := by decide +kernel
theorem dX10_undo_51 : decode cX10_undo 51 = .ok (.aload_n 0, 1) := by decide +kernel
theorem dX10_undo_52 : decode cX10_undo 52 = .ok (.getfield 110, 3) := by decide +kernel
theorem dX10_undo_55 : decode cX10_undo 55 = .ok (.ireturn, 1) := by decide +kernel
def w_X10_undo_J13 (mm : Mm) (Q9 : Int32 → Mm → Prop) (y_1 : Int32) : Prop :=
  w_X10_refused y_1 mm (fun (r_2 : Int32) (m_3 : Mm) => ((r_2 = 0 → ∀ m_5 : Mm, m_5 = sI m_3 30 1 5 ((m_3.1 30 1 5) - 1) → (w_X10_copyState_33_32 (246 * (m_5.1 30 1 5)) 0 m_5 (fun (m_7 : Mm) => Q9 (m_7.1 30 1 5) m_7))) ∧
  (¬ r_2 = 0 → Q9 0 m_3)))
def w_X10_undo  (mm : Mm) (Q9 : Int32 → Mm → Prop) : Prop :=
  (((mm.1 30 1 5) ≤ 0 → w_X10_undo_J13 mm Q9 1) ∧
  (¬ (mm.1 30 1 5) ≤ 0 → w_X10_undo_J13 mm Q9 0))
def rm_X10_undo : Room := { frames := 1, cells := 0, slots := 0, locals := 24 }
theorem hy_X10_undo : yX10_undo.cls = RX10 ∧ yX10_undo.cls ≠ "java/lang/invoke/MethodHandle" ∧ yX10_undo.cls ≠ "java/lang/invoke/VarHandle" ∧ (parseMethodDescriptor yX10_undo.desc).map (fun d => d.parameters.length) = some 0 := by decide +kernel
set_option maxRecDepth 100000 in
set_option maxHeartbeats 4000000 in
theorem c_X10_undo {l : Launch} {D : va_G} {cA : Nat → ClassId} {ad : Nat → Nat → Nat} {A : Nat → Prop} (ax : Ax ad GM A)  (mm : Mm) (Q9 : Int32 → Mm → Prop) (h : w_X10_undo mm Q9) : Met l yX10_undo (.code yX10_undo cX10_undo 1 (some .int) :: TG) rm_X10_undo (PcM TT D cA ad false GM (ZM) [.ref (ad 30 1)] mm) (AnsI TT D cA ad false GM A Q9) 0 0 A := by
  have zo := ZM_ok A
  unfold w_X10_undo at h
  refine enterI pl_X10 ⟨rfl, rfl⟩ rfl (Nat.le_of_ble_eq_true rfl) ?_
  intro p e s m args below meth c QQ X hK hZ hnm hE
  refine q_aload_n (j := 0) X dX10_undo_0 rfl rfl ?_
  refine q_aload_n (j := 0) X dX10_undo_1 rfl rfl ?_
  refine q_get (k := 5) (v := .int (mm.1 30 1 5)) X hK rfl rfl (Nat.le_of_ble_eq_true rfl) inTX10 (gm (t := 30) (by decide) (ok1 (t := 30) (Nat.le_of_ble_eq_true rfl))) kw_7_12 rfl rfl dX10_undo_2 ?_
  have J13 : ∀ (y_1 : Int32), w_X10_undo_J13 mm Q9 y_1 → V p l e rm_X10_undo s m args below meth c QQ 1 A 0 0 (Rep TT D cA ad false GM mm) 13 [(0, .ref (ad 30 1))] [.int y_1, .ref (ad 30 1)] := by
    intro y_1 h
    unfold w_X10_undo_J13 at h
    refine q_calli (q_runV X hK hZ zo (gm (t := 30) (by decide) (ok1 (t := 30) (Nat.le_of_ble_eq_true rfl))) rfl rfl [.int y_1] [] rfl rfl (Nat.le_of_ble_eq_true rfl) dX10_undo_13 ⟨Nat.le_of_ble_eq_true rfl, Nat.le_of_ble_eq_true rfl⟩ (c_X10_refused ax y_1 mm _ h) rfl rfl (gV kw_7_126 kw_7_128 ks_95 kw_1_11 kw_7_129) hy_X10_refused ⟨Nat.le_of_ble_eq_true rfl, Nat.le_of_ble_eq_true rfl⟩) (fun r_2 m_3 h => ?_)
    refine q_if_eq (tgt := 21) X dX10_undo_16 (by decide) (fun c_4 => ?_) (fun c_4 => ?_)
    · have h := h.1 c_4
      refine q_aload_n (j := 0) X dX10_undo_21 rfl rfl ?_
      refine q_dup X dX10_undo_22 rfl ?_
      refine q_get (k := 5) (v := .int (m_3.1 30 1 5)) X hK rfl rfl (Nat.le_of_ble_eq_true rfl) inTX10 (gm (t := 30) (by decide) (ok1 (t := 30) (Nat.le_of_ble_eq_true rfl))) kw_7_12 rfl rfl dX10_undo_23 ?_
      refine q_iconst (v := 1) X dX10_undo_26 (by decide) ?_
      refine q_isub X dX10_undo_27 ?_
      refine q_putI (k := 5) X ax hK rfl rfl (Nat.le_of_ble_eq_true rfl) inTX10 (gm (t := 30) (by decide) (ok1 (t := 30) (Nat.le_of_ble_eq_true rfl))) tyX10 tyX10_ok nmX10 kw_7_12 rfl rfl (tyX10_ok 5 (Nat.le_of_ble_eq_true rfl)) rfl dX10_undo_28 ?_
      refine q_nmP (fun m_5 em_5 => ?_)
      have h := h m_5 em_5
      refine q_aload_n (j := 0) X dX10_undo_31 rfl rfl ?_
      refine q_get (k := 4) (v := .ref (ad 33 1)) X hK rfl rfl (Nat.le_of_ble_eq_true rfl) inTX10 (gm (t := 30) (by decide) (ok1 (t := 30) (Nat.le_of_ble_eq_true rfl))) kw_7_11 rfl (rv_nn (a := ad 33) (r := 1) (ok1 (t := 33) (Nat.le_of_ble_eq_true rfl)).1) dX10_undo_32 ?_
      refine q_sipush (v := 246) X dX10_undo_35 (by decide) ?_
      refine q_aload_n (j := 0) X dX10_undo_38 rfl rfl ?_
      refine q_get (k := 5) (v := .int (m_5.1 30 1 5)) X hK rfl rfl (Nat.le_of_ble_eq_true rfl) inTX10 (gm (t := 30) (by decide) (ok1 (t := 30) (Nat.le_of_ble_eq_true rfl))) kw_7_12 rfl rfl dX10_undo_39 ?_
      refine q_imul X dX10_undo_42 ?_
      refine q_aload_n (j := 0) X dX10_undo_43 rfl rfl ?_
      refine q_get (k := 3) (v := .ref (ad 32 1)) X hK rfl rfl (Nat.le_of_ble_eq_true rfl) inTX10 (gm (t := 30) (by decide) (ok1 (t := 30) (Nat.le_of_ble_eq_true rfl))) kw_7_10 rfl (rv_nn (a := ad 32) (r := 1) (ok1 (t := 32) (Nat.le_of_ble_eq_true rfl)).1) dX10_undo_44 ?_
      refine q_iconst (v := 0) X dX10_undo_47 (by decide) ?_
      refine q_callv (q_runS X hK hZ zo [.ref (ad 33 1), .int (246 * (m_5.1 30 1 5)), .ref (ad 32 1), .int 0] [] rfl rfl (Nat.le_of_ble_eq_true rfl) dX10_undo_48 ⟨Nat.le_of_ble_eq_true rfl, Nat.le_of_ble_eq_true rfl⟩ (c_X10_copyState_33_32 ax (246 * (m_5.1 30 1 5)) 0 m_5 _ h) rfl rfl (gS kw_7_134 kw_7_135 kw_1_11 kw_7_136) hy_X10_copyState.2 ⟨Nat.le_of_ble_eq_true rfl, Nat.le_of_ble_eq_true rfl⟩) (fun m_7 h => ?_)
      refine q_aload_n (j := 0) X dX10_undo_51 rfl rfl ?_
      refine q_get (k := 5) (v := .int (m_7.1 30 1 5)) X hK rfl rfl (Nat.le_of_ble_eq_true rfl) inTX10 (gm (t := 30) (by decide) (ok1 (t := 30) (Nat.le_of_ble_eq_true rfl))) kw_7_12 rfl rfl dX10_undo_52 ?_
      exact hE _ _ _ _ dX10_undo_55 h
    · have h := h.2 c_4
      refine q_iconst (v := 0) X dX10_undo_19 (by decide) ?_
      exact hE _ _ _ _ dX10_undo_20 h
  refine q_if_le (tgt := 12) X dX10_undo_5 (by decide) (fun c_8 => ?_) (fun c_8 => ?_)
  · have h := h.1 c_8
    refine q_iconst (v := 1) X dX10_undo_12 (by decide) ?_
    refine q_sub [0] rfl ?_
    exact J13 1 h
  · have h := h.2 c_8
    refine q_iconst (v := 0) X dX10_undo_8 (by decide) ?_
    refine q_goto (tgt := 13) X dX10_undo_9 (by decide) ?_
    refine q_sub [0] rfl ?_
    exact J13 0 h
theorem dX10_savedStates_0 : decode cX10_savedStates 0 = .ok (.aload_n 0, 1) := by decide +kernel
theorem dX10_savedStates_1 : decode cX10_savedStates 1 = .ok (.iconst 0, 1) := by decide +kernel
theorem dX10_savedStates_2 : decode cX10_savedStates 2 = .ok (.putfield 29, 3) := by decide +kernel
theorem dX10_savedStates_5 : decode cX10_savedStates 5 = .ok (.aload_n 0, 1) := by decide +kernel
theorem dX10_savedStates_6 : decode cX10_savedStates 6 = .ok (.getfield 110, 3) := by decide +kernel
theorem dX10_savedStates_9 : decode cX10_savedStates 9 = .ok (.ireturn, 1) := by decide +kernel
def w_X10_savedStates  (mm : Mm) (Q9 : Int32 → Mm → Prop) : Prop :=
  ∀ m_1 : Mm, m_1 = sI mm 30 1 0 0 → (Q9 (m_1.1 30 1 5) m_1)
def rm_X10_savedStates : Room := { frames := 0, cells := 0, slots := 0, locals := 0 }
theorem hy_X10_savedStates : yX10_savedStates.cls = RX10 ∧ yX10_savedStates.cls ≠ "java/lang/invoke/MethodHandle" ∧ yX10_savedStates.cls ≠ "java/lang/invoke/VarHandle" ∧ (parseMethodDescriptor yX10_savedStates.desc).map (fun d => d.parameters.length) = some 0 := by decide +kernel
set_option maxRecDepth 100000 in
set_option maxHeartbeats 4000000 in
theorem c_X10_savedStates {l : Launch} {D : va_G} {cA : Nat → ClassId} {ad : Nat → Nat → Nat} {A : Nat → Prop} (ax : Ax ad GM A)  (mm : Mm) (Q9 : Int32 → Mm → Prop) (h : w_X10_savedStates mm Q9) : Met l yX10_savedStates (.code yX10_savedStates cX10_savedStates 1 (some .int) :: TG) rm_X10_savedStates (PcM TT D cA ad false GM (ZM) [.ref (ad 30 1)] mm) (AnsI TT D cA ad false GM A Q9) 0 0 A := by
  have zo := ZM_ok A
  unfold w_X10_savedStates at h
  refine enterI pl_X10 ⟨rfl, rfl⟩ rfl (Nat.le_of_ble_eq_true rfl) ?_
  intro p e s m args below meth c QQ X hK hZ hnm hE
  refine q_aload_n (j := 0) X dX10_savedStates_0 rfl rfl ?_
  refine q_iconst (v := 0) X dX10_savedStates_1 (by decide) ?_
  refine q_putI (k := 0) X ax hK rfl rfl (Nat.le_of_ble_eq_true rfl) inTX10 (gm (t := 30) (by decide) (ok1 (t := 30) (Nat.le_of_ble_eq_true rfl))) tyX10 tyX10_ok nmX10 kw_7_7 rfl rfl (tyX10_ok 0 (Nat.le_of_ble_eq_true rfl)) rfl dX10_savedStates_2 ?_
  refine q_nmP (fun m_1 em_1 => ?_)
  have h := h m_1 em_1
  refine q_aload_n (j := 0) X dX10_savedStates_5 rfl rfl ?_
  refine q_get (k := 5) (v := .int (m_1.1 30 1 5)) X hK rfl rfl (Nat.le_of_ble_eq_true rfl) inTX10 (gm (t := 30) (by decide) (ok1 (t := 30) (Nat.le_of_ble_eq_true rfl))) kw_7_12 rfl rfl dX10_savedStates_6 ?_
  exact hE _ _ _ _ dX10_savedStates_9 h
theorem dX10_keep_0 : decode cX10_keep 0 = .ok (.aload_n 0, 1) := by decide +kernel
theorem dX10_keep_1 : decode cX10_keep 1 = .ok (.iload_n 1, 1) := by decide +kernel
theorem dX10_keep_2 : decode cX10_keep 2 = .ok (.i2l, 1) := by decide +kernel
theorem dX10_keep_3 : decode cX10_keep 3 = .ok (.lconst 0, 1) := by decide +kernel
theorem dX10_keep_4 : decode cX10_keep 4 = .ok (.lconst 1, 1) := by decide +kernel
theorem dX10_keep_5 : decode cX10_keep 5 = .ok (.invokestatic 35, 3) := by decide +kernel
theorem dX10_keep_8 : decode cX10_keep 8 = .ok (.ifCond .eq 7, 3) := by decide +kernel
theorem dX10_keep_11 : decode cX10_keep 11 = .ok (.iconst 0, 1) := by decide +kernel
theorem dX10_keep_12 : decode cX10_keep 12 = .ok (.goto 4, 3) := by decide +kernel
theorem dX10_keep_15 : decode cX10_keep 15 = .ok (.iconst 1, 1) := by decide +kernel
theorem dX10_keep_16 : decode cX10_keep 16 = .ok (.invokevirtual 147, 3) := by decide +kernel
theorem dX10_keep_19 : decode cX10_keep 19 = .ok (.ifCond .eq 5, 3) := by decide +kernel
theorem dX10_keep_22 : decode cX10_keep 22 = .ok (.iconst 0, 1) := by decide +kernel
theorem dX10_keep_23 : decode cX10_keep 23 = .ok (.ireturn, 1) := by decide +kernel
theorem dX10_keep_24 : decode cX10_keep 24 = .ok (.aload_n 0, 1) := by decide +kernel
theorem dX10_keep_25 : decode cX10_keep 25 = .ok (.getfield 13, 3) := by decide +kernel
theorem dX10_keep_28 : decode cX10_keep 28 = .ok (.iconst 0, 1) := by decide +kernel
theorem dX10_keep_29 : decode cX10_keep 29 = .ok (.aload_n 0, 1) := by decide +kernel
theorem dX10_keep_30 : decode cX10_keep 30 = .ok (.getfield 19, 3) := by decide +kernel
theorem dX10_keep_33 : decode cX10_keep 33 = .ok (.sipush 246, 3) := by decide +kernel
theorem dX10_keep_36 : decode cX10_keep 36 = .ok (.iload_n 1, 1) := by decide +kernel
theorem dX10_keep_37 : decode cX10_keep 37 = .ok (.imul, 1) := by decide +kernel
theorem dX10_keep_38 : decode cX10_keep 38 = .ok (.invokestatic 113, 3) := by decide +kernel
theorem dX10_keep_41 : decode cX10_keep 41 = .ok (.aload_n 0, 1) := by decide +kernel
theorem dX10_keep_42 : decode cX10_keep 42 = .ok (.getfield 22, 3) := by decide +kernel
theorem dX10_keep_45 : decode cX10_keep 45 = .ok (.iload_n 1, 1) := by decide +kernel
theorem dX10_keep_46 : decode cX10_keep 46 = .ok (.iconst 1, 1) := by decide +kernel
theorem dX10_keep_47 : decode cX10_keep 47 = .ok (.bastore, 1) := by decide +kernel
theorem dX10_keep_48 : decode cX10_keep 48 = .ok (.aload_n 0, 1) := by decide +kernel
theorem dX10_keep_49 : decode cX10_keep 49 = .ok (.getfield 13, 3) := by decide +kernel
theorem dX10_keep_52 : decode cX10_keep 52 = .ok (.bipush 117, 2) := by decide +kernel
theorem dX10_keep_54 : decode cX10_keep 54 = .ok (.iaload, 1) := by decide +kernel
theorem dX10_keep_55 : decode cX10_keep 55 = .ok (.ireturn, 1) := by decide +kernel
def w_X10_keep_J16 (p0 : Int32) (mm : Mm) (Q9 : Int32 → Mm → Prop) (y_3 : Int32) : Prop :=
  w_X10_refused y_3 mm (fun (r_4 : Int32) (m_5 : Mm) => ((r_4 = 0 → w_X10_copyState_32_34 0 (246 * p0) m_5 (fun (m_8 : Mm) => vp_in p0 2 ∧ ∀ m_10 : Mm, m_10 = sI m_8 35 1 p0.toNatClampNeg 1 → (Q9 (m_10.1 32 1 117) m_10))) ∧
  (¬ r_4 = 0 → Q9 0 m_5)))
def w_X10_keep (p0 : Int32) (mm : Mm) (Q9 : Int32 → Mm → Prop) : Prop :=
  w_X10_in (Int32.toInt64 p0) (0 : Int64) (1 : Int64) mm (fun (r_1 : Int32) => ((r_1 = 0 → w_X10_keep_J16 p0 mm Q9 1) ∧
  (¬ r_1 = 0 → w_X10_keep_J16 p0 mm Q9 0)))
def rm_X10_keep : Room := { frames := 1, cells := 0, slots := 0, locals := 25 }
theorem hy_X10_keep : yX10_keep.cls = RX10 ∧ yX10_keep.cls ≠ "java/lang/invoke/MethodHandle" ∧ yX10_keep.cls ≠ "java/lang/invoke/VarHandle" ∧ (parseMethodDescriptor yX10_keep.desc).map (fun d => d.parameters.length) = some 1 := by decide +kernel
set_option maxRecDepth 100000 in
set_option maxHeartbeats 4000000 in
theorem c_X10_keep {l : Launch} {D : va_G} {cA : Nat → ClassId} {ad : Nat → Nat → Nat} {A : Nat → Prop} (ax : Ax ad GM A) (p0 : Int32) (mm : Mm) (Q9 : Int32 → Mm → Prop) (h : w_X10_keep p0 mm Q9) : Met l yX10_keep (.code yX10_keep cX10_keep 2 (some .int) :: TG) rm_X10_keep (PcM TT D cA ad false GM (ZM) [.ref (ad 30 1), .int p0] mm) (AnsI TT D cA ad false GM A Q9) 0 0 A := by
  have zo := ZM_ok A
  unfold w_X10_keep at h
  refine enterI pl_X10 ⟨rfl, rfl⟩ rfl (Nat.le_of_ble_eq_true rfl) ?_
  intro p e s m args below meth c QQ X hK hZ hnm hE
  refine q_aload_n (j := 0) X dX10_keep_0 rfl rfl ?_
  refine q_iload_n (j := 1) X dX10_keep_1 rfl rfl ?_
  refine q_i2l X dX10_keep_2 ?_
  refine q_lconst (v := 0) X dX10_keep_3 (by decide) ?_
  refine q_lconst (v := 1) X dX10_keep_4 (by decide) ?_
  refine q_calli (q_runS X hK hZ zo [.long (Int32.toInt64 p0), .long (0 : Int64), .long (1 : Int64)] [.ref (ad 30 1)] rfl rfl (Nat.le_of_ble_eq_true rfl) dX10_keep_5 ⟨Nat.le_of_ble_eq_true rfl, Nat.le_of_ble_eq_true rfl⟩ (c_X10_in ax (Int32.toInt64 p0) (0 : Int64) (1 : Int64) mm _ h) rfl rfl (gS kw_7_71 kw_7_72 kw_1_11 kw_7_73) hy_X10_in.2 ⟨Nat.le_of_ble_eq_true rfl, Nat.le_of_ble_eq_true rfl⟩) (fun r_1 m_2 h => ?_)
  obtain ⟨h, hm⟩ := h
  subst hm
  have J16 : ∀ (y_3 : Int32), w_X10_keep_J16 p0 mm Q9 y_3 → V p l e rm_X10_keep s m args below meth c QQ 2 A 0 0 (Rep TT D cA ad false GM mm) 16 [(0, .ref (ad 30 1)), (1, .int p0)] [.int y_3, .ref (ad 30 1)] := by
    intro y_3 h
    unfold w_X10_keep_J16 at h
    refine q_calli (q_runV X hK hZ zo (gm (t := 30) (by decide) (ok1 (t := 30) (Nat.le_of_ble_eq_true rfl))) rfl rfl [.int y_3] [] rfl rfl (Nat.le_of_ble_eq_true rfl) dX10_keep_16 ⟨Nat.le_of_ble_eq_true rfl, Nat.le_of_ble_eq_true rfl⟩ (c_X10_refused ax y_3 mm _ h) rfl rfl (gV kw_7_126 kw_7_128 ks_95 kw_1_11 kw_7_129) hy_X10_refused ⟨Nat.le_of_ble_eq_true rfl, Nat.le_of_ble_eq_true rfl⟩) (fun r_4 m_5 h => ?_)
    refine q_if_eq (tgt := 24) X dX10_keep_19 (by decide) (fun c_6 => ?_) (fun c_6 => ?_)
    · have h := h.1 c_6
      refine q_aload_n (j := 0) X dX10_keep_24 rfl rfl ?_
      refine q_get (k := 3) (v := .ref (ad 32 1)) X hK rfl rfl (Nat.le_of_ble_eq_true rfl) inTX10 (gm (t := 30) (by decide) (ok1 (t := 30) (Nat.le_of_ble_eq_true rfl))) kw_7_10 rfl (rv_nn (a := ad 32) (r := 1) (ok1 (t := 32) (Nat.le_of_ble_eq_true rfl)).1) dX10_keep_25 ?_
      refine q_iconst (v := 0) X dX10_keep_28 (by decide) ?_
      refine q_aload_n (j := 0) X dX10_keep_29 rfl rfl ?_
      refine q_get (k := 6) (v := .ref (ad 34 1)) X hK rfl rfl (Nat.le_of_ble_eq_true rfl) inTX10 (gm (t := 30) (by decide) (ok1 (t := 30) (Nat.le_of_ble_eq_true rfl))) kw_7_13 rfl (rv_nn (a := ad 34) (r := 1) (ok1 (t := 34) (Nat.le_of_ble_eq_true rfl)).1) dX10_keep_30 ?_
      refine q_sipush (v := 246) X dX10_keep_33 (by decide) ?_
      refine q_iload_n (j := 1) X dX10_keep_36 rfl rfl ?_
      refine q_imul X dX10_keep_37 ?_
      refine q_callv (q_runS X hK hZ zo [.ref (ad 32 1), .int 0, .ref (ad 34 1), .int (246 * p0)] [] rfl rfl (Nat.le_of_ble_eq_true rfl) dX10_keep_38 ⟨Nat.le_of_ble_eq_true rfl, Nat.le_of_ble_eq_true rfl⟩ (c_X10_copyState_32_34 ax 0 (246 * p0) m_5 _ h) rfl rfl (gS kw_7_134 kw_7_135 kw_1_11 kw_7_136) hy_X10_copyState.2 ⟨Nat.le_of_ble_eq_true rfl, Nat.le_of_ble_eq_true rfl⟩) (fun m_8 h => ?_)
      refine q_aload_n (j := 0) X dX10_keep_41 rfl rfl ?_
      refine q_get (k := 7) (v := .ref (ad 35 1)) X hK rfl rfl (Nat.le_of_ble_eq_true rfl) inTX10 (gm (t := 30) (by decide) (ok1 (t := 30) (Nat.le_of_ble_eq_true rfl))) kw_7_14 rfl (rv_nn (a := ad 35) (r := 1) (ok1 (t := 35) (Nat.le_of_ble_eq_true rfl)).1) dX10_keep_42 ?_
      refine q_iload_n (j := 1) X dX10_keep_45 rfl rfl ?_
      refine q_iconst (v := 1) X dX10_keep_46 (by decide) ?_
      obtain ⟨b_9, h⟩ := h
      refine q_zast (t := 35) (i := 1) (jn := p0.toNatClampNeg) X ax hK rfl rfl (gm (t := 35) (by decide) (ok1 (t := 35) (Nat.le_of_ble_eq_true rfl))) rfl b_9 rfl (Or.inr rfl) rfl dX10_keep_47 ?_
      refine q_nmP (fun m_10 em_10 => ?_)
      have h := h m_10 em_10
      refine q_aload_n (j := 0) X dX10_keep_48 rfl rfl ?_
      refine q_get (k := 3) (v := .ref (ad 32 1)) X hK rfl rfl (Nat.le_of_ble_eq_true rfl) inTX10 (gm (t := 30) (by decide) (ok1 (t := 30) (Nat.le_of_ble_eq_true rfl))) kw_7_10 rfl (rv_nn (a := ad 32) (r := 1) (ok1 (t := 32) (Nat.le_of_ble_eq_true rfl)).1) dX10_keep_49 ?_
      refine q_bipush (v := 117) X dX10_keep_52 (by decide) ?_
      refine q_iald (t := 32) (i := 1) (jn := 117) (v := .int (m_10.1 32 1 117)) X hK rfl rfl (gm (t := 32) (by decide) (ok1 (t := 32) (Nat.le_of_ble_eq_true rfl))) rfl (vpl (by decide +kernel)) (by decide +kernel) rfl dX10_keep_54 ?_
      exact hE _ _ _ _ dX10_keep_55 h
    · have h := h.2 c_6
      refine q_iconst (v := 0) X dX10_keep_22 (by decide) ?_
      exact hE _ _ _ _ dX10_keep_23 h
  refine q_if_eq (tgt := 15) X dX10_keep_8 (by decide) (fun c_11 => ?_) (fun c_11 => ?_)
  · have h := h.1 c_11
    refine q_iconst (v := 1) X dX10_keep_15 (by decide) ?_
    refine q_sub [0, 1] rfl ?_
    exact J16 1 h
  · have h := h.2 c_11
    refine q_iconst (v := 0) X dX10_keep_11 (by decide) ?_
    refine q_goto (tgt := 16) X dX10_keep_12 (by decide) ?_
    refine q_sub [0, 1] rfl ?_
    exact J16 0 h
theorem dX10_goBack_0 : decode cX10_goBack 0 = .ok (.aload_n 0, 1) := by decide +kernel
theorem dX10_goBack_1 : decode cX10_goBack 1 = .ok (.iload_n 1, 1) := by decide +kernel
theorem dX10_goBack_2 : decode cX10_goBack 2 = .ok (.i2l, 1) := by decide +kernel
theorem dX10_goBack_3 : decode cX10_goBack 3 = .ok (.lconst 0, 1) := by decide +kernel
theorem dX10_goBack_4 : decode cX10_goBack 4 = .ok (.lconst 1, 1) := by decide +kernel
theorem dX10_goBack_5 : decode cX10_goBack 5 = .ok (.invokestatic 35, 3) := by decide +kernel
theorem dX10_goBack_8 : decode cX10_goBack 8 = .ok (.ifCond .ne 7, 3) := by decide +kernel
theorem dX10_goBack_11 : decode cX10_goBack 11 = .ok (.iconst 1, 1) := by decide +kernel
theorem dX10_goBack_12 : decode cX10_goBack 12 = .ok (.goto 17, 3) := by decide +kernel
theorem dX10_goBack_15 : decode cX10_goBack 15 = .ok (.aload_n 0, 1) := by decide +kernel
theorem dX10_goBack_16 : decode cX10_goBack 16 = .ok (.getfield 22, 3) := by decide +kernel
theorem dX10_goBack_19 : decode cX10_goBack 19 = .ok (.iload_n 1, 1) := by decide +kernel
theorem dX10_goBack_20 : decode cX10_goBack 20 = .ok (.baload, 1) := by decide +kernel
theorem dX10_goBack_21 : decode cX10_goBack 21 = .ok (.ifCond .eq 7, 3) := by decide +kernel
theorem dX10_goBack_24 : decode cX10_goBack 24 = .ok (.iconst 0, 1) := by decide +kernel
theorem dX10_goBack_25 : decode cX10_goBack 25 = .ok (.goto 4, 3) := by decide +kernel
theorem dX10_goBack_28 : decode cX10_goBack 28 = .ok (.iconst 2, 1) := by decide +kernel
theorem dX10_goBack_29 : decode cX10_goBack 29 = .ok (.invokevirtual 147, 3) := by decide +kernel
theorem dX10_goBack_32 : decode cX10_goBack 32 = .ok (.ifCond .eq 5, 3) := by decide +kernel
theorem dX10_goBack_35 : decode cX10_goBack 35 = .ok (.iconst 0, 1) := by decide +kernel
theorem dX10_goBack_36 : decode cX10_goBack 36 = .ok (.ireturn, 1) := by decide +kernel
theorem dX10_goBack_37 : decode cX10_goBack 37 = .ok (.aload_n 0, 1) := by decide +kernel
theorem dX10_goBack_38 : decode cX10_goBack 38 = .ok (.invokevirtual 150, 3) := by decide +kernel
theorem dX10_goBack_41 : decode cX10_goBack 41 = .ok (.aload_n 0, 1) := by decide +kernel
theorem dX10_goBack_42 : decode cX10_goBack 42 = .ok (.getfield 19, 3) := by decide +kernel
theorem dX10_goBack_45 : decode cX10_goBack 45 = .ok (.sipush 246, 3) := by decide +kernel
theorem dX10_goBack_48 : decode cX10_goBack 48 = .ok (.iload_n 1, 1) := by decide +kernel
theorem dX10_goBack_49 : decode cX10_goBack 49 = .ok (.imul, 1) := by decide +kernel
theorem dX10_goBack_50 : decode cX10_goBack 50 = .ok (.aload_n 0, 1) := by decide +kernel
theorem dX10_goBack_51 : decode cX10_goBack 51 = .ok (.getfield 13, 3) := by decide +kernel
theorem dX10_goBack_54 : decode cX10_goBack 54 = .ok (.iconst 0, 1) := by decide +kernel
theorem dX10_goBack_55 : decode cX10_goBack 55 = .ok (.invokestatic 113, 3) := by decide +kernel
theorem dX10_goBack_58 : decode cX10_goBack 58 = .ok (.aload_n 0, 1) := by decide +kernel
theorem dX10_goBack_59 : decode cX10_goBack 59 = .ok (.getfield 13, 3) := by decide +kernel
theorem dX10_goBack_62 : decode cX10_goBack 62 = .ok (.bipush 117, 2) := by decide +kernel
theorem dX10_goBack_64 : decode cX10_goBack 64 = .ok (.iaload, 1) := by decide +kernel
theorem dX10_goBack_65 : decode cX10_goBack 65 = .ok (.ireturn, 1) := by decide +kernel
def w_X10_goBack_J29 (p0 : Int32) (mm : Mm) (Q9 : Int32 → Mm → Prop) (y_3 : Int32) : Prop :=
  w_X10_refused y_3 mm (fun (r_4 : Int32) (m_5 : Mm) => ((r_4 = 0 → w_X10_saves m_5 (fun (m_8 : Mm) => w_X10_copyState_34_32 (246 * p0) 0 m_8 (fun (m_10 : Mm) => Q9 (m_10.1 32 1 117) m_10))) ∧
  (¬ r_4 = 0 → Q9 0 m_5)))
def w_X10_goBack (p0 : Int32) (mm : Mm) (Q9 : Int32 → Mm → Prop) : Prop :=
  w_X10_in (Int32.toInt64 p0) (0 : Int64) (1 : Int64) mm (fun (r_1 : Int32) => ((¬ r_1 = 0 → vp_in p0 2 ∧ ((((mm.1 35 1 p0.toNatClampNeg) = 0 → w_X10_goBack_J29 p0 mm Q9 2) ∧
  (¬ (mm.1 35 1 p0.toNatClampNeg) = 0 → w_X10_goBack_J29 p0 mm Q9 0)))) ∧
  (r_1 = 0 → w_X10_goBack_J29 p0 mm Q9 1)))
def rm_X10_goBack : Room := { frames := 2, cells := 0, slots := 0, locals := 45 }
theorem hy_X10_goBack : yX10_goBack.cls = RX10 ∧ yX10_goBack.cls ≠ "java/lang/invoke/MethodHandle" ∧ yX10_goBack.cls ≠ "java/lang/invoke/VarHandle" ∧ (parseMethodDescriptor yX10_goBack.desc).map (fun d => d.parameters.length) = some 1 := by decide +kernel
set_option maxRecDepth 100000 in
set_option maxHeartbeats 4000000 in
theorem c_X10_goBack {l : Launch} {D : va_G} {cA : Nat → ClassId} {ad : Nat → Nat → Nat} {A : Nat → Prop} (ax : Ax ad GM A) (p0 : Int32) (mm : Mm) (Q9 : Int32 → Mm → Prop) (h : w_X10_goBack p0 mm Q9) : Met l yX10_goBack (.code yX10_goBack cX10_goBack 2 (some .int) :: TG) rm_X10_goBack (PcM TT D cA ad false GM (ZM) [.ref (ad 30 1), .int p0] mm) (AnsI TT D cA ad false GM A Q9) 0 0 A := by
  have zo := ZM_ok A
  unfold w_X10_goBack at h
  refine enterI pl_X10 ⟨rfl, rfl⟩ rfl (Nat.le_of_ble_eq_true rfl) ?_
  intro p e s m args below meth c QQ X hK hZ hnm hE
  refine q_aload_n (j := 0) X dX10_goBack_0 rfl rfl ?_
  refine q_iload_n (j := 1) X dX10_goBack_1 rfl rfl ?_
  refine q_i2l X dX10_goBack_2 ?_
  refine q_lconst (v := 0) X dX10_goBack_3 (by decide) ?_
  refine q_lconst (v := 1) X dX10_goBack_4 (by decide) ?_
  refine q_calli (q_runS X hK hZ zo [.long (Int32.toInt64 p0), .long (0 : Int64), .long (1 : Int64)] [.ref (ad 30 1)] rfl rfl (Nat.le_of_ble_eq_true rfl) dX10_goBack_5 ⟨Nat.le_of_ble_eq_true rfl, Nat.le_of_ble_eq_true rfl⟩ (c_X10_in ax (Int32.toInt64 p0) (0 : Int64) (1 : Int64) mm _ h) rfl rfl (gS kw_7_71 kw_7_72 kw_1_11 kw_7_73) hy_X10_in.2 ⟨Nat.le_of_ble_eq_true rfl, Nat.le_of_ble_eq_true rfl⟩) (fun r_1 m_2 h => ?_)
  obtain ⟨h, hm⟩ := h
  subst hm
  have J29 : ∀ (y_3 : Int32), w_X10_goBack_J29 p0 mm Q9 y_3 → V p l e rm_X10_goBack s m args below meth c QQ 2 A 0 0 (Rep TT D cA ad false GM mm) 29 [(0, .ref (ad 30 1)), (1, .int p0)] [.int y_3, .ref (ad 30 1)] := by
    intro y_3 h
    unfold w_X10_goBack_J29 at h
    refine q_calli (q_runV X hK hZ zo (gm (t := 30) (by decide) (ok1 (t := 30) (Nat.le_of_ble_eq_true rfl))) rfl rfl [.int y_3] [] rfl rfl (Nat.le_of_ble_eq_true rfl) dX10_goBack_29 ⟨Nat.le_of_ble_eq_true rfl, Nat.le_of_ble_eq_true rfl⟩ (c_X10_refused ax y_3 mm _ h) rfl rfl (gV kw_7_126 kw_7_128 ks_95 kw_1_11 kw_7_129) hy_X10_refused ⟨Nat.le_of_ble_eq_true rfl, Nat.le_of_ble_eq_true rfl⟩) (fun r_4 m_5 h => ?_)
    refine q_if_eq (tgt := 37) X dX10_goBack_32 (by decide) (fun c_6 => ?_) (fun c_6 => ?_)
    · have h := h.1 c_6
      refine q_aload_n (j := 0) X dX10_goBack_37 rfl rfl ?_
      refine q_callv (q_runV X hK hZ zo (gm (t := 30) (by decide) (ok1 (t := 30) (Nat.le_of_ble_eq_true rfl))) rfl rfl [] [] rfl rfl (Nat.le_of_ble_eq_true rfl) dX10_goBack_38 ⟨Nat.le_of_ble_eq_true rfl, Nat.le_of_ble_eq_true rfl⟩ (c_X10_saves ax m_5 _ h) rfl rfl (gV kw_7_130 kw_7_132 ks_96 kw_1_11 kw_7_133) hy_X10_saves ⟨Nat.le_of_ble_eq_true rfl, Nat.le_of_ble_eq_true rfl⟩) (fun m_8 h => ?_)
      refine q_aload_n (j := 0) X dX10_goBack_41 rfl rfl ?_
      refine q_get (k := 6) (v := .ref (ad 34 1)) X hK rfl rfl (Nat.le_of_ble_eq_true rfl) inTX10 (gm (t := 30) (by decide) (ok1 (t := 30) (Nat.le_of_ble_eq_true rfl))) kw_7_13 rfl (rv_nn (a := ad 34) (r := 1) (ok1 (t := 34) (Nat.le_of_ble_eq_true rfl)).1) dX10_goBack_42 ?_
      refine q_sipush (v := 246) X dX10_goBack_45 (by decide) ?_
      refine q_iload_n (j := 1) X dX10_goBack_48 rfl rfl ?_
      refine q_imul X dX10_goBack_49 ?_
      refine q_aload_n (j := 0) X dX10_goBack_50 rfl rfl ?_
      refine q_get (k := 3) (v := .ref (ad 32 1)) X hK rfl rfl (Nat.le_of_ble_eq_true rfl) inTX10 (gm (t := 30) (by decide) (ok1 (t := 30) (Nat.le_of_ble_eq_true rfl))) kw_7_10 rfl (rv_nn (a := ad 32) (r := 1) (ok1 (t := 32) (Nat.le_of_ble_eq_true rfl)).1) dX10_goBack_51 ?_
      refine q_iconst (v := 0) X dX10_goBack_54 (by decide) ?_
      refine q_callv (q_runS X hK hZ zo [.ref (ad 34 1), .int (246 * p0), .ref (ad 32 1), .int 0] [] rfl rfl (Nat.le_of_ble_eq_true rfl) dX10_goBack_55 ⟨Nat.le_of_ble_eq_true rfl, Nat.le_of_ble_eq_true rfl⟩ (c_X10_copyState_34_32 ax (246 * p0) 0 m_8 _ h) rfl rfl (gS kw_7_134 kw_7_135 kw_1_11 kw_7_136) hy_X10_copyState.2 ⟨Nat.le_of_ble_eq_true rfl, Nat.le_of_ble_eq_true rfl⟩) (fun m_10 h => ?_)
      refine q_aload_n (j := 0) X dX10_goBack_58 rfl rfl ?_
      refine q_get (k := 3) (v := .ref (ad 32 1)) X hK rfl rfl (Nat.le_of_ble_eq_true rfl) inTX10 (gm (t := 30) (by decide) (ok1 (t := 30) (Nat.le_of_ble_eq_true rfl))) kw_7_10 rfl (rv_nn (a := ad 32) (r := 1) (ok1 (t := 32) (Nat.le_of_ble_eq_true rfl)).1) dX10_goBack_59 ?_
      refine q_bipush (v := 117) X dX10_goBack_62 (by decide) ?_
      refine q_iald (t := 32) (i := 1) (jn := 117) (v := .int (m_10.1 32 1 117)) X hK rfl rfl (gm (t := 32) (by decide) (ok1 (t := 32) (Nat.le_of_ble_eq_true rfl))) rfl (vpl (by decide +kernel)) (by decide +kernel) rfl dX10_goBack_64 ?_
      exact hE _ _ _ _ dX10_goBack_65 h
    · have h := h.2 c_6
      refine q_iconst (v := 0) X dX10_goBack_35 (by decide) ?_
      exact hE _ _ _ _ dX10_goBack_36 h
  refine q_if_ne (tgt := 15) X dX10_goBack_8 (by decide) (fun c_11 => ?_) (fun c_11 => ?_)
  · have h := h.1 c_11
    refine q_aload_n (j := 0) X dX10_goBack_15 rfl rfl ?_
    refine q_get (k := 7) (v := .ref (ad 35 1)) X hK rfl rfl (Nat.le_of_ble_eq_true rfl) inTX10 (gm (t := 30) (by decide) (ok1 (t := 30) (Nat.le_of_ble_eq_true rfl))) kw_7_14 rfl (rv_nn (a := ad 35) (r := 1) (ok1 (t := 35) (Nat.le_of_ble_eq_true rfl)).1) dX10_goBack_16 ?_
    refine q_iload_n (j := 1) X dX10_goBack_19 rfl rfl ?_
    obtain ⟨b_12, h⟩ := h
    refine q_zald (t := 35) (i := 1) (jn := p0.toNatClampNeg) (v := .int (mm.1 35 1 p0.toNatClampNeg)) X hK rfl rfl (gm (t := 35) (by decide) (ok1 (t := 35) (Nat.le_of_ble_eq_true rfl))) rfl b_12 rfl rfl dX10_goBack_20 ?_
    refine q_if_eq (tgt := 28) X dX10_goBack_21 (by decide) (fun c_13 => ?_) (fun c_13 => ?_)
    · have h := h.1 c_13
      refine q_iconst (v := 2) X dX10_goBack_28 (by decide) ?_
      refine q_sub [0, 1] rfl ?_
      exact J29 2 h
    · have h := h.2 c_13
      refine q_iconst (v := 0) X dX10_goBack_24 (by decide) ?_
      refine q_goto (tgt := 29) X dX10_goBack_25 (by decide) ?_
      refine q_sub [0, 1] rfl ?_
      exact J29 0 h
  · have h := h.2 c_11
    refine q_iconst (v := 1) X dX10_goBack_11 (by decide) ?_
    refine q_goto (tgt := 29) X dX10_goBack_12 (by decide) ?_
    refine q_sub [0, 1] rfl ?_
    exact J29 1 h
