theorem kw_2_124 : Jvm.Cond.methodLink "BondWarehouseLaw" (454 : Nat) ({ cls := "BondWarehouseLaw", name := "cell", desc := "([II)I" } : Jvm.MethodName) ∈ TG := tg_2 124 rfl rfl
theorem kw_2_125 : Jvm.Cond.static ({ cls := "BondWarehouseLaw", name := "cell", desc := "([II)I" } : Jvm.MethodName) ∈ TG := tg_2 125 rfl rfl
theorem kw_2_126 : Jvm.Cond.code ({ cls := "BondWarehouseLaw", name := "cell", desc := "([II)I" } : Jvm.MethodName) method_65_code (2 : Nat) (Option.some Jvm.ClassFile.FieldType.int) ∈ TG := tg_2 126 rfl rfl
theorem kw_6_218 : Jvm.Cond.methodLink "BondWarehouseLaw" (458 : Nat) ({ cls := "BondWarehouseLaw", name := "act", desc := "(LBondWarehouse;I)I" } : Jvm.MethodName) ∈ TG := tg_6 218 rfl rfl
theorem kw_6_219 : Jvm.Cond.static ({ cls := "BondWarehouseLaw", name := "act", desc := "(LBondWarehouse;I)I" } : Jvm.MethodName) ∈ TG := tg_6 219 rfl rfl
theorem kw_6_220 : Jvm.Cond.code ({ cls := "BondWarehouseLaw", name := "act", desc := "(LBondWarehouse;I)I" } : Jvm.MethodName) method_69_code (7 : Nat) (Option.some Jvm.ClassFile.FieldType.int) ∈ TG := tg_6 220 rfl rfl
theorem kw_7_16 : Jvm.Cond.constant "BondWarehouseLaw" (461 : Nat) (100000 : Int32) ∈ TG := tg_7 16 rfl rfl
theorem kw_2_129 : Jvm.Cond.methodLink "BondWarehouseLaw" (462 : Nat) ({ cls := "BondWarehouseLaw", name := "refuses", desc := "(LBondWarehouse;I)Z" } : Jvm.MethodName) ∈ TG := tg_2 129 rfl rfl
theorem kw_2_130 : Jvm.Cond.static ({ cls := "BondWarehouseLaw", name := "refuses", desc := "(LBondWarehouse;I)Z" } : Jvm.MethodName) ∈ TG := tg_2 130 rfl rfl
theorem kw_2_131 : Jvm.Cond.code ({ cls := "BondWarehouseLaw", name := "refuses", desc := "(LBondWarehouse;I)Z" } : Jvm.MethodName) method_67_code (13 : Nat) (Option.some Jvm.ClassFile.FieldType.boolean) ∈ TG := tg_2 131 rfl rfl
theorem kw_6_221 : Jvm.Cond.methodLink "BondWarehouseLaw" (466 : Nat) ({ cls := "BondWarehouseLaw", name := "alike", desc := "(LBondWarehouse;LBondWarehouse;)Z" } : Jvm.MethodName) ∈ TG := tg_6 221 rfl rfl
theorem kw_6_222 : Jvm.Cond.static ({ cls := "BondWarehouseLaw", name := "alike", desc := "(LBondWarehouse;LBondWarehouse;)Z" } : Jvm.MethodName) ∈ TG := tg_6 222 rfl rfl
theorem kw_6_223 : Jvm.Cond.code ({ cls := "BondWarehouseLaw", name := "alike", desc := "(LBondWarehouse;LBondWarehouse;)Z" } : Jvm.MethodName) method_70_code (6 : Nat) (Option.some Jvm.ClassFile.FieldType.boolean) ∈ TG := tg_6 223 rfl rfl
theorem kw_6_171 : Jvm.Cond.methodLink "BondWarehouseLaw" (470 : Nat) ({ cls := "BondWarehouseLaw", name := "holds", desc := "(LBondWarehouse;I)Z" } : Jvm.MethodName) ∈ TG := tg_6 171 rfl rfl
theorem kw_6_172 : Jvm.Cond.static ({ cls := "BondWarehouseLaw", name := "holds", desc := "(LBondWarehouse;I)Z" } : Jvm.MethodName) ∈ TG := tg_6 172 rfl rfl
theorem kw_6_173 : Jvm.Cond.code ({ cls := "BondWarehouseLaw", name := "holds", desc := "(LBondWarehouse;I)Z" } : Jvm.MethodName) method_68_code (12 : Nat) (Option.some Jvm.ClassFile.FieldType.boolean) ∈ TG := tg_6 173 rfl rfl
theorem kw_7_4 : Jvm.Cond.methodLink "BondWarehouseLaw" (473 : Nat) ({ cls := "BondWarehouseLaw", name := "leaves", desc := "(LBondWarehouse;LBondWarehouse;I)Z" } : Jvm.MethodName) ∈ TG := tg_7 4 rfl rfl
theorem kw_7_5 : Jvm.Cond.static ({ cls := "BondWarehouseLaw", name := "leaves", desc := "(LBondWarehouse;LBondWarehouse;I)Z" } : Jvm.MethodName) ∈ TG := tg_7 5 rfl rfl
theorem kw_7_6 : Jvm.Cond.code ({ cls := "BondWarehouseLaw", name := "leaves", desc := "(LBondWarehouse;LBondWarehouse;I)Z" } : Jvm.MethodName) method_73_code (12 : Nat) (Option.some Jvm.ClassFile.FieldType.boolean) ∈ TG := tg_7 6 rfl rfl
theorem kw_7_13 : Jvm.Cond.methodLink "BondWarehouseLaw" (477 : Nat) ({ cls := "BondWarehouseLaw", name := "weighs", desc := "(LBondWarehouse;LBondWarehouse;I)Z" } : Jvm.MethodName) ∈ TG := tg_7 13 rfl rfl
theorem kw_7_14 : Jvm.Cond.static ({ cls := "BondWarehouseLaw", name := "weighs", desc := "(LBondWarehouse;LBondWarehouse;I)Z" } : Jvm.MethodName) ∈ TG := tg_7 14 rfl rfl
theorem kw_7_15 : Jvm.Cond.code ({ cls := "BondWarehouseLaw", name := "weighs", desc := "(LBondWarehouse;LBondWarehouse;I)Z" } : Jvm.MethodName) method_74_code (13 : Nat) (Option.some Jvm.ClassFile.FieldType.boolean) ∈ TG := tg_7 15 rfl rfl
theorem kw_2_127 : Jvm.Cond.constant "BondWarehouseLaw" (382 : Nat) (15520591 : Int32) ∈ TG := tg_2 127 rfl rfl
theorem kw_2_128 : Jvm.Cond.constant "BondWarehouseLaw" (383 : Nat) (2147483647 : Int32) ∈ TG := tg_2 128 rfl rfl
theorem dL_cell_0 : decode cL_cell 0 = .ok (.iload_n 1, 1) := by decide +kernel
theorem dL_cell_1 : decode cL_cell 1 = .ok (.aload_n 0, 1) := by decide +kernel
theorem dL_cell_2 : decode cL_cell 2 = .ok (.arraylength, 1) := by decide +kernel
theorem dL_cell_3 : decode cL_cell 3 = .ok (.if_icmp .ge 9, 3) := by decide +kernel
theorem dL_cell_6 : decode cL_cell 6 = .ok (.aload_n 0, 1) := by decide +kernel
theorem dL_cell_7 : decode cL_cell 7 = .ok (.iload_n 1, 1) := by decide +kernel
theorem dL_cell_8 : decode cL_cell 8 = .ok (.iaload, 1) := by decide +kernel
theorem dL_cell_9 : decode cL_cell 9 = .ok (.goto 14, 3) := by decide +kernel
theorem dL_cell_12 : decode cL_cell 12 = .ok (.ldc_w 382, 3) := by decide +kernel
theorem dL_cell_15 : decode cL_cell 15 = .ok (.iload_n 1, 1) := by decide +kernel
theorem dL_cell_16 : decode cL_cell 16 = .ok (.iconst 3, 1) := by decide +kernel
theorem dL_cell_17 : decode cL_cell 17 = .ok (.iadd, 1) := by decide +kernel
theorem dL_cell_18 : decode cL_cell 18 = .ok (.imul, 1) := by decide +kernel
theorem dL_cell_19 : decode cL_cell 19 = .ok (.sipush 12641, 3) := by decide +kernel
theorem dL_cell_22 : decode cL_cell 22 = .ok (.iadd, 1) := by decide +kernel
theorem dL_cell_23 : decode cL_cell 23 = .ok (.ldc_w 383, 3) := by decide +kernel
theorem dL_cell_26 : decode cL_cell 26 = .ok (.iand, 1) := by decide +kernel
theorem dL_cell_27 : decode cL_cell 27 = .ok (.ireturn, 1) := by decide +kernel
theorem dL_law_0 : decode cL_law 0 = .ok (.new 8, 3) := by decide +kernel
theorem dL_law_3 : decode cL_law 3 = .ok (.dup, 1) := by decide +kernel
theorem dL_law_4 : decode cL_law 4 = .ok (.invokespecial 453, 3) := by decide +kernel
theorem dL_law_7 : decode cL_law 7 = .ok (.astore_n 1, 1) := by decide +kernel
theorem dL_law_8 : decode cL_law 8 = .ok (.new 8, 3) := by decide +kernel
theorem dL_law_11 : decode cL_law 11 = .ok (.dup, 1) := by decide +kernel
theorem dL_law_12 : decode cL_law 12 = .ok (.invokespecial 453, 3) := by decide +kernel
theorem dL_law_15 : decode cL_law 15 = .ok (.astore_n 2, 1) := by decide +kernel
theorem dL_law_16 : decode cL_law 16 = .ok (.bipush 16, 2) := by decide +kernel
theorem dL_law_18 : decode cL_law 18 = .ok (.aload_n 0, 1) := by decide +kernel
theorem dL_law_19 : decode cL_law 19 = .ok (.iconst 0, 1) := by decide +kernel
theorem dL_law_20 : decode cL_law 20 = .ok (.invokestatic 454, 3) := by decide +kernel
theorem dL_law_23 : decode cL_law 23 = .ok (.bipush 25, 2) := by decide +kernel
theorem dL_law_25 : decode cL_law 25 = .ok (.irem, 1) := by decide +kernel
theorem dL_law_26 : decode cL_law 26 = .ok (.iadd, 1) := by decide +kernel
theorem dL_law_27 : decode cL_law 27 = .ok (.istore_n 3, 1) := by decide +kernel
theorem dL_law_28 : decode cL_law 28 = .ok (.iconst 1, 1) := by decide +kernel
theorem dL_law_29 : decode cL_law 29 = .ok (.istore 4, 2) := by decide +kernel
theorem dL_law_31 : decode cL_law 31 = .ok (.iconst 0, 1) := by decide +kernel
theorem dL_law_32 : decode cL_law 32 = .ok (.istore 5, 2) := by decide +kernel
theorem dL_law_34 : decode cL_law 34 = .ok (.iload 5, 2) := by decide +kernel
theorem dL_law_36 : decode cL_law 36 = .ok (.iload_n 3, 1) := by decide +kernel
theorem dL_law_37 : decode cL_law 37 = .ok (.if_icmp .ge 142, 3) := by decide +kernel
theorem dL_law_40 : decode cL_law 40 = .ok (.iload 4, 2) := by decide +kernel
theorem dL_law_42 : decode cL_law 42 = .ok (.ifCond .eq 137, 3) := by decide +kernel
theorem dL_law_45 : decode cL_law 45 = .ok (.aload_n 0, 1) := by decide +kernel
theorem dL_law_46 : decode cL_law 46 = .ok (.iconst 1, 1) := by decide +kernel
theorem dL_law_47 : decode cL_law 47 = .ok (.iload 5, 2) := by decide +kernel
theorem dL_law_49 : decode cL_law 49 = .ok (.iadd, 1) := by decide +kernel
theorem dL_law_50 : decode cL_law 50 = .ok (.invokestatic 454, 3) := by decide +kernel
theorem dL_law_53 : decode cL_law 53 = .ok (.istore 6, 2) := by decide +kernel
theorem dL_law_55 : decode cL_law 55 = .ok (.aload_n 1, 1) := by decide +kernel
theorem dL_law_56 : decode cL_law 56 = .ok (.iload 6, 2) := by decide +kernel
theorem dL_law_58 : decode cL_law 58 = .ok (.invokestatic 458, 3) := by decide +kernel
theorem dL_law_61 : decode cL_law 61 = .ok (.istore 7, 2) := by decide +kernel
theorem dL_law_63 : decode cL_law 63 = .ok (.aload_n 2, 1) := by decide +kernel
theorem dL_law_64 : decode cL_law 64 = .ok (.iload 6, 2) := by decide +kernel
theorem dL_law_66 : decode cL_law 66 = .ok (.ldc_w 461, 3) := by decide +kernel
theorem dL_law_69 : decode cL_law 69 = .ok (.irem, 1) := by decide +kernel
theorem dL_law_70 : decode cL_law 70 = .ok (.invokestatic 462, 3) := by decide +kernel
theorem dL_law_73 : decode cL_law 73 = .ok (.ifCond .eq 97, 3) := by decide +kernel
theorem dL_law_76 : decode cL_law 76 = .ok (.aload_n 2, 1) := by decide +kernel
theorem dL_law_77 : decode cL_law 77 = .ok (.iload 6, 2) := by decide +kernel
theorem dL_law_79 : decode cL_law 79 = .ok (.invokestatic 458, 3) := by decide +kernel
theorem dL_law_82 : decode cL_law 82 = .ok (.iload 7, 2) := by decide +kernel
theorem dL_law_84 : decode cL_law 84 = .ok (.if_icmp .ne 86, 3) := by decide +kernel
theorem dL_law_87 : decode cL_law 87 = .ok (.aload_n 2, 1) := by decide +kernel
theorem dL_law_88 : decode cL_law 88 = .ok (.iload 6, 2) := by decide +kernel
theorem dL_law_90 : decode cL_law 90 = .ok (.sipush 1000, 3) := by decide +kernel
theorem dL_law_93 : decode cL_law 93 = .ok (.irem, 1) := by decide +kernel
theorem dL_law_94 : decode cL_law 94 = .ok (.invokestatic 462, 3) := by decide +kernel
theorem dL_law_97 : decode cL_law 97 = .ok (.ifCond .eq 73, 3) := by decide +kernel
theorem dL_law_100 : decode cL_law 100 = .ok (.aload_n 1, 1) := by decide +kernel
theorem dL_law_101 : decode cL_law 101 = .ok (.aload_n 2, 1) := by decide +kernel
theorem dL_law_102 : decode cL_law 102 = .ok (.invokestatic 466, 3) := by decide +kernel
theorem dL_law_105 : decode cL_law 105 = .ok (.ifCond .eq 65, 3) := by decide +kernel
theorem dL_law_108 : decode cL_law 108 = .ok (.iload 5, 2) := by decide +kernel
theorem dL_law_110 : decode cL_law 110 = .ok (.iconst 2, 1) := by decide +kernel
theorem dL_law_111 : decode cL_law 111 = .ok (.irem, 1) := by decide +kernel
theorem dL_law_112 : decode cL_law 112 = .ok (.ifCond .ne 17, 3) := by decide +kernel
theorem dL_law_115 : decode cL_law 115 = .ok (.aload_n 1, 1) := by decide +kernel
theorem dL_law_116 : decode cL_law 116 = .ok (.iload 6, 2) := by decide +kernel
theorem dL_law_118 : decode cL_law 118 = .ok (.iconst 3, 1) := by decide +kernel
theorem dL_law_119 : decode cL_law 119 = .ok (.idiv, 1) := by decide +kernel
theorem dL_law_120 : decode cL_law 120 = .ok (.invokestatic 470, 3) := by decide +kernel
theorem dL_law_123 : decode cL_law 123 = .ok (.ifCond .eq 47, 3) := by decide +kernel
theorem dL_law_126 : decode cL_law 126 = .ok (.goto 14, 3) := by decide +kernel
theorem dL_law_129 : decode cL_law 129 = .ok (.aload_n 2, 1) := by decide +kernel
theorem dL_law_130 : decode cL_law 130 = .ok (.iload 6, 2) := by decide +kernel
theorem dL_law_132 : decode cL_law 132 = .ok (.iconst 3, 1) := by decide +kernel
theorem dL_law_133 : decode cL_law 133 = .ok (.idiv, 1) := by decide +kernel
theorem dL_law_134 : decode cL_law 134 = .ok (.invokestatic 470, 3) := by decide +kernel
theorem dL_law_137 : decode cL_law 137 = .ok (.ifCond .eq 33, 3) := by decide +kernel
theorem dL_law_140 : decode cL_law 140 = .ok (.aload_n 1, 1) := by decide +kernel
theorem dL_law_141 : decode cL_law 141 = .ok (.aload_n 2, 1) := by decide +kernel
theorem dL_law_142 : decode cL_law 142 = .ok (.iload 6, 2) := by decide +kernel
theorem dL_law_144 : decode cL_law 144 = .ok (.bipush 7, 2) := by decide +kernel
theorem dL_law_146 : decode cL_law 146 = .ok (.idiv, 1) := by decide +kernel
theorem dL_law_147 : decode cL_law 147 = .ok (.invokestatic 473, 3) := by decide +kernel
theorem dL_law_150 : decode cL_law 150 = .ok (.ifCond .eq 20, 3) := by decide +kernel
theorem dL_law_153 : decode cL_law 153 = .ok (.aload_n 1, 1) := by decide +kernel
theorem dL_law_154 : decode cL_law 154 = .ok (.aload_n 2, 1) := by decide +kernel
theorem dL_law_155 : decode cL_law 155 = .ok (.iload 6, 2) := by decide +kernel
theorem dL_law_157 : decode cL_law 157 = .ok (.bipush 11, 2) := by decide +kernel
theorem dL_law_159 : decode cL_law 159 = .ok (.idiv, 1) := by decide +kernel
theorem dL_law_160 : decode cL_law 160 = .ok (.invokestatic 477, 3) := by decide +kernel
theorem dL_law_163 : decode cL_law 163 = .ok (.ifCond .eq 7, 3) := by decide +kernel
theorem dL_law_166 : decode cL_law 166 = .ok (.iconst 1, 1) := by decide +kernel
theorem dL_law_167 : decode cL_law 167 = .ok (.goto 4, 3) := by decide +kernel
theorem dL_law_170 : decode cL_law 170 = .ok (.iconst 0, 1) := by decide +kernel
theorem dL_law_171 : decode cL_law 171 = .ok (.istore 4, 2) := by decide +kernel
theorem dL_law_173 : decode cL_law 173 = .ok (.iinc 5 1, 3) := by decide +kernel
theorem dL_law_176 : decode cL_law 176 = .ok (.goto (-142), 3) := by decide +kernel
theorem dL_law_179 : decode cL_law 179 = .ok (.iload 4, 2) := by decide +kernel
theorem dL_law_181 : decode cL_law 181 = .ok (.ireturn, 1) := by decide +kernel
section CELL
variable {p : Program} {l : Launch} {e : Env} {R : Room} {s : State} {m : MethodId} {args : Array Value} {below : List Frame} {meth : Method} {c : Code} {cells slots : Nat} {Q : State → Prop}
variable {cc : ByteArray} {nL : Nat} {own : String} {D : va_G} {cA : Nat → ClassId} {ad : Bool → Nat → Nat → Nat} {A : Bool → Nat → Prop} {A0 : Nat → Prop} {Y P : Heap → Prop}
variable {g : Gh} {pc : Nat} {lv : List (Nat × Value)} {st : List Value} {b L : Nat} {xs : Nat → Int32}
/-- a number of the script -/
def cellF (L : Nat) (xs : Nat → Int32) (k : Int32) : Int32 := (if nI L ≤ k then 15520591 * (k + 3) + 12641 else xs k.toNatClampNeg) &&& 2147483647
theorem q_slenX (X : Fx p m c cc nL s args own) (hX : va_X b L xs s s.heap) (hb1 : b < s.heap.size) (hb2 : ¬ A0 b) (hd : decode cc pc = .ok (.arraylength, 1)) (k : V p l e R s m args below meth c Q nL A0 cells slots P (pc + 1) lv (.int (nI L) :: st)) : V p l e R s m args below meth c Q nL A0 cells slots P pc lv (.ref b :: st) := by
  intro H locs ls hP hS hl
  exact va_slen X.1 X.2.1 hX hb1 hb2 hS hd (k H locs ls hP hS hl)
theorem q_sldX (X : Fx p m c cc nL s args own) (hX : va_X b L xs s s.heap) (hb1 : b < s.heap.size) (hb2 : ¬ A0 b) {i : Nat} (hL : L ≤ 260) (hi : i < L) (hd : decode cc pc = .ok (.iaload, 1)) (k : V p l e R s m args below meth c Q nL A0 cells slots P (pc + 1) lv (.int (xs i) :: st)) : V p l e R s m args below meth c Q nL A0 cells slots P pc lv (.int (nI i) :: .ref b :: st) := by
  intro H locs ls hP hS hl
  have e : (nI i).toNatClampNeg = i := nI_clamp (by omega)
  have k := k H locs ls hP hS hl
  rw [← e] at k
  exact va_sld X.1 X.2.1 hX hb1 hb2 hS (nI_in (by omega) (by omega)) hd k
theorem enterC {y : MethodName} {bytes : ByteArray} {maxL : Nat} {rm : Room} {av : List Value} {lv0 : List (Nat × Value)} {B0 : State → Prop} {Qk : Int32 → Prop} (hy : plainName y.cls = true) (hlv : lv_args 0 av = lv0) (hlen : (lg_sl av).length ≤ maxL)
    (body : ∀ (p : Program) (e : Env) (s : State) (m : MethodId) (args : Array Value) (below : List Frame) (meth : Method) (c : Code) (Q : State → Prop), Fx p m c bytes maxL s args y.cls → B0 s →
      (∀ (pc : Nat) (lv : List (Nat × Value)) (r : Int32), decode bytes pc = .ok (.ireturn, 1) → Qk r → V p l e rm s m args below meth c Q maxL (fun _ => False) 0 0 (fun _ => True) pc lv [.int r]) →
      V p l e rm s m args below meth c Q maxL (fun _ => False) 0 0 (fun _ => True) 0 lv0 []) :
    Met l y (.code y bytes maxL (some .int) :: TG) rm (va_Pc av B0) (va_Qi (S := Unit) (fun r _ => Qk r) (fun _ _ => True) (fun _ => False)) 0 0 (fun _ => False) := by
  refine Met.ofW (cc := bytes) (maxL := maxL) (ret := (some .int)) hy rfl ?_
  intro p e s m args below meth c s₁ B hml hv
  obtain ⟨rfl, hB⟩ := hv
  have hts := atoms_spec (ws := .code y bytes maxL (some .int) :: TG) B.pre
  have hl := lv_entry av (n := maxL) hlen
  rw [lg_entry_eq]
  rw [hlv] at hl
  refine body p e s m _ below meth c _ ⟨B.exec, B.bytes, hml, findClass_of_methodNamed B.named, fun w hw => hts w (List.mem_cons_of_mem _ hw)⟩ hB ?_ s.heap [] _ trivial va_S.rf hl
  intro pc lv r hd hq H locs ls hP hS hl
  exact W.iret B.exec B.bytes B.returns (fun t ht hW => ⟨⟨r, (), rfl, hq, trivial⟩, hS.F ht⟩) hS.2.2 hd B.notSynchronized
def rm_L_cell : Room := { frames := 0, cells := 0, slots := 0, locals := 0 }
theorem hy_L_cell : yL_cell.cls = RL ∧ yL_cell.cls ≠ "java/lang/invoke/MethodHandle" ∧ yL_cell.cls ≠ "java/lang/invoke/VarHandle" ∧ (parseMethodDescriptor yL_cell.desc).map (fun d => d.parameters.length) = some 2 := by decide +kernel
theorem c_L_cell (hL : L ≤ 260) {k : Nat} (hk : k ≤ 40) : Met l yL_cell (.code yL_cell cL_cell 2 (some .int) :: TG) rm_L_cell (va_Pc [.ref b, .int (nI k)] (fun U => va_X b L xs U U.heap)) (va_Qi (S := Unit) (fun r _ => r = cellF L xs (nI k)) (fun _ _ => True) (fun _ => False)) 0 0 (fun _ => False) := by
  refine enterC (Qk := fun r => r = cellF L xs (nI k)) (lv0 := [(0, .ref b), (1, .int (nI k))]) pl_L rfl (Nat.le_of_ble_eq_true rfl) ?_
  intro p e s m args below meth c Q X hX hE
  have hb1 : b < s.heap.size := by
    obtain ⟨scr, h, -⟩ := hX
    exact (Array.getElem?_eq_some_iff.mp h).1
  refine q_iload_n (j := 1) X dL_cell_0 rfl rfl ?_
  refine q_aload_n (j := 0) X dL_cell_1 rfl rfl ?_
  refine q_slenX X hX hb1 (fun h => h) dL_cell_2 ?_
  refine q_icmp_ge (tgt := 12) X dL_cell_3 (by decide) (fun c9 => ?_) (fun c9 => ?_)
  · refine q_ldcw (v := 15520591) X kw_2_127 dL_cell_12 ?_
    refine q_iload_n (j := 1) X dL_cell_15 rfl rfl ?_
    refine q_iconst (v := 3) X dL_cell_16 rfl ?_
    refine q_iadd X dL_cell_17 ?_
    refine q_imul X dL_cell_18 ?_
    refine q_sipush (v := 12641) X dL_cell_19 rfl ?_
    refine q_iadd X dL_cell_22 ?_
    refine q_ldcw (v := 2147483647) X kw_2_128 dL_cell_23 ?_
    refine q_iand X dL_cell_26 ?_
    exact hE _ _ _ dL_cell_27 (by unfold cellF; rw [if_pos c9])
  · refine q_aload_n (j := 0) X dL_cell_6 rfl rfl ?_
    refine q_iload_n (j := 1) X dL_cell_7 rfl rfl ?_
    have hi : k < L := by
      by_cases z : k < L
      · exact z
      · exact absurd (nI_le (by omega) (by omega)) c9
    refine q_sldX X hX hb1 (fun h => h) hL hi dL_cell_8 ?_
    refine q_goto (tgt := 23) X dL_cell_9 (by decide) ?_
    refine q_ldcw (v := 2147483647) X kw_2_128 dL_cell_23 ?_
    refine q_iand X dL_cell_26 ?_
    exact hE _ _ _ dL_cell_27 (by unfold cellF; rw [if_neg c9, nI_clamp (by omega)])
theorem qG_cell (X : Fx p m c cc nL s args own) {index : Nat} {k : Int32} (hL : L ≤ 260) (hYX : ∀ H : Heap, Y H → va_X b L xs s H) (hYk : ∀ H H1 : Heap, H.size ≤ H1.size → (∀ q : Nat, q < H.size → H1[q]? = H[q]?) → Y H → Y H1) (h0 : 0 ≤ k) (h1 : k ≤ 40) (rest : List Value) {stk : List Value} (hstk : stk = .int k :: .ref b :: rest) (hw : (rest.map fun v => v.category).sum ≤ 8) (hd : decode cc pc = .ok (.invokestatic index, 3)) (hG5 : GoodIn TG (va_wsS own index yL_cell (.code yL_cell cL_cell 2 (some .int) :: TG))) (hR : rm_L_cell.frames + 1 ≤ R.frames ∧ 8 + (2 + 11) + rm_L_cell.locals ≤ R.locals) (hf : cells + 0 ≤ R.cells ∧ slots + 0 ≤ R.slots)
    (kk : V p l e R s m args below meth c Q nL A0 cells slots (WY D cA ad Y g) (pc + 3) lv (.int (cellF L xs k) :: rest)) : V p l e R s m args below meth c Q nL A0 cells slots (WY D cA ad Y g) pc lv stk := by
  obtain ⟨n, hn, rfl⟩ := (rng_lit 40 (by decide) ⟨h0, h1⟩).ex
  intro H locs ls hP hS hl
  have hr : va_Run p l e R s m args below meth c H locs cells slots 0 0 (F0 m pc ls stk) rest _ _ := va_runS (As := [.ref b, .int (nI n)]) (rest := rest) X (c_L_cell (b := b) (xs := xs) hL hn) (va_cwS 2 X.2.2.2.2 hG5 rfl rfl rfl hy_L_cell.2 hR) ⟨fun a U g9 mk h => ⟨h.1, va_X.moved (warm_calling U g9 mk a).alike h.2⟩, fun U hU hW9 => ⟨rfl, by show va_X b L xs U U.heap; rw [hU]; exact va_X.moved hW9.alike (hYX H hP.2)⟩⟩ rfl rfl hl.1 hstk (lv_room hw) hd hf
  refine va_calli hr hS (fun q _ h => h.elim) (fun q h => h.elim) (fun r u t9 H1 locs1 ht hal hp hb hz hk9 hS1 => ?_)
  have hkeep : ∀ q : Nat, q < H.size → H1[q]? = H[q]? := fun q h1 => hk9 q h1 (fun z => z)
  rw [hp]
  exact kk H1 locs1 ls ⟨fun b' => (hP.1 b').imp (fun mo h => ⟨Rep_keep h.1 trivial (fun t i hG => hkeep _ (Cel_lt (h.1.2 t i hG))), h.2⟩), hYk H H1 hz hkeep hP.2⟩ hS1 hl
end CELL
def w_L_law_J140 (y_7 : Int32) (r_13 : Int32) (K_9 : Int32 → Int32 → Gh → Prop) (m_34 : Gh) : Prop :=
  w_L_leaves true false (r_13 / 7) m_34 (fun (r_35 : Int32) (g_36 : Gh) => ((r_35 = 0 → ∀ x_38 : Int32, x_38 = y_7 + 1 → (K_9 0 x_38 g_36)) ∧
  (¬ r_35 = 0 → w_L_weighs true false (r_13 / 11) g_36 (fun (r_39 : Int32) (g_40 : Gh) => ((r_39 = 0 → ∀ x_42 : Int32, x_42 = y_7 + 1 → (K_9 0 x_42 g_40)) ∧
  (¬ r_39 = 0 → ∀ x_43 : Int32, x_43 = y_7 + 1 → (K_9 1 x_43 g_40)))))))
def w_L_law_B34 (L : Nat) (xs : Nat → Int32) (x_4 : Int32) (K_9 : Int32 → Int32 → Gh → Prop) (y_6 : Int32) (y_7 : Int32) (m_8 : Gh) : Prop :=
  ((x_4 ≤ y_7 → y_6 = 1) ∧
  (¬ x_4 ≤ y_7 → ((y_6 = 0 → y_6 = 1) ∧
  (¬ y_6 = 0 → (0 : Int32) ≤ (1 + y_7) ∧ (1 + y_7) ≤ (40 : Int32) ∧ ∀ r_13 : Int32, r_13 = cellF L xs (1 + y_7) → (w_L_act true r_13 m_8 (fun (r_16 : Int32) (g_17 : Gh) => w_L_refuses false (r_13 - r_13 / 100000 * 100000) g_17 (fun (r_18 : Int32) (g_19 : Gh) => ((r_18 = 0 → ∀ x_21 : Int32, x_21 = y_7 + 1 → (K_9 0 x_21 g_19)) ∧
  (¬ r_18 = 0 → w_L_act false r_13 g_19 (fun (r_22 : Int32) (g_23 : Gh) => ((¬ r_22 = r_16 → ∀ x_25 : Int32, x_25 = y_7 + 1 → (K_9 0 x_25 g_23)) ∧
  (r_22 = r_16 → w_L_refuses false (r_13 - r_13 / 1000 * 1000) g_23 (fun (r_26 : Int32) (g_27 : Gh) => ((r_26 = 0 → ∀ x_29 : Int32, x_29 = y_7 + 1 → (K_9 0 x_29 g_27)) ∧
  (¬ r_26 = 0 → w_L_alike true false g_27 (fun (r_30 : Int32) (g_31 : Gh) => ((r_30 = 0 → ∀ x_33 : Int32, x_33 = y_7 + 1 → (K_9 0 x_33 g_31)) ∧
  (¬ r_30 = 0 → ((¬ (y_7 - y_7 / 2 * 2) = 0 → w_L_holds false (r_13 / 3) g_31 (fun (r_45 : Int32) (g_46 : Gh) => ((r_45 = 0 → ∀ x_48 : Int32, x_48 = y_7 + 1 → (K_9 0 x_48 g_46)) ∧
  (¬ r_45 = 0 → w_L_law_J140 y_7 r_13 K_9 g_46)))) ∧
  ((y_7 - y_7 / 2 * 2) = 0 → w_L_holds true (r_13 / 3) g_31 (fun (r_49 : Int32) (g_50 : Gh) => ((r_49 = 0 → ∀ x_52 : Int32, x_52 = y_7 + 1 → (K_9 0 x_52 g_50)) ∧
  (¬ r_49 = 0 → w_L_law_J140 y_7 r_13 K_9 g_50)))))))))))))))))))))))
def w_L_law (L : Nat) (xs : Nat → Int32) (g : Gh) : Prop :=
  (0 : Int32) ≤ 0 ∧ 0 ≤ (40 : Int32) ∧ ∀ r_1 : Int32, r_1 = cellF L xs 0 → (∀ x_4 : Int32, x_4 = (16 + (r_1 - r_1 / 25 * 25)) → (itr (α := Int32 × Int32 × Gh) (fun K a => w_L_law_B34 L xs x_4 (fun z0 z1 z2 => K (z0, z1, z2)) a.1 a.2.1 a.2.2) 41 (1, 0, g)))
set_option maxRecDepth 100000 in
set_option maxHeartbeats 4000000 in
theorem c_L_law {p : Program} {l : Launch} {e : Env} {s : State} {m : MethodId} {args : Array Value} {below : List Frame} {meth : Method} {c : Code} {QQ : State → Prop} {D : va_G} {cA : Nat → ClassId} {ad : Bool → Nat → Nat → Nat} {A : Bool → Nat → Prop} {A0 : Nat → Prop} {Y : Heap → Prop} (ha : AG ad A) (hst : l.stackTraces = false) (X : Fx p m c cL_law 8 s args RL) (hW : KW D cA s) (hZ : ∀ b, ZC (ad b) A0 s s.heap) (hA0 : ∀ q, AU A q → A0 q) (hY : Yok A Y) {sb L : Nat} {xs : Nat → Int32} (hL : L ≤ 260) (hYX : ∀ H : Heap, Y H → va_X sb L xs s H) (hYk : ∀ H H1 : Heap, H.size ≤ H1.size → (∀ q : Nat, q < H.size → H1[q]? = H[q]?) → Y H → Y H1)
    (hE : ∀ (cells slots : Nat) (lv : List (Nat × Value)) (v : Int32) (g' : Gh), cells ≤ 75928 → slots ≤ 455568 → v = 1 → V p l e room_1 s m args below meth c QQ 8 A0 cells slots (WY D cA ad Y g') 181 lv [.int v]) (g : Gh) (h : w_L_law L xs g) : V p l e room_1 s m args below meth c QQ 8 A0 8442 (6 * 8442) (WY D cA ad Y g) 16 [(2, .ref (ad false 0 1)), (1, .ref (ad true 0 1)), (0, .ref sb)] [] := by
  unfold w_L_law at h
  refine q_bipush (v := 16) X dL_law_16 (by decide) ?_
  refine q_aload_n (j := 2) X dL_law_18 rfl rfl ?_
  refine q_iconst (v := 0) X dL_law_19 (by decide) ?_
  obtain ⟨k_2, k_3, h⟩ := h
  refine qG_cell X hL hYX hYk k_2 k_3 [.int 16] rfl (Nat.le_of_ble_eq_true rfl) dL_law_20 (gS kw_2_124 kw_2_125 kw_1_0 kw_2_126) ⟨(Nat.le_of_ble_eq_true rfl), (Nat.le_of_ble_eq_true rfl)⟩ ⟨(Nat.le_of_ble_eq_true rfl), (Nat.le_of_ble_eq_true rfl)⟩ ?_
  refine q_topi (fun r_1 er_1 => ?_)
  have h := h r_1 er_1
  refine q_bipush (v := 25) X dL_law_23 (by decide) ?_
  refine q_irem X dL_law_25 (by decide) ?_
  refine q_iadd X dL_law_26 ?_
  refine q_topi (fun x_4 ex_4 => ?_)
  have h := h x_4 ex_4
  refine q_istore_n (lv' := [(3, .int x_4), (2, .ref (ad false 0 1)), (1, .ref (ad true 0 1)), (0, .ref sb)]) X dL_law_27 rfl (by decide) rfl ?_
  refine q_iconst (v := 1) X dL_law_28 (by decide) ?_
  refine q_istore (lv' := [(4, .int 1), (3, .int x_4), (2, .ref (ad false 0 1)), (1, .ref (ad true 0 1)), (0, .ref sb)]) X dL_law_29 (by decide) rfl ?_
  refine q_iconst (v := 0) X dL_law_31 (by decide) ?_
  refine q_istore (lv' := [(5, .int 0), (4, .int 1), (3, .int x_4), (2, .ref (ad false 0 1)), (1, .ref (ad true 0 1)), (0, .ref sb)]) X dL_law_32 (by decide) rfl ?_
  refine q_sub [5, 4, 3, 2, 1, 0] rfl ?_
  have L34 : ∀ (n : Nat) (y_6 : Int32) (y_7 : Int32) (m_8 : Gh), itr (α := Int32 × Int32 × Gh) (fun K a => w_L_law_B34 L xs x_4 (fun z0 z1 z2 => K (z0, z1, z2)) a.1 a.2.1 a.2.2) n (y_6, y_7, m_8) → ∀ c_5 : Nat, c_5 + n * 1646 ≤ 75928 → V p l e room_1 s m args below meth c QQ 8 A0 c_5 (6 * c_5) (WY D cA ad Y m_8) 34 [(0, .ref sb), (1, .ref (ad true 0 1)), (2, .ref (ad false 0 1)), (3, .int x_4), (4, .int y_6), (5, .int y_7)] [] := by
    intro n
    induction n with
    | zero => intro y_6 y_7 m_8 h; exact h.elim
    | succ n ih_10 =>
      intro y_6 y_7 m_8 h c_5 hc_5
      have h : w_L_law_B34 L xs x_4 (fun z0 z1 z2 => itr (α := Int32 × Int32 × Gh) (fun K a => w_L_law_B34 L xs x_4 (fun z0 z1 z2 => K (z0, z1, z2)) a.1 a.2.1 a.2.2) n (z0, z1, z2)) y_6 y_7 m_8 := h
      generalize hKe : (fun z0 z1 z2 => itr (α := Int32 × Int32 × Gh) (fun K a => w_L_law_B34 L xs x_4 (fun z0 z1 z2 => K (z0, z1, z2)) a.1 a.2.1 a.2.2) n (z0, z1, z2)) = K_9 at h
      have ih_10k : ∀ (y_6 : Int32) (y_7 : Int32) (m_8 : Gh), K_9 y_6 y_7 m_8 → ∀ c_5 : Nat, c_5 + n * 1646 ≤ 75928 → V p l e room_1 s m args below meth c QQ 8 A0 c_5 (6 * c_5) (WY D cA ad Y m_8) 34 [(0, .ref sb), (1, .ref (ad true 0 1)), (2, .ref (ad false 0 1)), (3, .int x_4), (4, .int y_6), (5, .int y_7)] [] := fun y_6 y_7 m_8 h => ih_10 y_6 y_7 m_8 (by rw [← hKe] at h; exact h)
      unfold w_L_law_B34 at h
      refine q_iload (j := 5) X dL_law_34 rfl ?_
      refine q_iload_n (j := 3) X dL_law_36 rfl rfl ?_
      refine q_icmp_ge (tgt := 179) X dL_law_37 (by decide) (fun c_11 => ?_) (fun c_11 => ?_)
      · have h := h.1 c_11
        refine q_w (c2 := 75928) (n2 := (6 * 75928)) (by omega) (by omega) ?_
        refine q_iload (j := 4) X dL_law_179 rfl ?_
        exact hE _ _ _ _ _ (by omega) (by omega) h
      · have h := h.2 c_11
        refine q_iload (j := 4) X dL_law_40 rfl ?_
        refine q_if_eq (tgt := 179) X dL_law_42 (by decide) (fun c_12 => ?_) (fun c_12 => ?_)
        · have h := h.1 c_12
          refine q_w (c2 := 75928) (n2 := (6 * 75928)) (by omega) (by omega) ?_
          refine q_iload (j := 4) X dL_law_179 rfl ?_
          exact hE _ _ _ _ _ (by omega) (by omega) h
        · have h := h.2 c_12
          refine q_aload_n (j := 0) X dL_law_45 rfl rfl ?_
          refine q_iconst (v := 1) X dL_law_46 (by decide) ?_
          refine q_iload (j := 5) X dL_law_47 rfl ?_
          refine q_iadd X dL_law_49 ?_
          obtain ⟨k_14, k_15, h⟩ := h
          refine qG_cell X hL hYX hYk k_14 k_15 [] rfl (Nat.le_of_ble_eq_true rfl) dL_law_50 (gS kw_2_124 kw_2_125 kw_1_0 kw_2_126) ⟨(Nat.le_of_ble_eq_true rfl), (Nat.le_of_ble_eq_true rfl)⟩ ⟨by show _ ≤ 737507; omega, by show _ ≤ 6889104; omega⟩ ?_
          refine q_topi (fun r_13 er_13 => ?_)
          have h := h r_13 er_13
          refine q_istore (lv' := [(6, .int r_13), (0, .ref sb), (1, .ref (ad true 0 1)), (2, .ref (ad false 0 1)), (3, .int x_4), (4, .int y_6), (5, .int y_7)]) X dL_law_53 (by decide) rfl ?_
          refine q_aload_n (j := 2) X dL_law_55 rfl rfl ?_
          refine q_iload (j := 0) X dL_law_56 rfl ?_
          refine qG_own X hW hZ hA0 hY [.ref (ad true 0 1), .int r_13] [] rfl rfl (Nat.le_of_ble_eq_true rfl) dL_law_58 ⟨by show _ ≤ 737507; omega, by show _ ≤ 6889104; omega⟩ (c_L_act ha hst true r_13 m_8 _ h) rfl rfl (gS kw_6_218 kw_6_219 kw_1_0 kw_6_220) hy_L_act.2 ⟨(Nat.le_of_ble_eq_true rfl), (Nat.le_of_ble_eq_true rfl)⟩ (fun r_16 g_17 h => ?_)
          refine q_istore (lv' := [(7, .int r_16), (6, .int r_13), (0, .ref sb), (1, .ref (ad true 0 1)), (2, .ref (ad false 0 1)), (3, .int x_4), (4, .int y_6), (5, .int y_7)]) X dL_law_61 (by decide) rfl ?_
          refine q_aload_n (j := 4) X dL_law_63 rfl rfl ?_
          refine q_iload (j := 1) X dL_law_64 rfl ?_
          refine q_ldcw (v := 100000) X kw_7_16 dL_law_66 ?_
          refine q_irem X dL_law_69 (by decide) ?_
          refine qG_own X hW hZ hA0 hY [.ref (ad false 0 1), .int (r_13 - r_13 / 100000 * 100000)] [] rfl rfl (Nat.le_of_ble_eq_true rfl) dL_law_70 ⟨by show _ ≤ 737507; omega, by show _ ≤ 6889104; omega⟩ (c_L_refuses ha hst false (r_13 - r_13 / 100000 * 100000) g_17 _ h) rfl rfl (gS kw_2_129 kw_2_130 kw_1_0 kw_2_131) hy_L_refuses.2 ⟨(Nat.le_of_ble_eq_true rfl), (Nat.le_of_ble_eq_true rfl)⟩ (fun r_18 g_19 h => ?_)
          refine q_if_eq (tgt := 170) X dL_law_73 (by decide) (fun c_20 => ?_) (fun c_20 => ?_)
          · have h := h.1 c_20
            refine q_iconst (v := 0) X dL_law_170 (by decide) ?_
            refine q_istore (lv' := [(4, .int 0), (7, .int r_16), (6, .int r_13), (0, .ref sb), (1, .ref (ad true 0 1)), (2, .ref (ad false 0 1)), (3, .int x_4), (5, .int y_7)]) X dL_law_171 (by decide) rfl ?_
            obtain ⟨x_21, ex_21⟩ : ∃ z : Int32, z = y_7 + 1 := ⟨_, rfl⟩
            have h := h x_21 ex_21
            refine q_iinc (j := 7) (v := x_21) (lv' := [(5, .int x_21), (4, .int 0), (7, .int r_16), (6, .int r_13), (0, .ref sb), (1, .ref (ad true 0 1)), (2, .ref (ad false 0 1)), (3, .int x_4)]) X dL_law_173 rfl (by rw [ex_21]; rfl) (by decide) rfl ?_
            refine q_goto (tgt := 34) X dL_law_176 (by decide) ?_
            refine q_sub [4, 5, 6, 7, 1, 0] rfl ?_
            refine q_w (c2 := (c_5 + 1646)) (n2 := (6 * (c_5 + 1646))) (by omega) (by omega) ?_
            exact ih_10k 0 x_21 g_19 h (c_5 + 1646) (by omega)
          · have h := h.2 c_20
            refine q_aload_n (j := 4) X dL_law_76 rfl rfl ?_
            refine q_iload (j := 1) X dL_law_77 rfl ?_
            refine qG_own X hW hZ hA0 hY [.ref (ad false 0 1), .int r_13] [] rfl rfl (Nat.le_of_ble_eq_true rfl) dL_law_79 ⟨by show _ ≤ 737507; omega, by show _ ≤ 6889104; omega⟩ (c_L_act ha hst false r_13 g_19 _ h) rfl rfl (gS kw_6_218 kw_6_219 kw_1_0 kw_6_220) hy_L_act.2 ⟨(Nat.le_of_ble_eq_true rfl), (Nat.le_of_ble_eq_true rfl)⟩ (fun r_22 g_23 h => ?_)
            refine q_iload (j := 0) X dL_law_82 rfl ?_
            refine q_icmp_ne (tgt := 170) X dL_law_84 (by decide) (fun c_24 => ?_) (fun c_24 => ?_)
            · have h := h.1 c_24
              refine q_iconst (v := 0) X dL_law_170 (by decide) ?_
              refine q_istore (lv' := [(4, .int 0), (7, .int r_16), (6, .int r_13), (0, .ref sb), (1, .ref (ad true 0 1)), (2, .ref (ad false 0 1)), (3, .int x_4), (5, .int y_7)]) X dL_law_171 (by decide) rfl ?_
              obtain ⟨x_25, ex_25⟩ : ∃ z : Int32, z = y_7 + 1 := ⟨_, rfl⟩
              have h := h x_25 ex_25
              refine q_iinc (j := 7) (v := x_25) (lv' := [(5, .int x_25), (4, .int 0), (7, .int r_16), (6, .int r_13), (0, .ref sb), (1, .ref (ad true 0 1)), (2, .ref (ad false 0 1)), (3, .int x_4)]) X dL_law_173 rfl (by rw [ex_25]; rfl) (by decide) rfl ?_
              refine q_goto (tgt := 34) X dL_law_176 (by decide) ?_
              refine q_sub [4, 5, 6, 7, 1, 0] rfl ?_
              refine q_w (c2 := (c_5 + 1646)) (n2 := (6 * (c_5 + 1646))) (by omega) (by omega) ?_
              exact ih_10k 0 x_25 g_23 h (c_5 + 1646) (by omega)
            · have h := h.2 c_24
              refine q_aload_n (j := 4) X dL_law_87 rfl rfl ?_
              refine q_iload (j := 1) X dL_law_88 rfl ?_
              refine q_sipush (v := 1000) X dL_law_90 (by decide) ?_
              refine q_irem X dL_law_93 (by decide) ?_
              refine qG_own X hW hZ hA0 hY [.ref (ad false 0 1), .int (r_13 - r_13 / 1000 * 1000)] [] rfl rfl (Nat.le_of_ble_eq_true rfl) dL_law_94 ⟨by show _ ≤ 737507; omega, by show _ ≤ 6889104; omega⟩ (c_L_refuses ha hst false (r_13 - r_13 / 1000 * 1000) g_23 _ h) rfl rfl (gS kw_2_129 kw_2_130 kw_1_0 kw_2_131) hy_L_refuses.2 ⟨(Nat.le_of_ble_eq_true rfl), (Nat.le_of_ble_eq_true rfl)⟩ (fun r_26 g_27 h => ?_)
              refine q_if_eq (tgt := 170) X dL_law_97 (by decide) (fun c_28 => ?_) (fun c_28 => ?_)
              · have h := h.1 c_28
                refine q_iconst (v := 0) X dL_law_170 (by decide) ?_
                refine q_istore (lv' := [(4, .int 0), (7, .int r_16), (6, .int r_13), (0, .ref sb), (1, .ref (ad true 0 1)), (2, .ref (ad false 0 1)), (3, .int x_4), (5, .int y_7)]) X dL_law_171 (by decide) rfl ?_
                obtain ⟨x_29, ex_29⟩ : ∃ z : Int32, z = y_7 + 1 := ⟨_, rfl⟩
                have h := h x_29 ex_29
                refine q_iinc (j := 7) (v := x_29) (lv' := [(5, .int x_29), (4, .int 0), (7, .int r_16), (6, .int r_13), (0, .ref sb), (1, .ref (ad true 0 1)), (2, .ref (ad false 0 1)), (3, .int x_4)]) X dL_law_173 rfl (by rw [ex_29]; rfl) (by decide) rfl ?_
                refine q_goto (tgt := 34) X dL_law_176 (by decide) ?_
                refine q_sub [4, 5, 6, 7, 1, 0] rfl ?_
                refine q_w (c2 := (c_5 + 1646)) (n2 := (6 * (c_5 + 1646))) (by omega) (by omega) ?_
                exact ih_10k 0 x_29 g_27 h (c_5 + 1646) (by omega)
              · have h := h.2 c_28
                refine q_aload_n (j := 3) X dL_law_100 rfl rfl ?_
                refine q_aload_n (j := 4) X dL_law_101 rfl rfl ?_
                refine qG_own X hW hZ hA0 hY [.ref (ad true 0 1), .ref (ad false 0 1)] [] rfl rfl (Nat.le_of_ble_eq_true rfl) dL_law_102 ⟨by show _ ≤ 737507; omega, by show _ ≤ 6889104; omega⟩ (c_L_alike ha hst true false g_27 _ h) rfl rfl (gS kw_6_221 kw_6_222 kw_1_0 kw_6_223) hy_L_alike.2 ⟨(Nat.le_of_ble_eq_true rfl), (Nat.le_of_ble_eq_true rfl)⟩ (fun r_30 g_31 h => ?_)
                refine q_if_eq (tgt := 170) X dL_law_105 (by decide) (fun c_32 => ?_) (fun c_32 => ?_)
                · have h := h.1 c_32
                  refine q_iconst (v := 0) X dL_law_170 (by decide) ?_
                  refine q_istore (lv' := [(4, .int 0), (7, .int r_16), (6, .int r_13), (0, .ref sb), (1, .ref (ad true 0 1)), (2, .ref (ad false 0 1)), (3, .int x_4), (5, .int y_7)]) X dL_law_171 (by decide) rfl ?_
                  obtain ⟨x_33, ex_33⟩ : ∃ z : Int32, z = y_7 + 1 := ⟨_, rfl⟩
                  have h := h x_33 ex_33
                  refine q_iinc (j := 7) (v := x_33) (lv' := [(5, .int x_33), (4, .int 0), (7, .int r_16), (6, .int r_13), (0, .ref sb), (1, .ref (ad true 0 1)), (2, .ref (ad false 0 1)), (3, .int x_4)]) X dL_law_173 rfl (by rw [ex_33]; rfl) (by decide) rfl ?_
                  refine q_goto (tgt := 34) X dL_law_176 (by decide) ?_
                  refine q_sub [4, 5, 6, 7, 1, 0] rfl ?_
                  refine q_w (c2 := (c_5 + 1646)) (n2 := (6 * (c_5 + 1646))) (by omega) (by omega) ?_
                  exact ih_10k 0 x_33 g_31 h (c_5 + 1646) (by omega)
                · have h := h.2 c_32
                  refine q_iload (j := 7) X dL_law_108 rfl ?_
                  refine q_iconst (v := 2) X dL_law_110 (by decide) ?_
                  refine q_irem X dL_law_111 (by decide) ?_
                  have J140 : ∀ (m_34 : Gh), w_L_law_J140 y_7 r_13 K_9 m_34 → V p l e room_1 s m args below meth c QQ 8 A0 (c_5 + 1546) (6 * (c_5 + 1546)) (WY D cA ad Y m_34) 140 [(0, .ref sb), (1, .ref (ad true 0 1)), (2, .ref (ad false 0 1)), (3, .int x_4), (5, .int y_7), (6, .int r_13)] [] := by
                    intro m_34 h
                    unfold w_L_law_J140 at h
                    refine q_aload_n (j := 1) X dL_law_140 rfl rfl ?_
                    refine q_aload_n (j := 2) X dL_law_141 rfl rfl ?_
                    refine q_iload (j := 5) X dL_law_142 rfl ?_
                    refine q_bipush (v := 7) X dL_law_144 (by decide) ?_
                    refine q_idiv X dL_law_146 (by decide) ?_
                    refine qG_own X hW hZ hA0 hY [.ref (ad true 0 1), .ref (ad false 0 1), .int (r_13 / 7)] [] rfl rfl (Nat.le_of_ble_eq_true rfl) dL_law_147 ⟨by show _ ≤ 737507; omega, by show _ ≤ 6889104; omega⟩ (c_L_leaves ha hst true false (r_13 / 7) m_34 _ h) rfl rfl (gS kw_7_4 kw_7_5 kw_1_0 kw_7_6) hy_L_leaves.2 ⟨(Nat.le_of_ble_eq_true rfl), (Nat.le_of_ble_eq_true rfl)⟩ (fun r_35 g_36 h => ?_)
                    refine q_if_eq (tgt := 170) X dL_law_150 (by decide) (fun c_37 => ?_) (fun c_37 => ?_)
                    · have h := h.1 c_37
                      refine q_iconst (v := 0) X dL_law_170 (by decide) ?_
                      refine q_istore (lv' := [(4, .int 0), (0, .ref sb), (1, .ref (ad true 0 1)), (2, .ref (ad false 0 1)), (3, .int x_4), (5, .int y_7), (6, .int r_13)]) X dL_law_171 (by decide) rfl ?_
                      obtain ⟨x_38, ex_38⟩ : ∃ z : Int32, z = y_7 + 1 := ⟨_, rfl⟩
                      have h := h x_38 ex_38
                      refine q_iinc (j := 5) (v := x_38) (lv' := [(5, .int x_38), (4, .int 0), (0, .ref sb), (1, .ref (ad true 0 1)), (2, .ref (ad false 0 1)), (3, .int x_4), (6, .int r_13)]) X dL_law_173 rfl (by rw [ex_38]; rfl) (by decide) rfl ?_
                      refine q_goto (tgt := 34) X dL_law_176 (by decide) ?_
                      refine q_sub [2, 3, 4, 5, 1, 0] rfl ?_
                      refine q_w (c2 := (c_5 + 1646)) (n2 := (6 * (c_5 + 1646))) (by omega) (by omega) ?_
                      exact ih_10k 0 x_38 g_36 h (c_5 + 1646) (by omega)
                    · have h := h.2 c_37
                      refine q_aload_n (j := 1) X dL_law_153 rfl rfl ?_
                      refine q_aload_n (j := 2) X dL_law_154 rfl rfl ?_
                      refine q_iload (j := 5) X dL_law_155 rfl ?_
                      refine q_bipush (v := 11) X dL_law_157 (by decide) ?_
                      refine q_idiv X dL_law_159 (by decide) ?_
                      refine qG_own X hW hZ hA0 hY [.ref (ad true 0 1), .ref (ad false 0 1), .int (r_13 / 11)] [] rfl rfl (Nat.le_of_ble_eq_true rfl) dL_law_160 ⟨by show _ ≤ 737507; omega, by show _ ≤ 6889104; omega⟩ (c_L_weighs ha hst true false (r_13 / 11) g_36 _ h) rfl rfl (gS kw_7_13 kw_7_14 kw_1_0 kw_7_15) hy_L_weighs.2 ⟨(Nat.le_of_ble_eq_true rfl), (Nat.le_of_ble_eq_true rfl)⟩ (fun r_39 g_40 h => ?_)
                      refine q_if_eq (tgt := 170) X dL_law_163 (by decide) (fun c_41 => ?_) (fun c_41 => ?_)
                      · have h := h.1 c_41
                        refine q_iconst (v := 0) X dL_law_170 (by decide) ?_
                        refine q_istore (lv' := [(4, .int 0), (0, .ref sb), (1, .ref (ad true 0 1)), (2, .ref (ad false 0 1)), (3, .int x_4), (5, .int y_7), (6, .int r_13)]) X dL_law_171 (by decide) rfl ?_
                        obtain ⟨x_42, ex_42⟩ : ∃ z : Int32, z = y_7 + 1 := ⟨_, rfl⟩
                        have h := h x_42 ex_42
                        refine q_iinc (j := 5) (v := x_42) (lv' := [(5, .int x_42), (4, .int 0), (0, .ref sb), (1, .ref (ad true 0 1)), (2, .ref (ad false 0 1)), (3, .int x_4), (6, .int r_13)]) X dL_law_173 rfl (by rw [ex_42]; rfl) (by decide) rfl ?_
                        refine q_goto (tgt := 34) X dL_law_176 (by decide) ?_
                        refine q_sub [2, 3, 4, 5, 1, 0] rfl ?_
                        refine q_w (c2 := (c_5 + 1646)) (n2 := (6 * (c_5 + 1646))) (by omega) (by omega) ?_
                        exact ih_10k 0 x_42 g_40 h (c_5 + 1646) (by omega)
                      · have h := h.2 c_41
                        refine q_iconst (v := 1) X dL_law_166 (by decide) ?_
                        refine q_goto (tgt := 171) X dL_law_167 (by decide) ?_
                        refine q_istore (lv' := [(4, .int 1), (0, .ref sb), (1, .ref (ad true 0 1)), (2, .ref (ad false 0 1)), (3, .int x_4), (5, .int y_7), (6, .int r_13)]) X dL_law_171 (by decide) rfl ?_
                        obtain ⟨x_43, ex_43⟩ : ∃ z : Int32, z = y_7 + 1 := ⟨_, rfl⟩
                        have h := h x_43 ex_43
                        refine q_iinc (j := 5) (v := x_43) (lv' := [(5, .int x_43), (4, .int 1), (0, .ref sb), (1, .ref (ad true 0 1)), (2, .ref (ad false 0 1)), (3, .int x_4), (6, .int r_13)]) X dL_law_173 rfl (by rw [ex_43]; rfl) (by decide) rfl ?_
                        refine q_goto (tgt := 34) X dL_law_176 (by decide) ?_
                        refine q_sub [2, 3, 4, 5, 1, 0] rfl ?_
                        refine q_w (c2 := (c_5 + 1646)) (n2 := (6 * (c_5 + 1646))) (by omega) (by omega) ?_
                        exact ih_10k 1 x_43 g_40 h (c_5 + 1646) (by omega)
                  refine q_if_ne (tgt := 129) X dL_law_112 (by decide) (fun c_44 => ?_) (fun c_44 => ?_)
                  · have h := h.1 c_44
                    refine q_aload_n (j := 4) X dL_law_129 rfl rfl ?_
                    refine q_iload (j := 1) X dL_law_130 rfl ?_
                    refine q_iconst (v := 3) X dL_law_132 (by decide) ?_
                    refine q_idiv X dL_law_133 (by decide) ?_
                    refine qG_own X hW hZ hA0 hY [.ref (ad false 0 1), .int (r_13 / 3)] [] rfl rfl (Nat.le_of_ble_eq_true rfl) dL_law_134 ⟨by show _ ≤ 737507; omega, by show _ ≤ 6889104; omega⟩ (c_L_holds ha hst false (r_13 / 3) g_31 _ h) rfl rfl (gS kw_6_171 kw_6_172 kw_1_0 kw_6_173) hy_L_holds.2 ⟨(Nat.le_of_ble_eq_true rfl), (Nat.le_of_ble_eq_true rfl)⟩ (fun r_45 g_46 h => ?_)
                    refine q_if_eq (tgt := 170) X dL_law_137 (by decide) (fun c_47 => ?_) (fun c_47 => ?_)
                    · have h := h.1 c_47
                      refine q_iconst (v := 0) X dL_law_170 (by decide) ?_
                      refine q_istore (lv' := [(4, .int 0), (7, .int r_16), (6, .int r_13), (0, .ref sb), (1, .ref (ad true 0 1)), (2, .ref (ad false 0 1)), (3, .int x_4), (5, .int y_7)]) X dL_law_171 (by decide) rfl ?_
                      obtain ⟨x_48, ex_48⟩ : ∃ z : Int32, z = y_7 + 1 := ⟨_, rfl⟩
                      have h := h x_48 ex_48
                      refine q_iinc (j := 7) (v := x_48) (lv' := [(5, .int x_48), (4, .int 0), (7, .int r_16), (6, .int r_13), (0, .ref sb), (1, .ref (ad true 0 1)), (2, .ref (ad false 0 1)), (3, .int x_4)]) X dL_law_173 rfl (by rw [ex_48]; rfl) (by decide) rfl ?_
                      refine q_goto (tgt := 34) X dL_law_176 (by decide) ?_
                      refine q_sub [4, 5, 6, 7, 1, 0] rfl ?_
                      refine q_w (c2 := (c_5 + 1646)) (n2 := (6 * (c_5 + 1646))) (by omega) (by omega) ?_
                      exact ih_10k 0 x_48 g_46 h (c_5 + 1646) (by omega)
                    · have h := h.2 c_47
                      refine q_sub [2, 3, 4, 5, 7, 1] rfl ?_
                      refine q_w (c2 := (c_5 + 1546)) (n2 := (6 * (c_5 + 1546))) (by omega) (by omega) ?_
                      exact J140 g_46 h
                  · have h := h.2 c_44
                    refine q_aload_n (j := 3) X dL_law_115 rfl rfl ?_
                    refine q_iload (j := 1) X dL_law_116 rfl ?_
                    refine q_iconst (v := 3) X dL_law_118 (by decide) ?_
                    refine q_idiv X dL_law_119 (by decide) ?_
                    refine qG_own X hW hZ hA0 hY [.ref (ad true 0 1), .int (r_13 / 3)] [] rfl rfl (Nat.le_of_ble_eq_true rfl) dL_law_120 ⟨by show _ ≤ 737507; omega, by show _ ≤ 6889104; omega⟩ (c_L_holds ha hst true (r_13 / 3) g_31 _ h) rfl rfl (gS kw_6_171 kw_6_172 kw_1_0 kw_6_173) hy_L_holds.2 ⟨(Nat.le_of_ble_eq_true rfl), (Nat.le_of_ble_eq_true rfl)⟩ (fun r_49 g_50 h => ?_)
                    refine q_if_eq (tgt := 170) X dL_law_123 (by decide) (fun c_51 => ?_) (fun c_51 => ?_)
                    · have h := h.1 c_51
                      refine q_iconst (v := 0) X dL_law_170 (by decide) ?_
                      refine q_istore (lv' := [(4, .int 0), (7, .int r_16), (6, .int r_13), (0, .ref sb), (1, .ref (ad true 0 1)), (2, .ref (ad false 0 1)), (3, .int x_4), (5, .int y_7)]) X dL_law_171 (by decide) rfl ?_
                      obtain ⟨x_52, ex_52⟩ : ∃ z : Int32, z = y_7 + 1 := ⟨_, rfl⟩
                      have h := h x_52 ex_52
                      refine q_iinc (j := 7) (v := x_52) (lv' := [(5, .int x_52), (4, .int 0), (7, .int r_16), (6, .int r_13), (0, .ref sb), (1, .ref (ad true 0 1)), (2, .ref (ad false 0 1)), (3, .int x_4)]) X dL_law_173 rfl (by rw [ex_52]; rfl) (by decide) rfl ?_
                      refine q_goto (tgt := 34) X dL_law_176 (by decide) ?_
                      refine q_sub [4, 5, 6, 7, 1, 0] rfl ?_
                      refine q_w (c2 := (c_5 + 1646)) (n2 := (6 * (c_5 + 1646))) (by omega) (by omega) ?_
                      exact ih_10k 0 x_52 g_50 h (c_5 + 1646) (by omega)
                    · have h := h.2 c_51
                      refine q_goto (tgt := 140) X dL_law_126 (by decide) ?_
                      refine q_sub [2, 3, 4, 5, 7, 1] rfl ?_
                      refine q_w (c2 := (c_5 + 1546)) (n2 := (6 * (c_5 + 1546))) (by omega) (by omega) ?_
                      exact J140 g_50 h
  refine q_w (c2 := 8442) (n2 := (6 * 8442)) (by omega) (by omega) ?_
  exact L34 41 1 0 g h 8442 (by omega)
