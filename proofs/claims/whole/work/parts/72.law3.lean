theorem kw_7_56 : Jvm.Cond.methodLink "BondWarehouseLaw" (216 : Nat) ({ cls := "BondWarehouseModel", name := "thrown", desc := "()I" } : Jvm.MethodName) ∈ TG := tg_7 56 rfl rfl
theorem kw_7_57 : Jvm.Cond.instanceMethod ({ cls := "BondWarehouseModel", name := "thrown", desc := "()I" } : Jvm.MethodName) ∈ TG := tg_7 57 rfl rfl
theorem kw_7_58 : Jvm.Cond.selects "BondWarehouseModel" ({ cls := "BondWarehouseModel", name := "thrown", desc := "()I" } : Jvm.MethodName) ({ cls := "BondWarehouseModel", name := "thrown", desc := "()I" } : Jvm.MethodName) ∈ TG := tg_7 58 rfl rfl
theorem kw_7_59 : Jvm.Cond.code ({ cls := "BondWarehouseModel", name := "thrown", desc := "()I" } : Jvm.MethodName) prog_12_method_2_code (1 : Nat) (Option.some Jvm.ClassFile.FieldType.int) ∈ TG := tg_7 59 rfl rfl
section LW2
/-- the memory of both, and the row that takes the answer -/
def PL (D : va_G) (cA : Nat → ClassId) (ad : Nat → Nat → Nat) (ob : Nat) (cO : ClassId) (mc mm : Mm) (v : Int64) (H : Heap) : Prop := PW D cA ad ob cO mc v H ∧ Rep TT D cA ad false GM mm H
/-- the three groups of addresses are apart -/
def AX (ad : Nat → Nat → Nat) (A AC AM : Nat → Prop) (ob : Nat) : Prop := Ax ad GC AC ∧ Ax ad GM AM ∧ (¬ AC ob ∧ ¬ AM ob ∧ A ob) ∧ (∀ q, AC q → A q ∧ ¬ AM q) ∧ ∀ q, AM q → A q
theorem lg_self (x : Int64) : lg_cmp x x = 0 := by
  unfold lg_cmp
  rw [if_neg (Int64.lt_irrefl), if_pos rfl]
theorem gSW {own : String} {idx maxL : Nat} {y : MethodName} {bytes : ByteArray} {ret : Option FieldType} {hh : List (Nat × Nat × Nat × Nat)} (h1 : Cond.methodLink own idx y ∈ TG) (h2 : Cond.static y ∈ TG) (h4 : Cond.initialized y.cls ∈ TG) (h5 : Cond.codeWith y bytes maxL ret hh ∈ TG) : GoodIn TG (va_wsS own idx y (.codeWith y bytes maxL ret hh :: TG)) := by
  intro w h
  unfold va_wsS at h
  rcases List.mem_append.mp h with h | h
  · simp only [List.mem_cons, List.not_mem_nil, or_false] at h
    rcases h with rfl | rfl | rfl
    · exact ⟨h1, tg_good _ h1⟩
    · exact ⟨h2, tg_good _ h2⟩
    · exact ⟨h4, tg_good _ h4⟩
  · exact tg_self h5 w h
variable {p : Program} {l : Launch} {e : Env} {R : Room} {s : State} {m : MethodId} {args : Array Value} {below : List Frame} {meth : Method} {c : Code} {cells slots : Nat} {Q : State → Prop}
variable {cc : ByteArray} {nL : Nat} {own : String} {D : va_G} {cA : Nat → ClassId} {ad : Nat → Nat → Nat} {A AC AM : Nat → Prop} {ob : Nat} {cO : ClassId}
variable {mc mm : Mm} {v : Int64} {pc : Nat} {lv : List (Nat × Value)} {st : List Value}
theorem AX.aw (h : AX ad A AC AM ob) : ∀ q, AW AC ob q → A q := fun q hq => hq.elim (fun h1 => (h.2.2.2.1 q h1).1) (fun h1 => by rw [h1]; exact h.2.2.1.2.2)
theorem AX.gm (h : AX ad A AC AM ob) {t i : Nat} (hG : GM t i) : ¬ AW AC ob (ad t i) := fun hq => hq.elim (fun h1 => (h.2.2.2.1 _ h1).2 (h.2.1.1 t i hG)) (fun h1 => h.2.2.1.2.1 (by rw [← h1]; exact h.2.1.1 t i hG))
theorem AX.gc (h : AX ad A AC AM ob) {t i : Nat} (hG : GC t i) : ¬ AM (ad t i) := (h.2.2.2.1 _ (h.1.1 t i hG)).2
/-- the law calls a wrapper -/
theorem qL_w (X : Fx p m c cc nL s args own) (hA : AX ad A AC AM ob) (hW : KW D cA cO s) (hZ : ZC ad A s s.heap) {y : MethodName} {bytes : ByteArray} {maxL : Nat} {hh : List (Nat × Nat × Nat × Nat)} {rm : Room} {n index : Nat} {Qk : Int32 → Int64 → Mm → Prop} (As : List Value) {stk : List Value} (hn : As.length = n) (hstk : stk = As.reverse) (hd : decode cc pc = .ok (.invokestatic index, 3)) (hf : cells + 2 ≤ R.cells ∧ slots + 12 ≤ R.slots)
    (hM : Met l y (.codeWith y bytes maxL (some .int) hh :: TG) rm (PcL D cA ad AC ob cO As mc v) (QcL D cA ad AC ob cO Qk) 2 12 (AW AC ob)) (hrc : rm.cells = 2) (hrs : rm.slots = 12) (hT : GoodIn TG (va_wsS own index y (.codeWith y bytes maxL (some .int) hh :: TG))) (hy : y.cls ≠ "java/lang/invoke/MethodHandle" ∧ y.cls ≠ "java/lang/invoke/VarHandle" ∧ (parseMethodDescriptor y.desc).map (fun d => d.parameters.length) = some n) (hR : rm.frames + 1 ≤ R.frames ∧ 8 + (maxL + 11) + rm.locals ≤ R.locals)
    (k : ∀ (r : Int32) (mc' : Mm) (v' : Int64), Qk r v' mc' → V p l e R s m args below meth c Q nL A (cells + 2) (slots + 12) (PL D cA ad ob cO mc' mm v') (pc + 3) lv [.int r]) :
    V p l e R s m args below meth c Q nL A cells slots (PL D cA ad ob cO mc mm v) pc lv stk := by
  intro H locs ls hP hS hl
  have hr : va_Run p l e R s m args below meth c H locs cells slots 2 12 (F0 m pc ls stk) [] _ _ := vx_runSW (As := As) (rest := []) X hM (vx_cwSW n X.2.2.2.2 hT rfl hrc hrs hy hR) ⟨PcL.blind, fun U hU hW9 => ⟨rfl, hW.moved hW9, by rw [hU]; exact ZC.narrow (ZC_ok ad A s U s.heap H hW9 hS.2.1 hZ) hA.aw, by rw [hU]; exact hP.1⟩⟩ rfl hn hl.1 (by rw [hstk, List.append_nil]) (lv_room (by decide)) hd hf
  refine va_calli hr hS (fun q _ h => hA.aw q h) (fun q h => hA.aw q h) (fun r u t H1 locs1 ht hal hp hb hz hk hS1 => ?_)
  rw [ht] at hb
  exact k r u.1 u.2 hp H1 locs1 ls ⟨hb, Rep_keep hP.2 trivial (fun t i hG => hk _ (Cel_lt (hP.2.2 t i hG)) (hA.gm hG))⟩ hS1 hl
/-- the law calls the reference -/
theorem qL_m (X : Fx p m c cc nL s args own) (hA : AX ad A AC AM ob) (hW : KW D cA cO s) {y : MethodName} {bytes : ByteArray} {maxL : Nat} {ret : Option FieldType} {rm : Room} {n index : Nat} {Qp : Int32 → Mm → Prop} (As rest : List Value) {stk : List Value} (hn : As.length = n) (hstk : stk = As.reverse ++ .ref (ad 30 1) :: rest) (hw : (rest.map fun v => v.category).sum ≤ 8) (hd : decode cc pc = .ok (.invokevirtual index, 3)) (hf : cells ≤ R.cells ∧ slots ≤ R.slots)
    (hM : Met l y (.code y bytes maxL ret :: TG) rm (PcM TT D cA ad false GM ZM (.ref (ad 30 1) :: As) mm) (AnsI TT D cA ad false GM AM Qp) 0 0 AM) (hrc : rm.cells = 0) (hrs : rm.slots = 0) (hG5 : GoodIn TG (wsV own index RX10 y (.code y bytes maxL ret :: TG))) (hy : y.cls = RX10 ∧ y.cls ≠ "java/lang/invoke/MethodHandle" ∧ y.cls ≠ "java/lang/invoke/VarHandle" ∧ (parseMethodDescriptor y.desc).map (fun d => d.parameters.length) = some n) (hR : rm.frames + 1 ≤ R.frames ∧ 8 + (maxL + 11) + rm.locals ≤ R.locals)
    (k : ∀ (r : Int32) (mm' : Mm), Qp r mm' → V p l e R s m args below meth c Q nL A cells slots (PL D cA ad ob cO mc mm' v) (pc + 3) lv (.int r :: rest)) :
    V p l e R s m args below meth c Q nL A cells slots (PL D cA ad ob cO mc mm v) pc lv stk := by
  intro H locs ls hP hS hl
  have hG : GM 30 1 := gm (t := 30) (by decide) (ok1 (t := 30) (Nat.le_of_ble_eq_true rfl))
  have hlt : ob < H.size := (Array.getElem?_eq_some_iff.mp hP.1.2).1
  have hr : va_Run p l e R s m args below meth c H locs cells slots 0 0 (F0 m pc ls stk) rest _ _ := va_runV (As := As) (rest := rest) X hM (cwV n X.2.2.2.2 hG5 rfl hrc hrs hy hR) ⟨PcM.blind (ZM_ok AM), Rep_recv hW.1 hP.2 hG rfl rfl, fun U hU hW9 => ⟨rfl, hW.1.moved hW9, trivial, by rw [hU]; exact hP.2⟩⟩ rfl hn hl.1 hstk (lv_room hw) hd hf
  refine va_calli hr hS (fun q _ h => hA.2.2.2.2 q h) (fun q h => hA.2.2.2.2 q h) (fun r u t H1 locs1 ht hal hp hb hz hk hS1 => ?_)
  rw [ht] at hb
  exact k r u hp H1 locs1 ls ⟨⟨Rep_keep hP.1.1 trivial (fun t i hG => hk _ (Cel_lt (hP.1.1.2 t i hG)) (hA.gc hG)), (hk ob hlt hA.2.2.1.2.1).trans hP.1.2⟩, hb⟩ hS1 hl
theorem qL_md (X : Fx p m c cc nL s args own) (hA : AX ad A AC AM ob) (hW : KW D cA cO s) {y : MethodName} {bytes : ByteArray} {maxL : Nat} {ret : Option FieldType} {rm : Room} {n index : Nat} {Qp : UInt64 → Mm → Prop} (As rest : List Value) {stk : List Value} (hn : As.length = n) (hstk : stk = As.reverse ++ .ref (ad 30 1) :: rest) (hw : (rest.map fun v => v.category).sum ≤ 8) (hd : decode cc pc = .ok (.invokevirtual index, 3)) (hf : cells ≤ R.cells ∧ slots ≤ R.slots)
    (hM : Met l y (.code y bytes maxL ret :: TG) rm (PcM TT D cA ad false GM ZM (.ref (ad 30 1) :: As) mm) (AnsD TT D cA ad false GM AM Qp) 0 0 AM) (hrc : rm.cells = 0) (hrs : rm.slots = 0) (hG5 : GoodIn TG (wsV own index RX10 y (.code y bytes maxL ret :: TG))) (hy : y.cls = RX10 ∧ y.cls ≠ "java/lang/invoke/MethodHandle" ∧ y.cls ≠ "java/lang/invoke/VarHandle" ∧ (parseMethodDescriptor y.desc).map (fun d => d.parameters.length) = some n) (hR : rm.frames + 1 ≤ R.frames ∧ 8 + (maxL + 11) + rm.locals ≤ R.locals)
    (k : ∀ (r : UInt64) (mm' : Mm), Qp r mm' → V p l e R s m args below meth c Q nL A cells slots (PL D cA ad ob cO mc mm' v) (pc + 3) lv (.double r :: rest)) :
    V p l e R s m args below meth c Q nL A cells slots (PL D cA ad ob cO mc mm v) pc lv stk := by
  intro H locs ls hP hS hl
  have hG : GM 30 1 := gm (t := 30) (by decide) (ok1 (t := 30) (Nat.le_of_ble_eq_true rfl))
  have hlt : ob < H.size := (Array.getElem?_eq_some_iff.mp hP.1.2).1
  have hr : va_Run p l e R s m args below meth c H locs cells slots 0 0 (F0 m pc ls stk) rest _ _ := va_runV (As := As) (rest := rest) X hM (cwV n X.2.2.2.2 hG5 rfl hrc hrs hy hR) ⟨PcM.blind (ZM_ok AM), Rep_recv hW.1 hP.2 hG rfl rfl, fun U hU hW9 => ⟨rfl, hW.1.moved hW9, trivial, by rw [hU]; exact hP.2⟩⟩ rfl hn hl.1 hstk (lv_room hw) hd hf
  refine va_calld hr hS (fun q _ h => hA.2.2.2.2 q h) (fun q h => hA.2.2.2.2 q h) (fun r u t H1 locs1 ht hal hp hb hz hk hS1 => ?_)
  rw [ht] at hb
  exact k r u hp H1 locs1 ls ⟨⟨Rep_keep hP.1.1 trivial (fun t i hG => hk _ (Cel_lt (hP.1.1.2 t i hG)) (hA.gc hG)), (hk ob hlt hA.2.2.1.2.1).trans hP.1.2⟩, hb⟩ hS1 hl
/-- the law asks the class -/
theorem qL_c (X : Fx p m c cc nL s args own) (hA : AX ad A AC AM ob) (hW : KW D cA cO s) (hZ : ZC ad A s s.heap) {y : MethodName} {bytes : ByteArray} {maxL : Nat} {ret : Option FieldType} {rm : Room} {n index : Nat} {Qp : Int32 → Mm → Prop} (As rest : List Value) {stk : List Value} (hn : As.length = n) (hstk : stk = As.reverse ++ .ref (ad 0 1) :: rest) (hw : (rest.map fun v => v.category).sum ≤ 8) (hd : decode cc pc = .ok (.invokevirtual index, 3)) (hf : cells ≤ R.cells ∧ slots ≤ R.slots)
    (hM : Met l y (.code y bytes maxL ret :: TG) rm (PcM TT D cA ad false GC (ZC ad AC) (.ref (ad 0 1) :: As) mc) (AnsI TT D cA ad false GC AC Qp) 0 0 AC) (hrc : rm.cells = 0) (hrs : rm.slots = 0) (hG5 : GoodIn TG (wsV own index RX9 y (.code y bytes maxL ret :: TG))) (hy : y.cls = RX9 ∧ y.cls ≠ "java/lang/invoke/MethodHandle" ∧ y.cls ≠ "java/lang/invoke/VarHandle" ∧ (parseMethodDescriptor y.desc).map (fun d => d.parameters.length) = some n) (hR : rm.frames + 1 ≤ R.frames ∧ 8 + (maxL + 11) + rm.locals ≤ R.locals)
    (k : ∀ (r : Int32) (mc' : Mm), Qp r mc' → V p l e R s m args below meth c Q nL A cells slots (PL D cA ad ob cO mc' mm v) (pc + 3) lv (.int r :: rest)) :
    V p l e R s m args below meth c Q nL A cells slots (PL D cA ad ob cO mc mm v) pc lv stk := by
  intro H locs ls hP hS hl
  have hG : GC 0 1 := gc (t := 0) (by decide) (ok1 (t := 0) (Nat.le_of_ble_eq_true rfl))
  have hlt : ob < H.size := (Array.getElem?_eq_some_iff.mp hP.1.2).1
  have hr : va_Run p l e R s m args below meth c H locs cells slots 0 0 (F0 m pc ls stk) rest _ _ := va_runV (As := As) (rest := rest) X hM (cwV n X.2.2.2.2 hG5 rfl hrc hrs hy hR) ⟨PcM.blind (ZC_ok ad AC), Rep_recv hW.1 hP.1.1 hG rfl rfl, fun U hU hW9 => ⟨rfl, hW.1.moved hW9, by rw [hU]; exact ZC.narrow (ZC_ok ad A s U s.heap H hW9 hS.2.1 hZ) (fun q h => hA.aw q (Or.inl h)), by rw [hU]; exact hP.1.1⟩⟩ rfl hn hl.1 hstk (lv_room hw) hd hf
  refine va_calli hr hS (fun q _ h => hA.aw q (Or.inl h)) (fun q h => hA.aw q (Or.inl h)) (fun r u t H1 locs1 ht hal hp hb hz hk hS1 => ?_)
  rw [ht] at hb
  exact k r u hp H1 locs1 ls ⟨⟨hb, (hk ob hlt hA.2.2.1.1).trans hP.1.2⟩, Rep_keep hP.2 trivial (fun t i hG => hk _ (Cel_lt (hP.2.2 t i hG)) (fun h => hA.gm hG (Or.inl h)))⟩ hS1 hl
theorem qL_cd (X : Fx p m c cc nL s args own) (hA : AX ad A AC AM ob) (hW : KW D cA cO s) (hZ : ZC ad A s s.heap) {y : MethodName} {bytes : ByteArray} {maxL : Nat} {ret : Option FieldType} {rm : Room} {n index : Nat} {Qp : UInt64 → Mm → Prop} (As rest : List Value) {stk : List Value} (hn : As.length = n) (hstk : stk = As.reverse ++ .ref (ad 0 1) :: rest) (hw : (rest.map fun v => v.category).sum ≤ 8) (hd : decode cc pc = .ok (.invokevirtual index, 3)) (hf : cells ≤ R.cells ∧ slots ≤ R.slots)
    (hM : Met l y (.code y bytes maxL ret :: TG) rm (PcM TT D cA ad false GC (ZC ad AC) (.ref (ad 0 1) :: As) mc) (AnsD TT D cA ad false GC AC Qp) 0 0 AC) (hrc : rm.cells = 0) (hrs : rm.slots = 0) (hG5 : GoodIn TG (wsV own index RX9 y (.code y bytes maxL ret :: TG))) (hy : y.cls = RX9 ∧ y.cls ≠ "java/lang/invoke/MethodHandle" ∧ y.cls ≠ "java/lang/invoke/VarHandle" ∧ (parseMethodDescriptor y.desc).map (fun d => d.parameters.length) = some n) (hR : rm.frames + 1 ≤ R.frames ∧ 8 + (maxL + 11) + rm.locals ≤ R.locals)
    (k : ∀ (r : UInt64) (mc' : Mm), Qp r mc' → V p l e R s m args below meth c Q nL A cells slots (PL D cA ad ob cO mc' mm v) (pc + 3) lv (.double r :: rest)) :
    V p l e R s m args below meth c Q nL A cells slots (PL D cA ad ob cO mc mm v) pc lv stk := by
  intro H locs ls hP hS hl
  have hG : GC 0 1 := gc (t := 0) (by decide) (ok1 (t := 0) (Nat.le_of_ble_eq_true rfl))
  have hlt : ob < H.size := (Array.getElem?_eq_some_iff.mp hP.1.2).1
  have hr : va_Run p l e R s m args below meth c H locs cells slots 0 0 (F0 m pc ls stk) rest _ _ := va_runV (As := As) (rest := rest) X hM (cwV n X.2.2.2.2 hG5 rfl hrc hrs hy hR) ⟨PcM.blind (ZC_ok ad AC), Rep_recv hW.1 hP.1.1 hG rfl rfl, fun U hU hW9 => ⟨rfl, hW.1.moved hW9, by rw [hU]; exact ZC.narrow (ZC_ok ad A s U s.heap H hW9 hS.2.1 hZ) (fun q h => hA.aw q (Or.inl h)), by rw [hU]; exact hP.1.1⟩⟩ rfl hn hl.1 hstk (lv_room hw) hd hf
  refine va_calld hr hS (fun q _ h => hA.aw q (Or.inl h)) (fun q h => hA.aw q (Or.inl h)) (fun r u t H1 locs1 ht hal hp hb hz hk hS1 => ?_)
  rw [ht] at hb
  exact k r u hp H1 locs1 ls ⟨⟨hb, (hk ob hlt hA.2.2.1.1).trans hP.1.2⟩, Rep_keep hP.2 trivial (fun t i hG => hk _ (Cel_lt (hP.2.2 t i hG)) (fun h => hA.gm hG (Or.inl h)))⟩ hS1 hl
/-- what holds all along the law's body -/
def LC (p : Program) (l : Launch) (s : State) (m : MethodId) (args : Array Value) (c : Code) (D : va_G) (cA : Nat → ClassId) (ad : Nat → Nat → Nat) (A AC AM : Nat → Prop) (ob : Nat) (cO : ClassId) (b L : Nat) (xs : Nat → Int32) : Prop :=
  Fx p m c cL_law 9 s args RL ∧ AX ad A AC AM ob ∧ KW D cA cO s ∧ ZC ad A s s.heap ∧ va_X b L xs s s.heap ∧ (b < s.heap.size ∧ ¬ A b) ∧ l.stackTraces = false ∧ L ≤ 2560
variable {b L i : Nat} {xs : Nat → Int32}
/-- the law's locals in its loop -/
abbrev lvL (ad : Nat → Nat → Nat) (ob b i : Nat) : List (Nat × Value) := [(4, .int (nI i)), (3, .ref ob), (2, .ref (ad 30 1)), (1, .ref (ad 0 1)), (0, .ref b)]
/-- one number of the script -/
theorem qL_arg (C : LC p l s m args c D cA ad A AC AM ob cO b L xs) (j : Nat) {n : Int} {j0 j4 : Nat} {P : Heap → Prop} (hn : Int32.ofInt n = nI j) (hj : j ≤ 4) (d0 : decode cL_law pc = .ok (.aload_n 0, 1)) (d1 : decode cL_law (pc + 1) = .ok (.iload 4, 2)) (d2 : decode cL_law (pc + 3) = .ok (.iconst n, 1)) (d3 : decode cL_law (pc + 4) = .ok (.iadd, 1)) (d4 : decode cL_law (pc + 5) = .ok (.iaload, 1)) (h0 : lv[j0]? = some (0, .ref b)) (h4 : lv[j4]? = some (4, .int (nI i))) (hi : i + 4 < L)
    (k : V p l e R s m args below meth c Q 9 A cells slots P (pc + 6) lv (.int (xs (i + j)) :: st)) : V p l e R s m args below meth c Q 9 A cells slots P pc lv st := by
  obtain ⟨X, hA, hW, hZ, hX, ⟨hb1, hb2⟩, hst, hL⟩ := C
  refine q_aload_n X d0 rfl h0 ?_
  refine q_iload X d1 h4 ?_
  refine q_iconst X d2 hn ?_
  refine q_iadd X d3 ?_
  rw [nI_add]
  intro H locs ls hP hS hl
  have hij : (nI (i + j)).toNatClampNeg = i + j := nI_clamp (by omega)
  have hin : vp_in (nI (i + j)) L := nI_in (by omega) (by omega)
  have k := k H locs ls hP hS hl
  rw [← hij] at k
  exact va_sld X.1 X.2.1 hX hb1 hb2 hS hin d4 k
/-- behind both calls: the numbers agree, and the answers -/
theorem tailI (C : LC p l s m args c D cA ad A AC AM ob cO b L xs) {t E : Nat} {off : Int} {k r : Int32} (hroom : cells ≤ R.cells ∧ slots ≤ R.slots) (hR : rm_X10_thrown.frames + 1 ≤ R.frames ∧ 8 + (1 + 11) + rm_X10_thrown.locals ≤ R.locals)
    (hth : mm.1 30 1 0 = k) (han : k = 0 → v = tlI r) (d0 : decode cL_law t = .ok (.aload_n 2, 1)) (d1 : decode cL_law (t + 1) = .ok (.invokevirtual 216, 3)) (d2 : decode cL_law (t + 4) = .ok (.iload 5, 2)) (d3 : decode cL_law (t + 6) = .ok (.if_icmp .eq 5, 3)) (d4 : decode cL_law (t + 11) = .ok (.iload 5, 2)) (d5 : decode cL_law (t + 13) = .ok (.ifCond .ne 15, 3)) (d6 : decode cL_law (t + 16) = .ok (.aload_n 3, 1)) (d7 : decode cL_law (t + 17) = .ok (.iconst 0, 1)) (d8 : decode cL_law (t + 18) = .ok (.laload, 1)) (d9 : decode cL_law (t + 19) = .ok (.iload 6, 2)) (d10 : decode cL_law (t + 21) = .ok (.i2l, 1)) (d11 : decode cL_law (t + 22) = .ok (.lcmp, 1)) (d12 : decode cL_law (t + 23) = .ok (.ifCond .eq 5, 3)) (d13 : decode cL_law (t + 28) = .ok (.goto off, 3)) (hE : ((t + 28 : Nat) : Int) + off = (E : Int))
    (kk : V p l e R s m args below meth c Q 9 A cells slots (PL D cA ad ob cO mc mm v) E (lvL ad ob b i) []) : V p l e R s m args below meth c Q 9 A cells slots (PL D cA ad ob cO mc mm v) t ((6, .int r) :: (5, .int k) :: lvL ad ob b i) [] := by
  have C0 := C
  obtain ⟨X, hA, hW, hZ, hX, hb1, hst, hL⟩ := C
  refine q_aload_n (j := 4) X d0 rfl rfl ?_
  refine qL_m X hA hW [] [] rfl rfl (Nat.le_of_ble_eq_true rfl) d1 hroom (c_X10_thrown hA.2.1 mm (fun r => r = mm.1 30 1 0) rfl) rfl rfl (gV kw_7_56 kw_7_57 kw_7_58 kw_1_11 kw_7_59) hy_X10_thrown hR (fun r0 mm0 hq => ?_)
  obtain ⟨hq, rfl⟩ := hq
  rw [hth] at hq
  subst hq
  refine q_iload (j := 1) X d2 rfl ?_
  refine q_icmp_eq X d3 (tgt := t + 11) (by omega) (fun _ => ?_) (fun hne => absurd rfl hne)
  refine q_iload (j := 1) X d4 rfl ?_
  have fin : V p l e R s m args below meth c Q 9 A cells slots (PL D cA ad ob cO mc mm v) (t + 28) ((6, .int r) :: (5, .int r0) :: lvL ad ob b i) [] := by
    refine q_goto X d13 hE ?_
    exact q_sub [2, 3, 4, 5, 6] rfl kk
  refine q_if_ne X d5 (tgt := t + 28) (by omega) (fun _ => fin) (fun hk0 => ?_)
  refine q_aload_n (j := 3) X d6 rfl rfl ?_
  refine q_iconst (v := 0) X d7 rfl ?_
  intro H locs ls hP hS hl
  refine W.lald (v := .long v) X.1 X.2.1 hP.1.2 (hW.2.1 1 (fun _ => .long v)) (fun q => by cases q) (by show ¬ ((0 : Int32) < 0 ∨ (arrV _ _ _).slots.size ≤ _); rw [arrV_size]; decide) (arrV_read _ _ (by decide)) rfl rfl d8 ?_
  revert H locs ls
  show V p l e R s m args below meth c Q 9 A cells slots (PL D cA ad ob cO mc mm v) (t + 18 + 1) ((6, .int r) :: (5, .int r0) :: lvL ad ob b i) [.long v]
  refine q_iload (j := 0) X d9 rfl ?_
  refine q_i2l X d10 ?_
  refine q_lcmp X d11 ?_
  have hv := han hk0
  unfold tlI at hv
  rw [← hv, lg_self]
  exact q_if_eq X d12 (tgt := t + 28) (by omega) (fun _ => fin) (fun h => absurd rfl h)
theorem tailB (C : LC p l s m args c D cA ad A AC AM ob cO b L xs) {t E : Nat} {off : Int} {k r : Int32} (hroom : cells ≤ R.cells ∧ slots ≤ R.slots) (hR : rm_X10_thrown.frames + 1 ≤ R.frames ∧ 8 + (1 + 11) + rm_X10_thrown.locals ≤ R.locals)
    (hth : mm.1 30 1 0 = k) (han : k = 0 → v = tlB r) (d0 : decode cL_law t = .ok (.aload_n 2, 1)) (d1 : decode cL_law (t + 1) = .ok (.invokevirtual 216, 3)) (d2 : decode cL_law (t + 4) = .ok (.iload 5, 2)) (d3 : decode cL_law (t + 6) = .ok (.if_icmp .eq 5, 3)) (d4 : decode cL_law (t + 11) = .ok (.iload 5, 2)) (d5 : decode cL_law (t + 13) = .ok (.ifCond .ne 22, 3)) (d6 : decode cL_law (t + 16) = .ok (.aload_n 3, 1)) (d7 : decode cL_law (t + 17) = .ok (.iconst 0, 1)) (d8 : decode cL_law (t + 18) = .ok (.laload, 1)) (d9 : decode cL_law (t + 19) = .ok (.iload 6, 2)) (d10 : decode cL_law (t + 21) = .ok (.ifCond .eq 7, 3)) (d10a : decode cL_law (t + 24) = .ok (.lconst 1, 1)) (d10b : decode cL_law (t + 25) = .ok (.goto 4, 3)) (d10c : decode cL_law (t + 28) = .ok (.lconst 0, 1)) (d11 : decode cL_law (t + 29) = .ok (.lcmp, 1)) (d12 : decode cL_law (t + 30) = .ok (.ifCond .eq 5, 3)) (d13 : decode cL_law (t + 35) = .ok (.goto off, 3)) (hE : ((t + 35 : Nat) : Int) + off = (E : Int))
    (kk : V p l e R s m args below meth c Q 9 A cells slots (PL D cA ad ob cO mc mm v) E (lvL ad ob b i) []) : V p l e R s m args below meth c Q 9 A cells slots (PL D cA ad ob cO mc mm v) t ((6, .int r) :: (5, .int k) :: lvL ad ob b i) [] := by
  have C0 := C
  obtain ⟨X, hA, hW, hZ, hX, hb1, hst, hL⟩ := C
  refine q_aload_n (j := 4) X d0 rfl rfl ?_
  refine qL_m X hA hW [] [] rfl rfl (Nat.le_of_ble_eq_true rfl) d1 hroom (c_X10_thrown hA.2.1 mm (fun r => r = mm.1 30 1 0) rfl) rfl rfl (gV kw_7_56 kw_7_57 kw_7_58 kw_1_11 kw_7_59) hy_X10_thrown hR (fun r0 mm0 hq => ?_)
  obtain ⟨hq, rfl⟩ := hq
  rw [hth] at hq
  subst hq
  refine q_iload (j := 1) X d2 rfl ?_
  refine q_icmp_eq X d3 (tgt := t + 11) (by omega) (fun _ => ?_) (fun hne => absurd rfl hne)
  refine q_iload (j := 1) X d4 rfl ?_
  have fin : V p l e R s m args below meth c Q 9 A cells slots (PL D cA ad ob cO mc mm v) (t + 35) ((6, .int r) :: (5, .int r0) :: lvL ad ob b i) [] := by
    refine q_goto X d13 hE ?_
    exact q_sub [2, 3, 4, 5, 6] rfl kk
  refine q_if_ne X d5 (tgt := t + 35) (by omega) (fun _ => fin) (fun hk0 => ?_)
  refine q_aload_n (j := 3) X d6 rfl rfl ?_
  refine q_iconst (v := 0) X d7 rfl ?_
  intro H locs ls hP hS hl
  refine W.lald (v := .long v) X.1 X.2.1 hP.1.2 (hW.2.1 1 (fun _ => .long v)) (fun q => by cases q) (by show ¬ ((0 : Int32) < 0 ∨ (arrV _ _ _).slots.size ≤ _); rw [arrV_size]; decide) (arrV_read _ _ (by decide)) rfl rfl d8 ?_
  revert H locs ls
  show V p l e R s m args below meth c Q 9 A cells slots (PL D cA ad ob cO mc mm v) (t + 18 + 1) ((6, .int r) :: (5, .int r0) :: lvL ad ob b i) [.long v]
  refine q_iload (j := 0) X d9 rfl ?_
  have hv := han hk0
  unfold tlB at hv
  have cmp : ∀ w : Int64, v = w → V p l e R s m args below meth c Q 9 A cells slots (PL D cA ad ob cO mc mm v) (t + 29) ((6, .int r) :: (5, .int r0) :: lvL ad ob b i) [.long w, .long v] := fun w hw => by
    refine q_lcmp X d11 ?_
    rw [← hw, lg_self]
    exact q_if_eq X d12 (tgt := t + 35) (by omega) (fun _ => fin) (fun h => absurd rfl h)
  refine q_if_eq X d10 (tgt := t + 28) (by omega) (fun hz => ?_) (fun hz => ?_)
  · refine q_lconst (v := 0) X d10c rfl ?_
    exact cmp 0 (by rw [hv, if_pos hz])
  · refine q_lconst (v := 1) X d10a rfl ?_
    refine q_goto X d10b (tgt := t + 29) (by omega) ?_
    exact cmp 1 (by rw [hv, if_neg hz])
end LW2
