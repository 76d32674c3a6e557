theorem kw_1_19 : Jvm.Cond.classLink "BondWarehouseLaw" (8 : Nat) "BondWarehouse" ∈ TG := tg_1 19 rfl rfl
theorem kw_1_20 : Jvm.Cond.instantiable "BondWarehouse" (4 : Nat) ∈ TG := tg_1 20 rfl rfl
theorem kw_1_21 : Jvm.Cond.methodLink "BondWarehouseLaw" (206 : Nat) ({ cls := "BondWarehouse", name := "<init>", desc := "()V" } : Jvm.MethodName) ∈ TG := tg_1 21 rfl rfl
theorem kw_1_23 : Jvm.Cond.code ({ cls := "BondWarehouse", name := "<init>", desc := "()V" } : Jvm.MethodName) prog_1_method_1_code (1 : Nat) (Option.none : Option Jvm.ClassFile.FieldType) ∈ TG := tg_1 23 rfl rfl
theorem kw_1_22 : Jvm.Cond.instanceMethod ({ cls := "BondWarehouse", name := "<init>", desc := "()V" } : Jvm.MethodName) ∈ TG := tg_1 22 rfl rfl
theorem kw_7_1 : Jvm.Cond.classLink "BondWarehouseLaw" (207 : Nat) "BondWarehouseModel" ∈ TG := tg_7 1 rfl rfl
theorem kw_7_2 : Jvm.Cond.instantiable "BondWarehouseModel" (16 : Nat) ∈ TG := tg_7 2 rfl rfl
theorem kw_7_3 : Jvm.Cond.methodLink "BondWarehouseLaw" (209 : Nat) ({ cls := "BondWarehouseModel", name := "<init>", desc := "()V" } : Jvm.MethodName) ∈ TG := tg_7 3 rfl rfl
theorem kw_7_5 : Jvm.Cond.code ({ cls := "BondWarehouseModel", name := "<init>", desc := "()V" } : Jvm.MethodName) prog_12_method_1_code (1 : Nat) (Option.none : Option Jvm.ClassFile.FieldType) ∈ TG := tg_7 5 rfl rfl
theorem kw_7_4 : Jvm.Cond.instanceMethod ({ cls := "BondWarehouseModel", name := "<init>", desc := "()V" } : Jvm.MethodName) ∈ TG := tg_7 4 rfl rfl
theorem kw_9_202 : Jvm.Cond.arrayClass Jvm.ClassFile.FieldType.long ∈ TG := tg_9 202 rfl rfl
theorem dL_law_0 : decode cL_law 0 = .ok (.new 8, 3) := by decide +kernel
theorem dL_law_3 : decode cL_law 3 = .ok (.dup, 1) := by decide +kernel
theorem dL_law_4 : decode cL_law 4 = .ok (.invokespecial 206, 3) := by decide +kernel
theorem dL_law_7 : decode cL_law 7 = .ok (.astore_n 1, 1) := by decide +kernel
theorem dL_law_8 : decode cL_law 8 = .ok (.new 207, 3) := by decide +kernel
theorem dL_law_11 : decode cL_law 11 = .ok (.dup, 1) := by decide +kernel
theorem dL_law_12 : decode cL_law 12 = .ok (.invokespecial 209, 3) := by decide +kernel
theorem dL_law_15 : decode cL_law 15 = .ok (.astore_n 2, 1) := by decide +kernel
theorem dL_law_16 : decode cL_law 16 = .ok (.iconst 1, 1) := by decide +kernel
theorem dL_law_17 : decode cL_law 17 = .ok (.newarray .long, 2) := by decide +kernel
theorem dL_law_19 : decode cL_law 19 = .ok (.astore_n 3, 1) := by decide +kernel
theorem dL_law_20 : decode cL_law 20 = .ok (.iconst 0, 1) := by decide +kernel
theorem dL_law_21 : decode cL_law 21 = .ok (.istore 4, 2) := by decide +kernel
section START
theorem q_P {p : Program} {l : Launch} {e : Env} {R : Room} {s : State} {m : MethodId} {args : Array Value} {below : List Frame} {meth : Method} {c : Code} {cells slots nL : Nat} {Q : State → Prop} {A : Nat → Prop} {P P' : Heap → Prop} {pc : Nat} {lv : List (Nat × Value)} {st : List Value} (h : ∀ H, P H → P' H) (k : V p l e R s m args below meth c Q nL A cells slots P' pc lv st) : V p l e R s m args below meth c Q nL A cells slots P pc lv st := fun H locs ls hP => k H locs ls (h H hP)
theorem ME0_0 (f : Nat) : (ME 0).1 0 1 f = 0 ∧ (ME 0).2 0 1 f = 0 := by
  have h2 : ¬ cR 0 1 f ≤ 0 := by
    show ¬ (if f = 0 then 95 else if f = 1 then 840 else if f = 2 then 842 else if f = 3 then 847 else far) ≤ 0
    unfold far
    split
    · decide
    · split
      · decide
      · split
        · decide
        · split <;> decide
  exact ⟨show (if cI 0 1 f ≤ 0 then iI 0 1 f else 0) = 0 from if_neg (show ¬ far ≤ 0 by unfold far; decide), show (if cR 0 1 f ≤ 0 then iR 0 1 f else 0) = 0 from if_neg h2⟩
def st_MR : Mm := st MR fS
theorem MR_dy {t i f x : Nat} (hG : GM t i) (h : kCf t i f = some x) : st_MR.2 t i f = x := by
  have hi := gm_one hG
  subst hi
  have h1 := hG.1
  unfold kCf at h
  split at h
  · omega
  · omega
  · omega
  · omega
  · omega
  · dsimp only at h
    split at h <;> cases h <;> rfl
  · omega
  · omega
  · omega
  · omega
  · cases h
variable {p : Program} {l : Launch} {e : Env} {R : Room} {s : State} {m : MethodId} {args : Array Value} {below : List Frame} {meth : Method} {c : Code} {cells slots : Nat} {Q : State → Prop}
variable {cc : ByteArray} {nL : Nat} {own : String} {D : va_G} {cA : Nat → ClassId} {ad : Nat → Nat → Nat} {Gb : Nat → Nat → Prop} {off : Nat → Nat → Nat} {A AC AM : Nat → Prop} {ob : Nat} {cO : ClassId}
variable {mm mc : Mm} {pc b n : Nat} {lv : List (Nat × Value)} {st : List Value}
theorem conv_C {N : Nat} {sA : Nat → Nat} {H : Heap} (hP : Rep (SZ N 423) D cA (adL N sA) true (GN GC offC 423) (ME 847) H) : Rep TT D cA (adL N sA) false GC (ME 847) H :=
  ⟨trivial, fun t i hG => Cel_dy (fun f x hf h => ME_dy hG hf h) (hP.2 t i ⟨hG, (offC_ok hG).2⟩)⟩
theorem conv_M {N b : Nat} {sA : Nat → Nat} {H : Heap} (hP : Rep (SZ b 7) D cA (adL N sA) true (GN GM offM 7) st_MR H) : Rep TT D cA (adL N sA) false GM st_MR H :=
  ⟨trivial, fun t i hG => Cel_dy (fun f x hf h => MR_dy hG h) (hP.2 t i ⟨hG, by have := hG.1; unfold offM; omega⟩)⟩
/-- one thing more, while other things stand -/
theorem q_newE {E : Heap → Prop} (hE : ∀ H H' : Heap, (∀ q : Nat, q < H.size → H'[q]? = H[q]?) → E H → E H') (X : Fx p m c cc nL s args own) (ax : Ax ad Gb A) (hA : ∀ t i, Gb t i → ad t i = b + off t i) (hK : KV D cA s) {t k ci N index : Nat} {C : String} {T : u_T} (hO : kO t = some (ci, N)) (hc : vwCl[ci]? = some (C, T, N)) (hin : ∀ w ∈ u_ws C T N, w ∈ TG) (ty0 : Nat → FieldType) (hty : ∀ k, k < N → parseFieldDescriptor (T k).2.2.1 = some (ty0 k)) (hdef : ∀ f, f < N → defaultValue (ty0 f) = if kT t f = 0 then .int 0 else .null) (hcl : Cond.classLink own index C ∈ TG) (hins : Cond.instantiable C N ∈ TG) (hini : Cond.initialized C ∈ TG)
    (hG : Gb t k) (ho : off t k = n) (hz : ∀ f, mm.1 t k f = 0 ∧ mm.2 t k f = 0) (hcs : cells + 1 ≤ R.cells) (hss : slots + N ≤ R.slots) (hd : decode cc pc = .ok (.new index, 3))
    (kk : V p l e R s m args below meth c Q nL A (cells + 1) (slots + N) (fun H => Rep (SZ b (n + 1)) D cA ad true (GN Gb off (n + 1)) mm H ∧ E H) (pc + 3) lv (.ref (ad t k) :: st)) : V p l e R s m args below meth c Q nL A cells slots (fun H => Rep (SZ b n) D cA ad true (GN Gb off n) mm H ∧ E H) pc lv st := by
  intro H locs ls hP hS hl
  have hsz : H.size = ad t k := by rw [hA _ _ hG, ho]; exact hP.1.1
  have hKn := hK.1.1 ci _ hc
  refine W.newcK X.1 X.2.1 X.2.2.2.1 (X.2.2.2.2 _ hcl) (X.2.2.2.2 _ hins) (X.2.2.2.2 _ hini) rfl hd hcs hss hKn.2.1 hsz (fun H1 kC hkC e1 z1 o1 => ?_)
  have hb : ad t k = b + n := by rw [hA _ _ hG, ho]
  refine kk H1 locs ls ⟨Rep_new ax hA hG ho hP.1 (by rw [z1, hb]) (fun q hq => o1 q (by rw [hb]; exact hq)) ?_, hE H H1 (fun q hq => o1 q (by rw [← hsz]; exact hq)) hP.2⟩ ⟨Nat.le_trans hS.1 (by omega), fun x h1 h2 => (o1 x (Nat.lt_of_lt_of_le h1 (by rw [← hsz]; exact hS.1))).trans (hS.2.1 x h1 h2), hS.2.2⟩ hl
  unfold Cel
  rw [hO]
  exact (u_born ty0 X.2.2.2.2 hin hKn hkC e1 hty).to (fun j hj => (hdef j hj).trans (fv_zero hz j).symm)
/-- the reference's constructor, while the class stands -/
theorem q_initM (X : Fx p m c cc nL s args own) (hA : AX ad A AC AM ob) (hK : KV D cA s) {y : MethodName} {bytes : ByteArray} {maxL : Nat} {rm : Room} {ms1 ms2 index n1 n2 b0 : Nat} {Qp : Mm → Prop} (rest : List Value) {stk : List Value} (hstk : stk = .ref b0 :: rest) (hw : (rest.map fun v => v.category).sum ≤ 8) (hd : decode cc pc = .ok (.invokespecial index, 3)) (hf : cells + ms1 ≤ R.cells ∧ slots + ms2 ≤ R.slots)
    (hM : Met l y (.code y bytes maxL none :: TG) rm (PcM (SZ b n1) D cA ad true (GN GM offM n1) ZM [.ref b0] mm) (AnsV (SZ b n2) D cA ad true (GN GM offM n2) AM Qp) ms1 ms2 AM) (hrc : rm.cells = ms1) (hrs : rm.slots = ms2) (hlink : Cond.methodLink own index y ∈ TG) (hini : Cond.initialized y.cls ∈ TG) (hcode : Cond.code y bytes maxL none ∈ TG) (hinst : Cond.instanceMethod y ∈ TG) (hy1 : y.name = "<init>") (hy : y.cls ≠ "java/lang/invoke/MethodHandle" ∧ y.cls ≠ "java/lang/invoke/VarHandle" ∧ (parseMethodDescriptor y.desc).map (fun d => d.parameters.length) = some 0) (hR : rm.frames + 1 ≤ R.frames ∧ 8 + (maxL + 11) + rm.locals ≤ R.locals)
    (k : ∀ mm' : Mm, Qp mm' → V p l e R s m args below meth c Q nL A (cells + ms1) (slots + ms2) (fun H => Rep (SZ b n2) D cA ad true (GN GM offM n2) mm' H ∧ Rep TT D cA ad false GC mc H) (pc + 3) lv rest) :
    V p l e R s m args below meth c Q nL A cells slots (fun H => Rep (SZ b n1) D cA ad true (GN GM offM n1) mm H ∧ Rep TT D cA ad false GC mc H) pc lv stk := by
  intro H locs ls hP hS hl
  have hr : va_Run p l e R s m args below meth c H locs cells slots ms1 ms2 (F0 m pc ls stk) rest _ _ := va_runI (As := []) (rest := rest) X hM (cwI 0 X.2.2.2.2 (tg_self hcode) rfl hrc hrs (X.2.2.2.2 _ hini) (X.2.2.2.2 _ hlink) (X.2.2.2.2 _ hinst) hy1 hy hR) ⟨PcM.blind (ZM_ok AM), fun U hU hW9 => ⟨rfl, hK.moved hW9, trivial, by rw [hU]; exact hP.1⟩⟩ rfl rfl hl.1 hstk (lv_room hw) hd hf
  refine va_callv hr hS (fun q _ h => hA.2.2.2.2 q h) (fun q h => hA.2.2.2.2 q h) (fun u t H1 locs1 ht hal hp hb hz hk hS1 => ?_)
  rw [ht] at hb
  exact k u hp H1 locs1 ls ⟨hb, Rep_keep hP.2 trivial (fun t i hG => hk _ (Cel_lt (hP.2.2 t i hG)) (hA.gc hG))⟩ hS1 hl
/-- the row for the answers -/
theorem q_newL (X : Fx p m c cc nL s args own) (hcO : s.vm.findClass ("[" ++ (FieldType.long).toString) = some cO) (hsz0 : ∀ H : Heap, Rep (SZ b n) D cA ad true (GN GM offM n) mm H → H.size = ob) (cv : ∀ H : Heap, Rep (SZ b n) D cA ad true (GN GM offM n) mm H → Rep TT D cA ad false GM mm H) (harr : Cond.arrayClass .long ∈ TG) (hd : decode cc pc = .ok (.newarray .long, 2)) (hcs : cells + 1 ≤ R.cells) (hss : slots + 1 ≤ R.slots)
    (k : V p l e R s m args below meth c Q nL A (cells + 1) (slots + 1) (PL D cA ad ob cO mc mm 0) (pc + 2) lv (.ref ob :: st)) : V p l e R s m args below meth c Q nL A cells slots (fun H => Rep (SZ b n) D cA ad true (GN GM offM n) mm H ∧ Rep TT D cA ad false GC mc H) pc lv (.int 1 :: st) := by
  intro H locs ls hP hS hl
  have e1 : (1 : Int32).toNatClampNeg = 1 := by decide
  have hsz := hsz0 H hP.1
  refine W.newa (atype := .long) X.1 X.2.1 (X.2.2.2.2 _ harr) rfl hd rfl (by decide) (by rw [e1]; decide) hcs (by rw [e1]; exact hss) (fun cA0 kA comp h1 h2 h3 => ?_)
  have h9 : cA0 = cO := Option.some.inj (h1.symm.trans hcO)
  subst h9
  rw [e1, hsz]
  refine k _ locs ls ⟨⟨Rep_keep hP.2 trivial (fun t i hG => push_q (Cel_lt (hP.2.2 t i hG))), ?_⟩, Rep_keep (cv H hP.1) trivial (fun t i hG => push_q (Cel_lt ((cv H hP.1).2 t i hG)))⟩ hS.push hl
  rw [← hsz, Array.getElem?_push_size, arrV_new]
  rfl
end START
