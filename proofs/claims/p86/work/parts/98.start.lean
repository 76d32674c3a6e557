theorem kw_1_18 : Jvm.Cond.classLink "BondWarehouseLaw" (8 : Nat) "BondWarehouse" ∈ TG := tg_1 18 rfl rfl
theorem kw_1_19 : Jvm.Cond.instantiable "BondWarehouse" (4 : Nat) ∈ TG := tg_1 19 rfl rfl
theorem kw_1_20 : Jvm.Cond.methodLink "BondWarehouseLaw" (453 : Nat) ({ cls := "BondWarehouse", name := "<init>", desc := "()V" } : Jvm.MethodName) ∈ TG := tg_1 20 rfl rfl
theorem kw_1_22 : Jvm.Cond.code ({ cls := "BondWarehouse", name := "<init>", desc := "()V" } : Jvm.MethodName) prog_1_method_1_code (1 : Nat) (Option.none : Option Jvm.ClassFile.FieldType) ∈ TG := tg_1 22 rfl rfl
theorem kw_1_21 : Jvm.Cond.instanceMethod ({ cls := "BondWarehouse", name := "<init>", desc := "()V" } : Jvm.MethodName) ∈ TG := tg_1 21 rfl rfl
section START
theorem q_P {p : Program} {l : Launch} {e : Env} {R : Room} {s : State} {m : MethodId} {args : Array Value} {below : List Frame} {meth : Method} {c : Code} {cells slots nL : Nat} {Q : State → Prop} {A : Nat → Prop} {P P' : Heap → Prop} {pc : Nat} {lv : List (Nat × Value)} {st : List Value} (h : ∀ H, P H → P' H) (k : V p l e R s m args below meth c Q nL A cells slots P' pc lv st) : V p l e R s m args below meth c Q nL A cells slots P pc lv st := fun H locs ls hP => k H locs ls (h H hP)
theorem ME0_0 (f : Nat) : (ME 0).1 0 1 f = 0 ∧ (ME 0).2 0 1 f = 0 := by
  have h2 : ¬ cR 0 1 f ≤ 0 := by
    show ¬ (if f = 0 then 95 else if f = 1 then 840 else if f = 2 then 842 else if f = 3 then 847 else far) ≤ 0
    unfold far
    split
    · decide
    · split
      · decide
      · split
        · decide
        · split <;> decide
  exact ⟨show (if cI 0 1 f ≤ 0 then iI 0 1 f else 0) = 0 from if_neg (show ¬ far ≤ 0 by unfold far; decide), show (if cR 0 1 f ≤ 0 then iR 0 1 f else 0) = 0 from if_neg h2⟩
theorem fS_0 {j : Nat} (h1 : 32 ≤ j) : fS j = 0 := by
  unfold fS
  rw [up_ne _ _ (by omega), up_ne _ _ (by omega), up_ne _ _ (by omega), up_ne _ _ (by omega), up_ne _ _ (by omega), up_ne _ _ (by omega), up_ne _ _ (by omega), up_ne _ _ (by omega), up_ne _ _ (by omega), up_ne _ _ (by omega)]
theorem JI_fS : JI fS := by
  have hm : mo fS = 0 := by unfold mo; rw [fS_0 (by decide)]; rfl
  have hr : mr fS = 0 := by unfold mr; rw [fS_0 (by decide)]; rfl
  have hs : ∀ q v, sq fS q v = 0 := fun q v => by unfold sq; rw [hm]; rfl
  have hq : ∀ v, rq fS v = 0 := fun v => by unfold rq; rw [hr]; rfl
  refine ⟨⟨fun e he => ?_, fun x y h1 h2 => ?_⟩, ⟨by decide, Or.inl (by decide)⟩, fun c hc => ?_, fun kd hk => ?_⟩
  · rw [hm] at he; omega
  · rw [hm] at h2; omega
  · rw [hs]; omega
  · have ht : ∀ q, tn fS kd q = 0 := fun q => by unfold tn; rw [fS_0 (by omega)]; rfl
    refine ⟨fun q hq6 => ?_, ?_, ?_, ?_⟩
    · rw [ht, fS_0 (by omega)]; rfl
    · rw [ht, ht, ht, ht, ht, hs]
    · rw [ht]; omega
    · rw [ht, ht, hq]; omega
/-- a warehouse as it begins -/
def u0 : PS := (fS, 0, fun _ => fS, fun _ => none)
theorem R_first : RelN 0 (ME 847) u0 := by
  refine ⟨st MR fS, Rel_first, rfl, ?_, Nat.zero_le _, fun j hj => absurd hj (Nat.not_lt_zero _), fun j hj => ⟨fun _ => ?_, fun f hf => by cases hf⟩, ?_⟩
  · rw [st_ne _ _ (by decide)]; rfl
  · rw [st_ne _ _ (by decide)]; rfl
  · rw [st_ne _ _ (by decide)]; rfl
theorem JP_first : JP u0 := ⟨JI_fS, fun j hj => absurd hj (Nat.not_lt_zero _), fun j f _ hf => by cases hf⟩
variable {p : Program} {l : Launch} {e : Env} {R : Room} {s : State} {m : MethodId} {args : Array Value} {below : List Frame} {meth : Method} {c : Code} {cells slots : Nat} {Q : State → Prop}
variable {cc : ByteArray} {nL : Nat} {own : String} {D : va_G} {cA : Nat → ClassId} {ad : Nat → Nat → Nat} {Gb : Nat → Nat → Prop} {off : Nat → Nat → Nat} {A : Nat → Prop}
variable {mm mc : Mm} {pc b n : Nat} {lv : List (Nat × Value)} {st : List Value}
theorem conv_C {N : Nat} {sA : Nat → Nat} {H : Heap} (hP : Rep (SZ N 423) D cA (adL N sA) true (GN GC offC 423) (ME 847) H) : Rep TT D cA (adL N sA) false GC (ME 847) H :=
  ⟨trivial, fun t i hG => Cel_dy (fun f x hf h => ME_dy hG hf h) (hP.2 t i ⟨hG, (offC_ok hG).2⟩)⟩
theorem q_PS {P P' : Heap → Prop} (h : ∀ (H : Heap) (locs : List Loc), P H → va_S A s.heap H locs → P' H) (k : V p l e R s m args below meth c Q nL A cells slots P' pc lv st) : V p l e R s m args below meth c Q nL A cells slots P pc lv st := fun H locs ls hP hS hl => k H locs ls (h H locs hP hS) hS hl
/-- one thing more, while other things stand -/
theorem q_newE {E : Heap → Prop} (hE : ∀ H H' : Heap, (∀ q : Nat, q < H.size → H'[q]? = H[q]?) → E H → E H') (X : Fx p m c cc nL s args own) (ax : Ax ad Gb A) (hA : ∀ t i, Gb t i → ad t i = b + off t i) (hK : KV D cA s) {t k ci N index : Nat} {C : String} {T : u_T} (hO : kO t = some (ci, N)) (hc : vwCl[ci]? = some (C, T, N)) (hin : ∀ w ∈ u_ws C T N, w ∈ TG) (ty0 : Nat → FieldType) (hty : ∀ k, k < N → parseFieldDescriptor (T k).2.2.1 = some (ty0 k)) (hdef : ∀ f, f < N → defaultValue (ty0 f) = if kT t f = 0 then .int 0 else .null) (hcl : Cond.classLink own index C ∈ TG) (hins : Cond.instantiable C N ∈ TG) (hini : Cond.initialized C ∈ TG)
    (hG : Gb t k) (ho : off t k = n) (hz : ∀ f, mm.1 t k f = 0 ∧ mm.2 t k f = 0) (hcs : cells + 1 ≤ R.cells) (hss : slots + N ≤ R.slots) (hd : decode cc pc = .ok (.new index, 3))
    (kk : V p l e R s m args below meth c Q nL A (cells + 1) (slots + N) (fun H => Rep (SZ b (n + 1)) D cA ad true (GN Gb off (n + 1)) mm H ∧ E H) (pc + 3) lv (.ref (ad t k) :: st)) : V p l e R s m args below meth c Q nL A cells slots (fun H => Rep (SZ b n) D cA ad true (GN Gb off n) mm H ∧ E H) pc lv st := by
  intro H locs ls hP hS hl
  have hsz : H.size = ad t k := by rw [hA _ _ hG, ho]; exact hP.1.1
  have hKn := hK.1.1 ci _ hc
  refine W.newcK X.1 X.2.1 X.2.2.2.1 (X.2.2.2.2 _ hcl) (X.2.2.2.2 _ hins) (X.2.2.2.2 _ hini) rfl hd hcs hss hKn.2.1 hsz (fun H1 kC hkC e1 z1 o1 => ?_)
  have hb : ad t k = b + n := by rw [hA _ _ hG, ho]
  refine kk H1 locs ls ⟨Rep_new ax hA hG ho hP.1 (by rw [z1, hb]) (fun q hq => o1 q (by rw [hb]; exact hq)) ?_, hE H H1 (fun q hq => o1 q (by rw [← hsz]; exact hq)) hP.2⟩ ⟨Nat.le_trans hS.1 (by omega), fun x h1 h2 => (o1 x (Nat.lt_of_lt_of_le h1 (by rw [← hsz]; exact hS.1))).trans (hS.2.1 x h1 h2), hS.2.2⟩ hl
  unfold Cel
  rw [hO]
  exact (u_born ty0 X.2.2.2.2 hin hKn hkC e1 hty).to (fun j hj => (hdef j hj).trans (fv_zero hz j).symm)
/-- the second one is made, while the first one stands -/
theorem q_initE (X : Fx p m c cc nL s args own) {A2 : Nat → Prop} (hA0 : ∀ q, A2 q → A q) (hK : KV D cA s) (hZ : ZC ad A s s.heap) {E : Heap → Prop} (hE : ∀ H H' : Heap, (∀ q : Nat, q < H.size → ¬ A2 q → H'[q]? = H[q]?) → E H → E H') {y : MethodName} {bytes : ByteArray} {maxL : Nat} {rm : Room} {ms1 ms2 index n1 n2 b0 : Nat} {Qp : Mm → Prop} (rest : List Value) {stk : List Value} (hstk : stk = .ref b0 :: rest) (hw : (rest.map fun v => v.category).sum ≤ 8) (hd : decode cc pc = .ok (.invokespecial index, 3)) (hf : cells + ms1 ≤ R.cells ∧ slots + ms2 ≤ R.slots)
    (hM : Met l y (.code y bytes maxL none :: TG) rm (PcM (SZ b n1) D cA ad true (GN GC offC n1) (ZC ad A2) [.ref b0] mm) (AnsV (SZ b n2) D cA ad true (GN GC offC n2) A2 Qp) ms1 ms2 A2) (hrc : rm.cells = ms1) (hrs : rm.slots = ms2) (hlink : Cond.methodLink own index y ∈ TG) (hini : Cond.initialized y.cls ∈ TG) (hcode : Cond.code y bytes maxL none ∈ TG) (hinst : Cond.instanceMethod y ∈ TG) (hy1 : y.name = "<init>") (hy : y.cls ≠ "java/lang/invoke/MethodHandle" ∧ y.cls ≠ "java/lang/invoke/VarHandle" ∧ (parseMethodDescriptor y.desc).map (fun d => d.parameters.length) = some 0) (hR : rm.frames + 1 ≤ R.frames ∧ 8 + (maxL + 11) + rm.locals ≤ R.locals)
    (k : ∀ mm' : Mm, Qp mm' → V p l e R s m args below meth c Q nL A (cells + ms1) (slots + ms2) (fun H => Rep (SZ b n2) D cA ad true (GN GC offC n2) mm' H ∧ E H) (pc + 3) lv rest) :
    V p l e R s m args below meth c Q nL A cells slots (fun H => Rep (SZ b n1) D cA ad true (GN GC offC n1) mm H ∧ E H) pc lv stk := by
  intro H locs ls hP hS hl
  have hr : va_Run p l e R s m args below meth c H locs cells slots ms1 ms2 (F0 m pc ls stk) rest _ _ := va_runI (As := []) (rest := rest) X hM (cwI 0 X.2.2.2.2 (tg_self hcode) rfl hrc hrs (X.2.2.2.2 _ hini) (X.2.2.2.2 _ hlink) (X.2.2.2.2 _ hinst) hy1 hy hR) ⟨PcM.blind (ZC_ok ad A2), fun U hU hW9 => ⟨rfl, hK.moved hW9, by rw [hU]; exact ZC.narrow (ZC_ok ad A s U s.heap H hW9 hS.2.1 hZ) hA0, by rw [hU]; exact hP.1⟩⟩ rfl rfl hl.1 hstk (lv_room hw) hd hf
  refine va_callv hr hS (fun q _ h => hA0 q h) (fun q h => hA0 q h) (fun u t H1 locs1 ht hal hp hb hz hk hS1 => ?_)
  rw [ht] at hb
  exact k u hp H1 locs1 ls ⟨hb, hE H H1 hk hP.2⟩ hS1 hl
end START
