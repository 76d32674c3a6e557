section LW0
/-- the machine's facts that the law's methods hold: those of the kinds, the long row's class, exceptions that are none of another's class -/
def KW (D : va_G) (cA : Nat → ClassId) (cO : ClassId) (U : State) : Prop := KV D cA U ∧ ArrOfT U cO .long ∧ va_Nc (exN 2) (exN 1) U ∧ va_Nc (exN 3) (exN 1) U ∧ va_Nc (exN 3) (exN 2) U
theorem KW.moved {D : va_G} {cA : Nat → ClassId} {cO : ClassId} {U U' : State} (hW : U.WarmedH U'.vm) (h : KW D cA cO U) : KW D cA cO U' :=
  ⟨h.1.moved hW, arrOfT_moved hW.alike h.2.1, h.2.2.1.moved hW.alike, h.2.2.2.1.moved hW.alike, h.2.2.2.2.moved hW.alike⟩
theorem ZC.narrow {ad : Nat → Nat → Nat} {A B : Nat → Prop} {U : State} {H : Heap} (h : ZC ad A U H) (hAB : ∀ q, B q → A q) : ZC ad B U H :=
  ⟨fun r hr => ⟨va_Z.narrow (h.1 r hr).1 hAB, va_T.narrow (h.1 r hr).2 hAB⟩, vx_Zq.narrow h.2.1 hAB, vx_Zq.narrow h.2.2.1 hAB, h.2.2.2⟩
/-- the row that takes the answer -/
def ocell (cO : ClassId) (v : Int64) : Cell := arrV cO 1 (fun _ => .long v)
def PW (D : va_G) (cA : Nat → ClassId) (ad : Nat → Nat → Nat) (ob : Nat) (cO : ClassId) (mm : Mm) (v : Int64) (H : Heap) : Prop := Rep TT D cA ad false GC mm H ∧ H[ob]? = some (ocell cO v)
def AW (A : Nat → Prop) (ob : Nat) : Nat → Prop := fun q => A q ∨ q = ob
def PcL (D : va_G) (cA : Nat → ClassId) (ad : Nat → Nat → Nat) (A : Nat → Prop) (ob : Nat) (cO : ClassId) (av : List Value) (mm : Mm) (v : Int64) : Array Value → State → Prop := va_Pc av (fun U => KW D cA cO U ∧ ZC ad (AW A ob) U U.heap ∧ PW D cA ad ob cO mm v U.heap)
theorem PcL.blind {D : va_G} {cA : Nat → ClassId} {ad : Nat → Nat → Nat} {A : Nat → Prop} {ob : Nat} {cO : ClassId} {av : List Value} {mm : Mm} {v : Int64} : FrameBlind (PcL D cA ad A ob cO av mm v) :=
  fun a U g mk h => ⟨h.1, h.2.1.moved (warm_calling U g mk a), ZC_ok ad (AW A ob) _ _ _ _ (warm_calling U g mk a) (fun _ _ _ => rfl) h.2.2.1, h.2.2.2⟩
/-- the end of a wrapper: its number, what the row holds, the class's memory -/
abbrev QcL (D : va_G) (cA : Nat → ClassId) (ad : Nat → Nat → Nat) (A : Nat → Prop) (ob : Nat) (cO : ClassId) (Qk : Int32 → Int64 → Mm → Prop) : Array Value → State → Outcome → State → Prop := va_Qi (S := Mm × Int64) (fun k u => Qk k u.2 u.1) (fun u t => PW D cA ad ob cO u.1 u.2 t.heap) (AW A ob)
/-- what a wrapper says: 0 and the answer, or the exception's number -/
def QW (tl : Int32 → Int64) (xf : Nat → Int32) (Q9 : Int32 → Mm → Prop) (X9 : Nat → Mm → Prop) (k : Int32) (w : Int64) (m1 : Mm) : Prop := (k = 0 ∧ ∃ r : Int32, w = tl r ∧ Q9 r m1) ∨ (¬ k = 0 ∧ ∃ k0, k = xf k0 ∧ X9 k0 m1)
def tlI (r : Int32) : Int64 := r.toInt64
def tlB (r : Int32) : Int64 := if r = 0 then 0 else 1
theorem Cel_lt {D : va_G} {cA : Nat → ClassId} {ad : Nat → Nat → Nat} {dy : Bool} {mm : Mm} {H : Heap} {t i : Nat} (h : Cel D cA ad dy mm H t i) : ad t i < H.size := by
  unfold Cel at h
  cases hk : kO t with
  | none => rw [hk] at h; exact (Array.getElem?_eq_some_iff.mp h).1
  | some q =>
    rw [hk] at h
    obtain ⟨cell, q1, -⟩ := h
    exact (Array.getElem?_eq_some_iff.mp q1).1
theorem Rep_keep {F F' : Nat → Prop} {D : va_G} {cA : Nat → ClassId} {ad : Nat → Nat → Nat} {dy : Bool} {G : Nat → Nat → Prop} {mm : Mm} {H H' : Heap} (hP : Rep F D cA ad dy G mm H) (hF : F' H'.size) (hq : ∀ t i, G t i → H'[ad t i]? = H[ad t i]?) : Rep F' D cA ad dy G mm H' := by
  refine ⟨hF, fun t i hG => ?_⟩
  have h1 := hP.2 t i hG
  unfold Cel at h1 ⊢
  cases hk : kO t with
  | none => rw [hk] at h1; show H'[ad t i]? = _; rw [hq _ _ hG]; exact h1
  | some q => rw [hk] at h1; exact h1.kept (hq _ _ hG)
variable {p : Program} {l : Launch} {e : Env} {R : Room} {s : State} {m : MethodId} {args : Array Value} {below : List Frame} {meth : Method} {c : Code} {cells slots : Nat} {Q : State → Prop}
variable {cc : ByteArray} {nL : Nat} {own : String} {D : va_G} {cA : Nat → ClassId} {ad : Nat → Nat → Nat} {A : Nat → Prop} {ob : Nat} {cO : ClassId}
variable {mm : Mm} {v : Int64} {pc : Nat} {lv : List (Nat × Value)} {st : List Value}
theorem enterL {y : MethodName} {bytes : ByteArray} {maxL mc ms : Nat} {rm : Room} {hh : List (Nat × Nat × Nat × Nat)} {av : List Value} {lv0 : List (Nat × Value)} {Qk : Int32 → Int64 → Mm → Prop} (hy : plainName y.cls = true) (hlv : lv_args 0 av = lv0) (hlen : (lg_sl av).length ≤ maxL)
    (body : ∀ (p : Program) (e : Env) (s : State) (m : MethodId) (args : Array Value) (below : List Frame) (meth : Method) (c : Code) (Q : State → Prop), Fx p m c bytes maxL s args y.cls → c.exceptionTable.toList = tableOf hh → KW D cA cO s → ZC ad (AW A ob) s s.heap →
      (∀ (cells slots pc : Nat) (lv : List (Nat × Value)) (r : Int32) (mm' : Mm) (v' : Int64), decode bytes pc = .ok (.ireturn, 1) → cells ≤ mc → slots ≤ ms → Qk r v' mm' → V p l e rm s m args below meth c Q maxL (AW A ob) cells slots (PW D cA ad ob cO mm' v') pc lv [.int r]) →
      V p l e rm s m args below meth c Q maxL (AW A ob) 0 0 (PW D cA ad ob cO mm v) 0 lv0 []) :
    Met l y (.codeWith y bytes maxL (some .int) hh :: TG) rm (PcL D cA ad A ob cO av mm v) (QcL D cA ad A ob cO Qk) mc ms (AW A ob) := by
  refine va_MetW (cc := bytes) (maxL := maxL) (ret := (some .int)) (hh := hh) hy rfl ?_
  intro p e s m args below meth c s₁ B hml hv
  obtain ⟨rfl, hK, hZ, hP0⟩ := hv
  have hts := atoms_spec (ws := .codeWith y bytes maxL (some .int) hh :: TG) B.pre
  have htab := vx_table (x := y) B (hts _ List.mem_cons_self)
  have hl := lv_entry av (n := maxL) hlen
  rw [lg_entry_eq]
  rw [hlv] at hl
  refine body p e s m _ below meth c _ ⟨B.exec, B.bytes, hml, findClass_of_methodNamed B.named, fun w hw => hts w (List.mem_cons_of_mem _ hw)⟩ htab hK hZ ?_ s.heap [] _ hP0 va_S.rf hl
  intro cells slots pc lv r mm' v' hd hc hs hq H locs ls hP hS hl
  refine W.widen hc hs ?_
  exact W.iret B.exec B.bytes B.returns (fun t ht hW => ⟨⟨r, (mm', v'), rfl, hq, by show PW _ _ _ _ _ _ _ t.heap; rw [ht]; exact hP⟩, hS.F ht⟩) hS.2.2 hd B.notSynchronized
theorem q_widen {P : Heap → Prop} {N : Nat} {c1 s1 : Nat} (h1 : cells ≤ c1) (h2 : slots ≤ s1) (k : V p l e R s m args below meth c Q N A c1 s1 P pc lv st) : V p l e R s m args below meth c Q N A cells slots P pc lv st := q_w h1 h2 k
/-- where a thrown exception is caught -/
def Ct (own : String) (c : Code) (args : Array Value) (s : State) (pc k0 h : Nat) : Prop := ∃ (pre : List ExceptionTableEntry) (x : ExceptionTableEntry) (suf : List ExceptionTableEntry), c.exceptionTable.toList = pre ++ x :: suf ∧ (∀ z ∈ pre, covers z pc = false ∨ (z.catchType ≠ 0 ∧ ∃ nm : String, (Cond.classLink own z.catchType nm).before args s = true ∧ va_Nc (exN k0) nm s)) ∧ covers x pc = true ∧ x.catchType ≠ 0 ∧ (Cond.classLink own x.catchType (exN k0)).before args s = true ∧ x.handlerPc = h
theorem Ct1 {hh : List (Nat × Nat × Nat × Nat)} {a b h1 t1 k1 pc : Nat} {suf : List (Nat × Nat × Nat × Nat)} (htab : c.exceptionTable.toList = tableOf hh) (e : hh = (a, b, h1, t1) :: suf) (hc : covers ⟨a, b, h1, t1⟩ pc = true) (ht : t1 ≠ 0) (hl : (Cond.classLink own t1 (exN k1)).before args s = true) : Ct own c args s pc k1 h1 :=
  ⟨[], ⟨a, b, h1, t1⟩, tableOf suf, by rw [htab, e]; rfl, fun _ h => (nomatch h), hc, ht, hl, rfl⟩
theorem Ct2 {hh : List (Nat × Nat × Nat × Nat)} {a b h1 t1 k1 a2 b2 h2 t2 k2 pc : Nat} {suf : List (Nat × Nat × Nat × Nat)} (htab : c.exceptionTable.toList = tableOf hh) (e : hh = (a, b, h1, t1) :: (a2, b2, h2, t2) :: suf) (hc : covers ⟨a2, b2, h2, t2⟩ pc = true) (ht1 : t1 ≠ 0) (ht2 : t2 ≠ 0) (hl1 : (Cond.classLink own t1 (exN k1)).before args s = true) (hl2 : (Cond.classLink own t2 (exN k2)).before args s = true) (hn : va_Nc (exN k2) (exN k1) s) : Ct own c args s pc k2 h2 :=
  ⟨[⟨a, b, h1, t1⟩], ⟨a2, b2, h2, t2⟩, tableOf suf, by rw [htab, e]; rfl, fun z hz => by
    cases List.mem_singleton.mp hz
    exact Or.inr ⟨ht1, _, hl1, hn⟩, hc, ht2, hl2, rfl⟩
theorem Ct3 {hh : List (Nat × Nat × Nat × Nat)} {a b h1 t1 k1 a2 b2 h2 t2 k2 a3 b3 h3 t3 k3 pc : Nat} {suf : List (Nat × Nat × Nat × Nat)} (htab : c.exceptionTable.toList = tableOf hh) (e : hh = (a, b, h1, t1) :: (a2, b2, h2, t2) :: (a3, b3, h3, t3) :: suf) (hc : covers ⟨a3, b3, h3, t3⟩ pc = true) (ht1 : t1 ≠ 0) (ht2 : t2 ≠ 0) (ht3 : t3 ≠ 0) (hl1 : (Cond.classLink own t1 (exN k1)).before args s = true) (hl2 : (Cond.classLink own t2 (exN k2)).before args s = true) (hl3 : (Cond.classLink own t3 (exN k3)).before args s = true) (hn1 : va_Nc (exN k3) (exN k1) s) (hn2 : va_Nc (exN k3) (exN k2) s) : Ct own c args s pc k3 h3 :=
  ⟨[⟨a, b, h1, t1⟩, ⟨a2, b2, h2, t2⟩], ⟨a3, b3, h3, t3⟩, tableOf suf, by rw [htab, e]; rfl, fun z hz => by
    rcases List.mem_cons.mp hz with rfl | hz
    · exact Or.inr ⟨ht1, _, hl1, hn1⟩
    · cases List.mem_singleton.mp hz
      exact Or.inr ⟨ht2, _, hl2, hn2⟩, hc, ht3, hl3, rfl⟩
theorem exN_cast (hZ : ZC ad (AW A ob) s s.heap) (k : Nat) (h : k < 4) : (Cond.castable (exN k) (exN k)).before args s = true := va_Nw.use rfl (hZ.2.2.2.2.1 k h)
/-- the wrapper's call of the class: it returns, or it is caught -/
theorem qW_call (X : Fx p m c cc nL s args own) (hW : KW D cA cO s) (hZ : ZC ad (AW A ob) s s.heap) (hob : ¬ A ob) {y : MethodName} {bytes : ByteArray} {maxL : Nat} {ret : Option FieldType} {rm : Room} {mc ms n index : Nat} {Qp : Int32 → Mm → Prop} {Xp : Nat → Mm → Prop} (As rest : List Value) {stk : List Value} (hn : As.length = n) (hstk : stk = As.reverse ++ .ref (ad 0 1) :: rest) (hw : (rest.map fun v => v.category).sum ≤ 8) (hd : decode cc pc = .ok (.invokevirtual index, 3)) (hf : cells + mc ≤ R.cells ∧ slots + ms ≤ R.slots)
    (hM : vx_Met l y (.code y bytes maxL ret :: TG) rm (PcM TT D cA ad false GC (ZC ad A) (.ref (ad 0 1) :: As) mm) (AnsI TT D cA ad false GC A Qp) (AnsX TT D cA ad false GC A Xp) mc ms A) (hrc : rm.cells = mc) (hrs : rm.slots = ms) (hG5 : GoodIn TG (wsV own index RX9 y (.code y bytes maxL ret :: TG))) (hy : y.cls = RX9 ∧ y.cls ≠ "java/lang/invoke/MethodHandle" ∧ y.cls ≠ "java/lang/invoke/VarHandle" ∧ (parseMethodDescriptor y.desc).map (fun d => d.parameters.length) = some n) (hR : rm.frames + 1 ≤ R.frames ∧ 8 + (maxL + 11) + rm.locals ≤ R.locals)
    (kx : ∀ (k0 : Nat) (mm' : Mm), Xp k0 mm' → ∃ h, k0 < 4 ∧ Ct own c args s pc k0 h ∧ ∀ q : Nat, V p l e R s m args below meth c Q nL (AW A ob) (cells + mc) (slots + ms) (PW D cA ad ob cO mm' v) h lv [.ref q])
    (kk : ∀ (r : Int32) (mm' : Mm), Qp r mm' → V p l e R s m args below meth c Q nL (AW A ob) (cells + mc) (slots + ms) (PW D cA ad ob cO mm' v) (pc + 3) lv (.int r :: rest)) :
    V p l e R s m args below meth c Q nL (AW A ob) cells slots (PW D cA ad ob cO mm v) pc lv stk := by
  intro H locs ls hP hS hl
  have hG : GC 0 1 := gc (t := 0) (by decide) (ok1 (t := 0) (Nat.le_of_ble_eq_true rfl))
  have hlt : ob < H.size := (Array.getElem?_eq_some_iff.mp hP.2).1
  have hr : vx_Run p l e R s m args below meth c H locs cells slots mc ms (F0 m pc ls stk) rest _ _ _ := vx_runV (As := As) (rest := rest) X hM (cwV n X.2.2.2.2 hG5 rfl hrc hrs hy hR) ⟨PcM.blind (ZC_ok ad A), Rep_recv hW.1 hP.1 hG rfl rfl, fun U hU hW9 => ⟨rfl, hW.1.moved hW9, by rw [hU]; exact ZC.narrow (ZC_ok ad (AW A ob) s U s.heap H hW9 hS.2.1 hZ) (fun q h => Or.inl h), by rw [hU]; exact hP.1⟩⟩ rfl hn hl.1 hstk (lv_room hw) hd hf
  refine vx_calli hr hS (fun q _ h => Or.inl h) (fun q h => Or.inl h) (fun q _ h => Or.inl h) (fun E ce q9 u t H1 locs1 ht hal hp hb hz hk hS1 hce hcv hcl => ?_) (fun r u t H1 locs1 ht hal hp hb hz hk hS1 => ?_)
  · rw [ht] at hb
    obtain ⟨h, hk4, ⟨pre, x, suf, c1, c2, c3, c4, c5, c6⟩, k⟩ := kx u.1 u.2 hp
    rw [hb.1] at hcl
    refine vx_catch X.2.2.2.1 pre x suf c1 c2 c3 c4 c5 (exN_cast hZ _ hk4) hce hcv hcl ?_
    rw [c6]
    exact k q9 H1 locs1 ls ⟨hb.2, (hk ob hlt hob).trans hP.2⟩ hS1 hl
  · rw [ht] at hb
    exact kk r u hp H1 locs1 ls ⟨hb, (hk ob hlt hob).trans hP.2⟩ hS1 hl
/-- the answer goes into the row -/
theorem qW_last (X : Fx p m c cc nL s args own) (hW : KW D cA cO s) (hob : ¬ A ob) (ax : Ax ad GC A) {w : Int64} (hd : decode cc pc = .ok (.lastore, 1)) (k : V p l e R s m args below meth c Q nL (AW A ob) cells slots (PW D cA ad ob cO mm w) (pc + 1) lv st) : V p l e R s m args below meth c Q nL (AW A ob) cells slots (PW D cA ad ob cO mm v) pc lv (.long w :: .int 0 :: .ref ob :: st) := by
  intro H locs ls hP hS hl
  refine W.last X.1 X.2.1 hP.2 (hW.2.1 1 (fun _ => .long v)) (fun q => by cases q) (by show ¬ ((0 : Int32) < 0 ∨ (arrV _ _ _).slots.size ≤ _); rw [arrV_size]; decide) rfl rfl hd (fun H' e1 e2 e3 => ?_)
  refine k H' _ ls ⟨Rep_keep hP.1 trivial (fun t i hG => e3 _ (fun q => hob (by rw [← q]; exact ax.1 _ _ hG))), ?_⟩ (hS.put e2 e3 (Or.inr rfl)) hl
  rw [e1]
  unfold ocell
  rw [arrV_store]
  congr 1
end LW0
