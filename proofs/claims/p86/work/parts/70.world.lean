section LW0
/-- the machine's facts that the law's methods hold: those of the kinds, exceptions that are none of another's class -/
def KW (D : va_G) (cA : Nat → ClassId) (U : State) : Prop := KV D cA U ∧ va_Nc (exN 2) (exN 1) U ∧ va_Nc (exN 3) (exN 1) U ∧ va_Nc (exN 3) (exN 2) U
theorem KW.moved {D : va_G} {cA : Nat → ClassId} {U U' : State} (hW : U.WarmedH U'.vm) (h : KW D cA U) : KW D cA U' :=
  ⟨h.1.moved hW, h.2.1.moved hW.alike, h.2.2.1.moved hW.alike, h.2.2.2.moved hW.alike⟩
theorem ZC.narrow {ad : Nat → Nat → Nat} {A B : Nat → Prop} {U : State} {H : Heap} (h : ZC ad A U H) (hAB : ∀ q, B q → A q) : ZC ad B U H :=
  ⟨fun r hr => ⟨va_Z.narrow (h.1 r hr).1 hAB, va_T.narrow (h.1 r hr).2 hAB⟩, vx_Zq.narrow h.2.1 hAB, vx_Zq.narrow h.2.2.1 hAB, h.2.2.2⟩
/-- the ghosts of the two warehouses, and how many deeds have been done -/
abbrev Gh : Type := (Bool → PS) × Nat
def WG (D : va_G) (cA : Nat → ClassId) (ad : Bool → Nat → Nat → Nat) (g : Gh) (H : Heap) : Prop := ∀ b, ∃ mo, Rep TT D cA (ad b) false GC mo H ∧ RelN g.2 mo (g.1 b)
def AU (A : Bool → Nat → Prop) : Nat → Prop := fun q => ∃ b, A b q
/-- what one warehouse has become -/
def gz (g : Gh) (b : Bool) (z : PS × Nat) : Gh := (fun b' => if b' = b then z.1 else g.1 b', g.2 + z.2)
theorem gz_id (g : Gh) (b : Bool) : gz g b (g.1 b, 0) = g := by
  unfold gz
  refine Prod.ext (funext fun b' => ?_) rfl
  show (if b' = b then g.1 b else g.1 b') = g.1 b'
  split
  · next h => rw [h]
  · rfl
theorem gz_1 (g : Gh) (b : Bool) (z : PS × Nat) : (gz g b z).1 b = z.1 := if_pos rfl
theorem gz_1n (g : Gh) {b b' : Bool} (h : ¬ b' = b) (z : PS × Nat) : (gz g b z).1 b' = g.1 b' := if_neg h
theorem gz_2 (g : Gh) (b : Bool) (z : PS × Nat) : (gz g b z).2 = g.2 + z.2 := rfl
/-- the addresses of the two -/
def AG (ad : Bool → Nat → Nat → Nat) (A : Bool → Nat → Prop) : Prop := (∀ b, Ax (ad b) GC (A b)) ∧ ∀ b b' q, ¬ b = b' → A b q → ¬ A b' q
def PcG (D : va_G) (cA : Nat → ClassId) (ad : Bool → Nat → Nat → Nat) (A : Bool → Nat → Prop) (av : List Value) (g : Gh) : Array Value → State → Prop := va_Pc av (fun U => KW D cA U ∧ (∀ b, ZC (ad b) (AU A) U U.heap) ∧ WG D cA ad g U.heap)
theorem PcG.blind {D : va_G} {cA : Nat → ClassId} {ad : Bool → Nat → Nat → Nat} {A : Bool → Nat → Prop} {av : List Value} {g : Gh} : FrameBlind (PcG D cA ad A av g) :=
  fun a U g9 mk h => ⟨h.1, h.2.1.moved (warm_calling U g9 mk a), fun b => ZC_ok (ad b) (AU A) _ _ _ _ (warm_calling U g9 mk a) (fun _ _ _ => rfl) (h.2.2.1 b), h.2.2.2⟩
abbrev QcG (D : va_G) (cA : Nat → ClassId) (ad : Bool → Nat → Nat → Nat) (A : Bool → Nat → Prop) (Qk : Int32 → Gh → Prop) : Array Value → State → Outcome → State → Prop := va_Qi (S := Gh) Qk (fun g t => WG D cA ad g t.heap) (AU A)
/-- the number that a law's method tells an exception by -/
def xcd (k : Nat) : Int32 := if k = 1 then -9999001 else if k = 2 then -9999002 else -9999003
theorem Cel_lt {D : va_G} {cA : Nat → ClassId} {ad : Nat → Nat → Nat} {dy : Bool} {mm : Mm} {H : Heap} {t i : Nat} (h : Cel D cA ad dy mm H t i) : ad t i < H.size := by
  unfold Cel at h
  cases hk : kO t with
  | none => rw [hk] at h; exact (Array.getElem?_eq_some_iff.mp h).1
  | some q =>
    rw [hk] at h
    obtain ⟨cell, q1, -⟩ := h
    exact (Array.getElem?_eq_some_iff.mp q1).1
theorem Rep_keep {F F' : Nat → Prop} {D : va_G} {cA : Nat → ClassId} {ad : Nat → Nat → Nat} {dy : Bool} {G : Nat → Nat → Prop} {mm : Mm} {H H' : Heap} (hP : Rep F D cA ad dy G mm H) (hF : F' H'.size) (hq : ∀ t i, G t i → H'[ad t i]? = H[ad t i]?) : Rep F' D cA ad dy G mm H' := by
  refine ⟨hF, fun t i hG => ?_⟩
  have h1 := hP.2 t i hG
  unfold Cel at h1 ⊢
  cases hk : kO t with
  | none => rw [hk] at h1; show H'[ad t i]? = _; rw [hq _ _ hG]; exact h1
  | some q => rw [hk] at h1; exact h1.kept (hq _ _ hG)
variable {p : Program} {l : Launch} {e : Env} {R : Room} {s : State} {m : MethodId} {args : Array Value} {below : List Frame} {meth : Method} {c : Code} {cells slots : Nat} {Q : State → Prop}
variable {cc : ByteArray} {nL : Nat} {own : String} {D : va_G} {cA : Nat → ClassId} {ad : Bool → Nat → Nat → Nat} {A : Bool → Nat → Prop} {A0 : Nat → Prop} {Y : Heap → Prop}
variable {g : Gh} {pc : Nat} {lv : List (Nat × Value)} {st : List Value}
/-- the world, and what else stays -/
def WY (D : va_G) (cA : Nat → ClassId) (ad : Bool → Nat → Nat → Nat) (Y : Heap → Prop) (g : Gh) (H : Heap) : Prop := WG D cA ad g H ∧ Y H
def Yok (A : Bool → Nat → Prop) (Y : Heap → Prop) : Prop := ∀ H H1 : Heap, H.size ≤ H1.size → (∀ q : Nat, q < H.size → ¬ AU A q → H1[q]? = H[q]?) → Y H → Y H1
def YT : Heap → Prop := fun _ => True
theorem YT_ok : Yok A YT := fun _ _ _ _ _ => trivial
theorem AG.free (ha : AG ad A) {b o : Bool} (h : ¬ b = o) {t i : Nat} (hG : GC t i) : ¬ A o (ad b t i) := fun z => ha.2 b o _ h ((ha.1 b).1 t i hG) z
/-- one warehouse has changed, the other one hasn't -/
theorem WG.step (ha : AG ad A) {o : Bool} {H H1 : Heap} {m1 : Mm} {nm : PS} {dk : Nat} (hP : WG D cA ad g H) (hk : g.2 + dk ≤ 2400) (h1 : Rep TT D cA (ad o) false GC m1 H1) (hR : RelN (g.2 + dk) m1 nm) (hq : ∀ q : Nat, q < H.size → ¬ A o q → H1[q]? = H[q]?) : WG D cA ad (gz g o (nm, dk)) H1 := by
  intro b
  by_cases hb : b = o
  · subst hb
    exact ⟨m1, h1, by rw [gz_1]; exact hR⟩
  · obtain ⟨mo, r1, r2⟩ := hP b
    refine ⟨mo, Rep_keep r1 trivial (fun t i hG => hq _ (Cel_lt (r1.2 t i hG)) (ha.free hb hG)), ?_⟩
    rw [gz_1n g hb]
    exact r2.mono (Nat.le_add_right _ _) hk
theorem enterG {y : MethodName} {bytes : ByteArray} {maxL mc ms : Nat} {rm : Room} {hh : List (Nat × Nat × Nat × Nat)} {av : List Value} {lv0 : List (Nat × Value)} {Qk : Int32 → Gh → Prop} (hy : plainName y.cls = true) (hlv : lv_args 0 av = lv0) (hlen : (lg_sl av).length ≤ maxL)
    (body : ∀ (p : Program) (e : Env) (s : State) (m : MethodId) (args : Array Value) (below : List Frame) (meth : Method) (c : Code) (Q : State → Prop), Fx p m c bytes maxL s args y.cls → c.exceptionTable.toList = tableOf hh → KW D cA s → (∀ b, ZC (ad b) (AU A) s s.heap) →
      (∀ (cells slots pc : Nat) (lv : List (Nat × Value)) (r : Int32) (g' : Gh), decode bytes pc = .ok (.ireturn, 1) → cells ≤ mc → slots ≤ ms → Qk r g' → V p l e rm s m args below meth c Q maxL (AU A) cells slots (WY D cA ad YT g') pc lv [.int r]) →
      V p l e rm s m args below meth c Q maxL (AU A) 0 0 (WY D cA ad YT g) 0 lv0 []) :
    Met l y (.codeWith y bytes maxL (some .int) hh :: TG) rm (PcG D cA ad A av g) (QcG D cA ad A Qk) mc ms (AU A) := by
  refine va_MetW (cc := bytes) (maxL := maxL) (ret := (some .int)) (hh := hh) hy rfl ?_
  intro p e s m args below meth c s₁ B hml hv
  obtain ⟨rfl, hK, hZ, hP0⟩ := hv
  have hts := atoms_spec (ws := .codeWith y bytes maxL (some .int) hh :: TG) B.pre
  have htab := vx_table (x := y) B (hts _ List.mem_cons_self)
  have hl := lv_entry av (n := maxL) hlen
  rw [lg_entry_eq]
  rw [hlv] at hl
  refine body p e s m _ below meth c _ ⟨B.exec, B.bytes, hml, findClass_of_methodNamed B.named, fun w hw => hts w (List.mem_cons_of_mem _ hw)⟩ htab hK hZ ?_ s.heap [] _ ⟨hP0, trivial⟩ va_S.rf hl
  intro cells slots pc lv r g' hd hc hs hq H locs ls hP hS hl
  refine W.widen hc hs ?_
  exact W.iret B.exec B.bytes B.returns (fun t ht hW => ⟨⟨r, g', rfl, hq, by show WG _ _ _ _ t.heap; rw [ht]; exact hP.1⟩, hS.F ht⟩) hS.2.2 hd B.notSynchronized
theorem enterGI {y : MethodName} {bytes : ByteArray} {maxL mc ms : Nat} {rm : Room} {av : List Value} {lv0 : List (Nat × Value)} {Qk : Int32 → Gh → Prop} (hy : plainName y.cls = true) (hlv : lv_args 0 av = lv0) (hlen : (lg_sl av).length ≤ maxL)
    (body : ∀ (p : Program) (e : Env) (s : State) (m : MethodId) (args : Array Value) (below : List Frame) (meth : Method) (c : Code) (Q : State → Prop), Fx p m c bytes maxL s args y.cls → KW D cA s → (∀ b, ZC (ad b) (AU A) s s.heap) →
      (∀ (cells slots pc : Nat) (lv : List (Nat × Value)) (r : Int32) (g' : Gh), decode bytes pc = .ok (.ireturn, 1) → cells ≤ mc → slots ≤ ms → Qk r g' → V p l e rm s m args below meth c Q maxL (AU A) cells slots (WY D cA ad YT g') pc lv [.int r]) →
      V p l e rm s m args below meth c Q maxL (AU A) 0 0 (WY D cA ad YT g) 0 lv0 []) :
    Met l y (.code y bytes maxL (some .int) :: TG) rm (PcG D cA ad A av g) (QcG D cA ad A Qk) mc ms (AU A) := by
  refine Met.ofW (cc := bytes) (maxL := maxL) (ret := (some .int)) hy rfl ?_
  intro p e s m args below meth c s₁ B hml hv
  obtain ⟨rfl, hK, hZ, hP0⟩ := hv
  have hts := atoms_spec (ws := .code y bytes maxL (some .int) :: TG) B.pre
  have hl := lv_entry av (n := maxL) hlen
  rw [lg_entry_eq]
  rw [hlv] at hl
  refine body p e s m _ below meth c _ ⟨B.exec, B.bytes, hml, findClass_of_methodNamed B.named, fun w hw => hts w (List.mem_cons_of_mem _ hw)⟩ hK hZ ?_ s.heap [] _ ⟨hP0, trivial⟩ va_S.rf hl
  intro cells slots pc lv r g' hd hc hs hq H locs ls hP hS hl
  refine W.widen hc hs ?_
  exact W.iret B.exec B.bytes B.returns (fun t ht hW => ⟨⟨r, g', rfl, hq, by show WG _ _ _ _ t.heap; rw [ht]; exact hP.1⟩, hS.F ht⟩) hS.2.2 hd B.notSynchronized
theorem enterGZ {y : MethodName} {bytes : ByteArray} {maxL mc ms : Nat} {rm : Room} {av : List Value} {lv0 : List (Nat × Value)} {Qk : Int32 → Gh → Prop} (hy : plainName y.cls = true) (hlv : lv_args 0 av = lv0) (hlen : (lg_sl av).length ≤ maxL)
    (body : ∀ (p : Program) (e : Env) (s : State) (m : MethodId) (args : Array Value) (below : List Frame) (meth : Method) (c : Code) (Q : State → Prop), Fx p m c bytes maxL s args y.cls → KW D cA s → (∀ b, ZC (ad b) (AU A) s s.heap) →
      (∀ (cells slots pc : Nat) (lv : List (Nat × Value)) (r : Int32) (g' : Gh), decode bytes pc = .ok (.ireturn, 1) → cells ≤ mc → slots ≤ ms → isB r → Qk r g' → V p l e rm s m args below meth c Q maxL (AU A) cells slots (WY D cA ad YT g') pc lv [.int r]) →
      V p l e rm s m args below meth c Q maxL (AU A) 0 0 (WY D cA ad YT g) 0 lv0 []) :
    Met l y (.code y bytes maxL (some .boolean) :: TG) rm (PcG D cA ad A av g) (QcG D cA ad A Qk) mc ms (AU A) := by
  refine Met.ofW (cc := bytes) (maxL := maxL) (ret := (some .boolean)) hy rfl ?_
  intro p e s m args below meth c s₁ B hml hv
  obtain ⟨rfl, hK, hZ, hP0⟩ := hv
  have hts := atoms_spec (ws := .code y bytes maxL (some .boolean) :: TG) B.pre
  have hl := lv_entry av (n := maxL) hlen
  rw [lg_entry_eq]
  rw [hlv] at hl
  refine body p e s m _ below meth c _ ⟨B.exec, B.bytes, hml, findClass_of_methodNamed B.named, fun w hw => hts w (List.mem_cons_of_mem _ hw)⟩ hK hZ ?_ s.heap [] _ ⟨hP0, trivial⟩ va_S.rf hl
  intro cells slots pc lv r g' hd hc hs hb hq H locs ls hP hS hl
  refine W.widen hc hs ?_
  exact W.zret B.exec B.bytes B.returns (narrow_B hb).1 (fun t ht hW => ⟨⟨r, g', rfl, hq, by show WG _ _ _ _ t.heap; rw [ht]; exact hP.1⟩, hS.F ht⟩) hS.2.2 hd B.notSynchronized
/-- where a thrown exception is caught -/
def Ct (own : String) (c : Code) (args : Array Value) (s : State) (pc k0 h : Nat) : Prop := ∃ (pre : List ExceptionTableEntry) (x : ExceptionTableEntry) (suf : List ExceptionTableEntry), c.exceptionTable.toList = pre ++ x :: suf ∧ (∀ z ∈ pre, covers z pc = false ∨ (z.catchType ≠ 0 ∧ ∃ nm : String, (Cond.classLink own z.catchType nm).before args s = true ∧ va_Nc (exN k0) nm s)) ∧ covers x pc = true ∧ x.catchType ≠ 0 ∧ (Cond.classLink own x.catchType (exN k0)).before args s = true ∧ x.handlerPc = h
theorem Ct1 {hh : List (Nat × Nat × Nat × Nat)} {a b h1 t1 k1 pc : Nat} {suf : List (Nat × Nat × Nat × Nat)} (htab : c.exceptionTable.toList = tableOf hh) (e : hh = (a, b, h1, t1) :: suf) (hc : covers ⟨a, b, h1, t1⟩ pc = true) (ht : t1 ≠ 0) (hl : (Cond.classLink own t1 (exN k1)).before args s = true) : Ct own c args s pc k1 h1 :=
  ⟨[], ⟨a, b, h1, t1⟩, tableOf suf, by rw [htab, e]; rfl, fun _ h => (nomatch h), hc, ht, hl, rfl⟩
theorem Ct2 {hh : List (Nat × Nat × Nat × Nat)} {a b h1 t1 k1 a2 b2 h2 t2 k2 pc : Nat} {suf : List (Nat × Nat × Nat × Nat)} (htab : c.exceptionTable.toList = tableOf hh) (e : hh = (a, b, h1, t1) :: (a2, b2, h2, t2) :: suf) (hc : covers ⟨a2, b2, h2, t2⟩ pc = true) (ht1 : t1 ≠ 0) (ht2 : t2 ≠ 0) (hl1 : (Cond.classLink own t1 (exN k1)).before args s = true) (hl2 : (Cond.classLink own t2 (exN k2)).before args s = true) (hn : va_Nc (exN k2) (exN k1) s) : Ct own c args s pc k2 h2 :=
  ⟨[⟨a, b, h1, t1⟩], ⟨a2, b2, h2, t2⟩, tableOf suf, by rw [htab, e]; rfl, fun z hz => by
    cases List.mem_singleton.mp hz
    exact Or.inr ⟨ht1, _, hl1, hn⟩, hc, ht2, hl2, rfl⟩
theorem Ct3 {hh : List (Nat × Nat × Nat × Nat)} {a b h1 t1 k1 a2 b2 h2 t2 k2 a3 b3 h3 t3 k3 pc : Nat} {suf : List (Nat × Nat × Nat × Nat)} (htab : c.exceptionTable.toList = tableOf hh) (e : hh = (a, b, h1, t1) :: (a2, b2, h2, t2) :: (a3, b3, h3, t3) :: suf) (hc : covers ⟨a3, b3, h3, t3⟩ pc = true) (ht1 : t1 ≠ 0) (ht2 : t2 ≠ 0) (ht3 : t3 ≠ 0) (hl1 : (Cond.classLink own t1 (exN k1)).before args s = true) (hl2 : (Cond.classLink own t2 (exN k2)).before args s = true) (hl3 : (Cond.classLink own t3 (exN k3)).before args s = true) (hn1 : va_Nc (exN k3) (exN k1) s) (hn2 : va_Nc (exN k3) (exN k2) s) : Ct own c args s pc k3 h3 :=
  ⟨[⟨a, b, h1, t1⟩, ⟨a2, b2, h2, t2⟩], ⟨a3, b3, h3, t3⟩, tableOf suf, by rw [htab, e]; rfl, fun z hz => by
    rcases List.mem_cons.mp hz with rfl | hz
    · exact Or.inr ⟨ht1, _, hl1, hn1⟩
    · cases List.mem_singleton.mp hz
      exact Or.inr ⟨ht2, _, hl2, hn2⟩, hc, ht3, hl3, rfl⟩
theorem exN_cast {ad : Nat → Nat → Nat} (hZ : ZC ad A0 s s.heap) (k : Nat) (h : k < 4) : (Cond.castable (exN k) (exN k)).before args s = true := va_Nw.use rfl (hZ.2.2.2.2.1 k h)
theorem GC01 : GC 0 1 := gc (t := 0) (by decide) (ok1 (t := 0) (Nat.le_of_ble_eq_true rfl))
/-- a wrapper's call of the class: the code t of an exception, 0 for none; else the answer val, and the ghost nm -/
theorem qG_call (X : Fx p m c cc nL s args own) (hW : KW D cA s) (hZ : ∀ b, ZC (ad b) (AU A) s s.heap) (ha : AG ad A) (o : Bool) {t : Nat} {val : Int32} {nm : PS} {dk : Nat} {y : MethodName} {bytes : ByteArray} {maxL : Nat} {ret : Option FieldType} {rm : Room} {mc ms n index : Nat} (As rest : List Value) {stk : List Value} (hn : As.length = n) (hstk : stk = As.reverse ++ .ref (ad o 0 1) :: rest) (hw : (rest.map fun v => v.category).sum ≤ 8) (hd : decode cc pc = .ok (.invokevirtual index, 3)) (hf : cells + mc ≤ R.cells ∧ slots + ms ≤ R.slots) (hk : g.2 + dk ≤ 2400)
    {Qp : Mm → Int32 → Mm → Prop} {Xp : Mm → Nat → Mm → Prop} (hM : ∀ mo, RelN g.2 mo (g.1 o) → vx_Met l y (.code y bytes maxL ret :: TG) rm (PcM TT D cA (ad o) false GC (ZC (ad o) (A o)) (.ref (ad o 0 1) :: As) mo) (AnsI TT D cA (ad o) false GC (A o) (Qp mo)) (AnsX TT D cA (ad o) false GC (A o) (Xp mo)) mc ms (A o)) (hQ : ∀ mo r m1, RelN g.2 mo (g.1 o) → Qp mo r m1 → t = 0 ∧ r = val ∧ RelN (g.2 + dk) m1 nm) (hX : ∀ mo k0 m1, RelN g.2 mo (g.1 o) → Xp mo k0 m1 → k0 = t ∧ ¬ t = 0 ∧ RelN g.2 m1 (g.1 o)) (hrc : rm.cells = mc) (hrs : rm.slots = ms) (hG5 : GoodIn TG (wsV own index RX9 y (.code y bytes maxL ret :: TG))) (hy : y.cls = RX9 ∧ y.cls ≠ "java/lang/invoke/MethodHandle" ∧ y.cls ≠ "java/lang/invoke/VarHandle" ∧ (parseMethodDescriptor y.desc).map (fun d => d.parameters.length) = some n) (hR : rm.frames + 1 ≤ R.frames ∧ 8 + (maxL + 11) + rm.locals ≤ R.locals)
    (kx : ¬ t = 0 → ∃ h, t < 4 ∧ Ct own c args s pc t h ∧ ∀ q : Nat, V p l e R s m args below meth c Q nL (AU A) (cells + mc) (slots + ms) (WY D cA ad YT g) h lv [.ref q])
    (kk : t = 0 → V p l e R s m args below meth c Q nL (AU A) (cells + mc) (slots + ms) (WY D cA ad YT (gz g o (nm, dk))) (pc + 3) lv (.int val :: rest)) :
    V p l e R s m args below meth c Q nL (AU A) cells slots (WY D cA ad YT g) pc lv stk := by
  intro H locs ls hP hS hl
  obtain ⟨mo, r1, r2⟩ := hP.1 o
  have hr : vx_Run p l e R s m args below meth c H locs cells slots mc ms (F0 m pc ls stk) rest _ _ _ := vx_runV (As := As) (rest := rest) X (hM mo r2) (cwV n X.2.2.2.2 hG5 rfl hrc hrs hy hR) ⟨PcM.blind (ZC_ok (ad o) (A o)), Rep_recv hW.1 r1 GC01 rfl rfl, fun U hU hW9 => ⟨rfl, hW.1.moved hW9, by rw [hU]; exact ZC.narrow (ZC_ok (ad o) (AU A) s U s.heap H hW9 hS.2.1 (hZ o)) (fun q h => ⟨o, h⟩), by rw [hU]; exact r1⟩⟩ rfl hn hl.1 hstk (lv_room hw) hd hf
  refine vx_calli hr hS (fun q _ h => ⟨o, h⟩) (fun q h => ⟨o, h⟩) (fun q _ h => ⟨o, h⟩) (fun E ce q9 u t9 H1 locs1 ht hal hp hb hz hk9 hS1 hce hcv hcl => ?_) (fun r u t9 H1 locs1 ht hal hp hb hz hk9 hS1 => ?_)
  · rw [ht] at hb
    obtain ⟨e1, e2, e3⟩ := hX mo _ _ r2 hp
    obtain ⟨h, hk4, ⟨pre, x, suf, c1, c2, c3, c4, c5, c6⟩, k⟩ := kx e2
    rw [hb.1, e1] at hcl
    refine vx_catch X.2.2.2.1 pre x suf c1 c2 c3 c4 c5 (exN_cast (hZ o) _ hk4) hce hcv hcl ?_
    rw [c6]
    refine k q9 H1 locs1 ls ⟨?_, trivial⟩ hS1 hl
    have h9 := WG.step ha (o := o) (dk := 0) hP.1 (by omega) hb.2 e3 hk9
    rw [gz_id] at h9
    exact h9
  · rw [ht] at hb
    obtain ⟨e1, e2, e3⟩ := hQ mo _ _ r2 hp
    rw [e2]
    exact kk e1 H1 locs1 ls ⟨WG.step ha hP.1 hk hb e3 hk9, trivial⟩ hS1 hl
/-- a question that is never refused -/
theorem qG_ask (X : Fx p m c cc nL s args own) (hW : KW D cA s) (hZ : ∀ b, ZC (ad b) A0 s s.heap) (ha : AG ad A) (hA0 : ∀ q, AU A q → A0 q) (hY : Yok A Y) (o : Bool) {val : Int32} {y : MethodName} {bytes : ByteArray} {maxL : Nat} {ret : Option FieldType} {rm : Room} {n index : Nat} (As rest : List Value) {stk : List Value} (hn : As.length = n) (hstk : stk = As.reverse ++ .ref (ad o 0 1) :: rest) (hw : (rest.map fun v => v.category).sum ≤ 8) (hd : decode cc pc = .ok (.invokevirtual index, 3)) (hf : cells + 0 ≤ R.cells ∧ slots + 0 ≤ R.slots) (hk : g.2 ≤ 2400)
    {Qp : Mm → Int32 → Mm → Prop} (hM : ∀ mo, RelN g.2 mo (g.1 o) → Met l y (.code y bytes maxL ret :: TG) rm (PcM TT D cA (ad o) false GC (ZC (ad o) (A o)) (.ref (ad o 0 1) :: As) mo) (AnsI TT D cA (ad o) false GC (A o) (Qp mo)) 0 0 (A o)) (hQ : ∀ mo r m1, RelN g.2 mo (g.1 o) → Qp mo r m1 → r = val ∧ RelN g.2 m1 (g.1 o)) (hrc : rm.cells = 0) (hrs : rm.slots = 0) (hG5 : GoodIn TG (wsV own index RX9 y (.code y bytes maxL ret :: TG))) (hy : y.cls = RX9 ∧ y.cls ≠ "java/lang/invoke/MethodHandle" ∧ y.cls ≠ "java/lang/invoke/VarHandle" ∧ (parseMethodDescriptor y.desc).map (fun d => d.parameters.length) = some n) (hR : rm.frames + 1 ≤ R.frames ∧ 8 + (maxL + 11) + rm.locals ≤ R.locals)
    (kk : V p l e R s m args below meth c Q nL A0 cells slots (WY D cA ad Y g) (pc + 3) lv (.int val :: rest)) :
    V p l e R s m args below meth c Q nL A0 cells slots (WY D cA ad Y g) pc lv stk := by
  intro H locs ls hP hS hl
  obtain ⟨mo, r1, r2⟩ := hP.1 o
  have hr : va_Run p l e R s m args below meth c H locs cells slots 0 0 (F0 m pc ls stk) rest _ _ := va_runV (As := As) (rest := rest) X (hM mo r2) (cwV n X.2.2.2.2 hG5 rfl hrc hrs hy hR) ⟨PcM.blind (ZC_ok (ad o) (A o)), Rep_recv hW.1 r1 GC01 rfl rfl, fun U hU hW9 => ⟨rfl, hW.1.moved hW9, by rw [hU]; exact ZC.narrow (ZC_ok (ad o) A0 s U s.heap H hW9 hS.2.1 (hZ o)) (fun q h => hA0 q ⟨o, h⟩), by rw [hU]; exact r1⟩⟩ rfl hn hl.1 hstk (lv_room hw) hd hf
  refine va_calli hr hS (fun q _ h => hA0 q ⟨o, h⟩) (fun q h => hA0 q ⟨o, h⟩) (fun r u t9 H1 locs1 ht hal hp hb hz hk9 hS1 => ?_)
  rw [ht] at hb
  obtain ⟨e2, e3⟩ := hQ mo _ _ r2 hp
  rw [e2]
  have h9 := WG.step ha (o := o) (dk := 0) hP.1 (by omega) hb e3 hk9
  rw [gz_id] at h9
  exact kk H1 locs1 ls ⟨h9, hY H H1 hz (fun q h1 h2 => hk9 q h1 (fun z => h2 ⟨o, z⟩)) hP.2⟩ hS1 hl
/-- the law's methods among themselves -/
theorem qG_own (X : Fx p m c cc nL s args own) (hW : KW D cA s) (hZ : ∀ b, ZC (ad b) A0 s s.heap) (hA0 : ∀ q, AU A q → A0 q) (hY : Yok A Y) {Qk : Int32 → Gh → Prop} {y : MethodName} {bytes : ByteArray} {maxL : Nat} {ret : Option FieldType} {rm : Room} {mc ms n index : Nat} (As rest : List Value) {stk : List Value} (hn : As.length = n) (hstk : stk = As.reverse ++ rest) (hw : (rest.map fun v => v.category).sum ≤ 8) (hd : decode cc pc = .ok (.invokestatic index, 3)) (hf : cells + mc ≤ R.cells ∧ slots + ms ≤ R.slots)
    (hM : Met l y (.code y bytes maxL ret :: TG) rm (PcG D cA ad A As g) (QcG D cA ad A Qk) mc ms (AU A)) (hrc : rm.cells = mc) (hrs : rm.slots = ms) (hG5 : GoodIn TG (va_wsS own index y (.code y bytes maxL ret :: TG))) (hy : y.cls ≠ "java/lang/invoke/MethodHandle" ∧ y.cls ≠ "java/lang/invoke/VarHandle" ∧ (parseMethodDescriptor y.desc).map (fun d => d.parameters.length) = some n) (hR : rm.frames + 1 ≤ R.frames ∧ 8 + (maxL + 11) + rm.locals ≤ R.locals)
    (kk : ∀ (r : Int32) (g' : Gh), Qk r g' → V p l e R s m args below meth c Q nL A0 (cells + mc) (slots + ms) (WY D cA ad Y g') (pc + 3) lv (.int r :: rest)) :
    V p l e R s m args below meth c Q nL A0 cells slots (WY D cA ad Y g) pc lv stk := by
  intro H locs ls hP hS hl
  have hr : va_Run p l e R s m args below meth c H locs cells slots mc ms (F0 m pc ls stk) rest _ _ := va_runS (As := As) (rest := rest) X hM (va_cwS n X.2.2.2.2 hG5 rfl hrc hrs hy hR) ⟨PcG.blind, fun U hU hW9 => ⟨rfl, hW.moved hW9, fun b => by rw [hU]; exact ZC.narrow (ZC_ok (ad b) A0 s U s.heap H hW9 hS.2.1 (hZ b)) hA0, by rw [hU]; exact hP.1⟩⟩ rfl hn hl.1 hstk (lv_room hw) hd hf
  refine va_calli hr hS (fun q _ h => hA0 q h) (fun q h => hA0 q h) (fun r u t9 H1 locs1 ht hal hp hb hz hk9 hS1 => ?_)
  rw [ht] at hb
  exact kk r u hp H1 locs1 ls ⟨hb, hY H H1 hz hk9 hP.2⟩ hS1 hl
theorem qG_ownW (X : Fx p m c cc nL s args own) (hW : KW D cA s) (hZ : ∀ b, ZC (ad b) A0 s s.heap) (hA0 : ∀ q, AU A q → A0 q) (hY : Yok A Y) {Qk : Int32 → Gh → Prop} {y : MethodName} {bytes : ByteArray} {maxL : Nat} {ret : Option FieldType} {hh : List (Nat × Nat × Nat × Nat)} {rm : Room} {mc ms n index : Nat} (As rest : List Value) {stk : List Value} (hn : As.length = n) (hstk : stk = As.reverse ++ rest) (hw : (rest.map fun v => v.category).sum ≤ 8) (hd : decode cc pc = .ok (.invokestatic index, 3)) (hf : cells + mc ≤ R.cells ∧ slots + ms ≤ R.slots)
    (hM : Met l y (.codeWith y bytes maxL ret hh :: TG) rm (PcG D cA ad A As g) (QcG D cA ad A Qk) mc ms (AU A)) (hrc : rm.cells = mc) (hrs : rm.slots = ms) (hG5 : GoodIn TG (va_wsS own index y (.codeWith y bytes maxL ret hh :: TG))) (hy : y.cls ≠ "java/lang/invoke/MethodHandle" ∧ y.cls ≠ "java/lang/invoke/VarHandle" ∧ (parseMethodDescriptor y.desc).map (fun d => d.parameters.length) = some n) (hR : rm.frames + 1 ≤ R.frames ∧ 8 + (maxL + 11) + rm.locals ≤ R.locals)
    (kk : ∀ (r : Int32) (g' : Gh), Qk r g' → V p l e R s m args below meth c Q nL A0 (cells + mc) (slots + ms) (WY D cA ad Y g') (pc + 3) lv (.int r :: rest)) :
    V p l e R s m args below meth c Q nL A0 cells slots (WY D cA ad Y g) pc lv stk := by
  intro H locs ls hP hS hl
  have hr : va_Run p l e R s m args below meth c H locs cells slots mc ms (F0 m pc ls stk) rest _ _ := vx_runSW (As := As) (rest := rest) X hM (vx_cwSW n X.2.2.2.2 hG5 rfl hrc hrs hy hR) ⟨PcG.blind, fun U hU hW9 => ⟨rfl, hW.moved hW9, fun b => by rw [hU]; exact ZC.narrow (ZC_ok (ad b) A0 s U s.heap H hW9 hS.2.1 (hZ b)) hA0, by rw [hU]; exact hP.1⟩⟩ rfl hn hl.1 hstk (lv_room hw) hd hf
  refine va_calli hr hS (fun q _ h => hA0 q h) (fun q h => hA0 q h) (fun r u t9 H1 locs1 ht hal hp hb hz hk9 hS1 => ?_)
  rw [ht] at hb
  exact kk r u hp H1 locs1 ls ⟨hb, hY H H1 hz hk9 hP.2⟩ hS1 hl
theorem gSW {own : String} {idx maxL : Nat} {y : MethodName} {bytes : ByteArray} {ret : Option FieldType} {hh : List (Nat × Nat × Nat × Nat)} (h1 : Cond.methodLink own idx y ∈ TG) (h2 : Cond.static y ∈ TG) (h4 : Cond.initialized y.cls ∈ TG) (h5 : Cond.codeWith y bytes maxL ret hh ∈ TG) : GoodIn TG (va_wsS own idx y (.codeWith y bytes maxL ret hh :: TG)) := by
  intro w h
  unfold va_wsS at h
  rcases List.mem_append.mp h with h | h
  · simp only [List.mem_cons, List.not_mem_nil, or_false] at h
    rcases h with rfl | rfl | rfl
    · exact ⟨h1, tg_good _ h1⟩
    · exact ⟨h2, tg_good _ h2⟩
    · exact ⟨h4, tg_good _ h4⟩
  · exact tg_self h5 w h
end LW0
