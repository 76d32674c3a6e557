section BASE
/-- the memory of a group of cells: what the int-like slots hold, and the slots of references (0: null, else the number of the thing among its kind) -/
abbrev Mm : Type := (Nat → Nat → Nat → Int32) × (Nat → Nat → Nat → Nat)
def u3 {α : Type} (m : Nat → Nat → Nat → α) (t i f : Nat) (v : α) : Nat → Nat → Nat → α := fun t' i' f' => if t' = t ∧ i' = i ∧ f' = f then v else m t' i' f'
def sI (m : Mm) (t i f : Nat) (v : Int32) : Mm := (u3 m.1 t i f v, m.2)
def sR (m : Mm) (t i f : Nat) (v : Nat) : Mm := (m.1, u3 m.2 t i f v)
def rv (a : Nat → Nat) (r : Nat) : Value := if r = 0 then .null else .ref (a r)
theorem rv_nn {a : Nat → Nat} {r : Nat} (h : 1 ≤ r) : rv a r = .ref (a r) := by simp [rv, show ¬ r = 0 by omega]
theorem rv_cat (a : Nat → Nat) (r : Nat) : (rv a r).category = 1 := by unfold rv; split <;> rfl
def ok (t i : Nat) : Prop := 1 ≤ i ∧ i ≤ cnt t
def isB (x : Int32) : Prop := x = 0 ∨ x = 1
/-- which thing a slot of references holds: the constant one, or the memory's -/
def rfi (dy : Bool) (m : Mm) (t i f : Nat) : Nat := match kC dy t i f with
  | some r => r
  | none => m.2 t i f
def fv (ad : Nat → Nat → Nat) (dy : Bool) (m : Mm) (t i f : Nat) : Value := match kT t f with
  | 0 => .int (m.1 t i f)
  | k + 1 => rv (ad k) (rfi dy m t i f)
def Cel (D : va_G) (cA : Nat → ClassId) (ad : Nat → Nat → Nat) (dy : Bool) (m : Mm) (H : Heap) (t i : Nat) : Prop := match kO t with
  | some q => t_OB (ad t i) (D.1 q.1) q.2 (D.2 q.1) H (fv ad dy m t i)
  | none => H[ad t i]? = some (arrV (cA t) (kL t) (fv ad dy m t i))
def Rep (F : Nat → Prop) (D : va_G) (cA : Nat → ClassId) (ad : Nat → Nat → Nat) (dy : Bool) (G : Nat → Nat → Prop) (m : Mm) (H : Heap) : Prop := F H.size ∧ ∀ t i, G t i → Cel D cA ad dy m H t i
def TT : Nat → Prop := fun _ => True
def KV (D : va_G) (cA : Nat → ClassId) (U : State) : Prop := va_K D vwCl [] U ∧ (∀ t ty, kE t = some ty → ArrOfT U (cA t) ty ∧ va_RA U (cA t) ty) ∧ (∀ w ∈ nestF, va_Nw (.fieldLinkNest w.1 w.2.1 w.2.2.1 w.2.2.2.1 w.2.2.2.2 "BondWarehouse") U) ∧ (∀ w ∈ nestM, va_Nw (.methodLinkNest w.1 w.2.1 w.2.2 "BondWarehouse") U)
def Zok (A : Nat → Prop) (Z : State → Heap → Prop) : Prop := ∀ (U U' : State) (H H' : Heap), U.WarmedH U'.vm → (∀ q : Nat, q < H.size → ¬ A q → H'[q]? = H[q]?) → Z U H → Z U' H'
/-- the addresses: apart, and where the group may write -/
def Ax (ad : Nat → Nat → Nat) (G : Nat → Nat → Prop) (A : Nat → Prop) : Prop := (∀ t i, G t i → A (ad t i)) ∧ ∀ t i t' i', G t i → G t' i' → ad t i = ad t' i' → t = t' ∧ i = i'
theorem KV.moved {D : va_G} {cA : Nat → ClassId} {U U' : State} (hW : U.WarmedH U'.vm) (h : KV D cA U) : KV D cA U' :=
  ⟨va_K.moved hW.alike h.1, fun t ty ht => ⟨arrOfT_moved hW.alike (h.2.1 t ty ht).1, (h.2.1 t ty ht).2.moved hW.alike⟩, fun w hw => va_Nw.warmF hW (h.2.2.1 w hw), fun w hw => va_Nw.warmM hW (h.2.2.2 w hw)⟩
theorem warm_calling (U : State) (g : JFrame) (mk : MethodId) (a : Array Value) : U.WarmedH (U.calling g mk a).vm := State.WarmedH.refl U
def PcM (F : Nat → Prop) (D : va_G) (cA : Nat → ClassId) (ad : Nat → Nat → Nat) (dy : Bool) (G : Nat → Nat → Prop) (Z : State → Heap → Prop) (av : List Value) (mm : Mm) : Array Value → State → Prop := va_Pc av (fun U => KV D cA U ∧ Z U U.heap ∧ Rep F D cA ad dy G mm U.heap)
theorem PcM.blind {F : Nat → Prop} {D : va_G} {cA : Nat → ClassId} {ad : Nat → Nat → Nat} {dy : Bool} {G : Nat → Nat → Prop} {A : Nat → Prop} {Z : State → Heap → Prop} {av : List Value} {mm : Mm} (zo : Zok A Z) : FrameBlind (PcM F D cA ad dy G Z av mm) :=
  fun a U g mk h => ⟨h.1, h.2.1.moved (warm_calling U g mk a), zo _ _ _ _ (warm_calling U g mk a) (fun _ _ _ => rfl) h.2.2.1, h.2.2.2⟩
variable {p : Program} {l : Launch} {e : Env} {R : Room} {s : State} {m : MethodId} {args : Array Value} {below : List Frame} {meth : Method} {c : Code} {cells slots : Nat} {Q : State → Prop}
variable {cc : ByteArray} {nL : Nat} {own : String} {F : Nat → Prop} {D : va_G} {cA : Nat → ClassId} {ad : Nat → Nat → Nat} {dy : Bool} {G : Nat → Nat → Prop} {A : Nat → Prop} {Z : State → Heap → Prop}
variable {P : Heap → Prop} {mm : Mm} {pc : Nat} {lv : List (Nat × Value)} {st : List Value}
def V (p : Program) (l : Launch) (e : Env) (R : Room) (s : State) (m : MethodId) (args : Array Value) (below : List Frame) (meth : Method) (c : Code) (Q : State → Prop) (nL : Nat) (A : Nat → Prop) (cells slots : Nat) (P : Heap → Prop) (pc : Nat) (lv : List (Nat × Value)) (st : List Value) : Prop :=
  ∀ (H : Heap) (locs : List Loc) (ls : Array Slot), P H → va_S A s.heap H locs → lv_has ls nL lv → W p l e R s m args below meth c H locs cells slots Q (F0 m pc ls st)
/-- the method's own frame of facts -/
abbrev Fx (p : Program) (m : MethodId) (c : Code) (cc : ByteArray) (nL : Nat) (s : State) (args : Array Value) (own : String) : Prop := CallFix p m c cc nL s args TG own
theorem q_iconst (X : Fx p m c cc nL s args own) {n : Int} {v : Int32} (hd : decode cc pc = .ok (.iconst n, 1)) (hv : Int32.ofInt n = v) (k : V p l e R s m args below meth c Q nL A cells slots P (pc + 1) lv (.int v :: st)) : V p l e R s m args below meth c Q nL A cells slots P pc lv st := fun H locs ls hP hS hl => lv_iconst X.1 X.2.1 hd hv (k H locs ls hP hS hl)
theorem q_bipush (X : Fx p m c cc nL s args own) {n : Int} {v : Int32} (hd : decode cc pc = .ok (.bipush n, 2)) (hv : (Int8.ofInt n).toInt32 = v) (k : V p l e R s m args below meth c Q nL A cells slots P (pc + 2) lv (.int v :: st)) : V p l e R s m args below meth c Q nL A cells slots P pc lv st := fun H locs ls hP hS hl => lv_bipush X.1 X.2.1 hd hv (k H locs ls hP hS hl)
theorem q_sipush (X : Fx p m c cc nL s args own) {n : Int} {v : Int32} (hd : decode cc pc = .ok (.sipush n, 3)) (hv : (Int16.ofInt n).toInt32 = v) (k : V p l e R s m args below meth c Q nL A cells slots P (pc + 3) lv (.int v :: st)) : V p l e R s m args below meth c Q nL A cells slots P pc lv st := fun H locs ls hP hS hl => lv_sipush X.1 X.2.1 hd hv (k H locs ls hP hS hl)
theorem q_lconst (X : Fx p m c cc nL s args own) {n : Fin 2} {v : Int64} (hd : decode cc pc = .ok (.lconst n, 1)) (hv : Int64.ofNat (n : Nat) = v) (k : V p l e R s m args below meth c Q nL A cells slots P (pc + 1) lv (.long v :: st)) : V p l e R s m args below meth c Q nL A cells slots P pc lv st := fun H locs ls hP hS hl => lv_lconst X.1 X.2.1 hd hv (k H locs ls hP hS hl)
theorem q_ldc2 (X : Fx p m c cc nL s args own) {index : Nat} {v : Int64} (hc : Jvm.Cond.constantLong own index v ∈ TG) (hd : decode cc pc = .ok (.ldc2_w index, 3)) (k : V p l e R s m args below meth c Q nL A cells slots P (pc + 3) lv (.long v :: st)) : V p l e R s m args below meth c Q nL A cells slots P pc lv st := fun H locs ls hP hS hl => lv_ldc2 X.1 X.2.1 X.2.2.2.1 (X.2.2.2.2 _ hc) hd (k H locs ls hP hS hl)
theorem q_ldcw (X : Fx p m c cc nL s args own) {index : Nat} {v : Int32} (hc : Jvm.Cond.constant own index v ∈ TG) (hd : decode cc pc = .ok (.ldc_w index, 3)) (k : V p l e R s m args below meth c Q nL A cells slots P (pc + 3) lv (.int v :: st)) : V p l e R s m args below meth c Q nL A cells slots P pc lv st := fun H locs ls hP hS hl => lv_ldcw X.1 X.2.1 X.2.2.2.1 (X.2.2.2.2 _ hc) hd (k H locs ls hP hS hl)
theorem q_ldc (X : Fx p m c cc nL s args own) {index : Nat} {v : Int32} (hc : Jvm.Cond.constant own index v ∈ TG) (hd : decode cc pc = .ok (.ldc index, 2)) (k : V p l e R s m args below meth c Q nL A cells slots P (pc + 2) lv (.int v :: st)) : V p l e R s m args below meth c Q nL A cells slots P pc lv st := fun H locs ls hP hS hl => lv_ldc X.1 X.2.1 X.2.2.2.1 (X.2.2.2.2 _ hc) hd (k H locs ls hP hS hl)
theorem q_dconst0 (X : Fx p m c cc nL s args own) (hd : decode cc pc = .ok (.dconst 0, 1)) (k : V p l e R s m args below meth c Q nL A cells slots P (pc + 1) lv (.double 0 :: st)) : V p l e R s m args below meth c Q nL A cells slots P pc lv st := fun H locs ls hP hS hl => lv_dconst0 X.1 X.2.1 hd (k H locs ls hP hS hl)
theorem q_null (X : Fx p m c cc nL s args own) (hd : decode cc pc = .ok (.aconst_null, 1)) (k : V p l e R s m args below meth c Q nL A cells slots P (pc + 1) lv (.null :: st)) : V p l e R s m args below meth c Q nL A cells slots P pc lv st := fun H locs ls hP hS hl => lv_null X.1 X.2.1 hd (k H locs ls hP hS hl)
theorem q_iload_n (X : Fx p m c cc nL s args own) {k0 : Fin 4} {i j : Nat} {x : Int32} (hd : decode cc pc = .ok (.iload_n k0, 1)) (hi : (k0 : Nat) = i) (hj : lv[j]? = some (i, .int x)) (k : V p l e R s m args below meth c Q nL A cells slots P (pc + 1) lv (.int x :: st)) : V p l e R s m args below meth c Q nL A cells slots P pc lv st := fun H locs ls hP hS hl => lv_iload_n X.1 X.2.1 hd hi (lv_at hl j hj) (k H locs ls hP hS hl)
theorem q_iload (X : Fx p m c cc nL s args own) {i j : Nat} {x : Int32} (hd : decode cc pc = .ok (.iload i, 2)) (hj : lv[j]? = some (i, .int x)) (k : V p l e R s m args below meth c Q nL A cells slots P (pc + 2) lv (.int x :: st)) : V p l e R s m args below meth c Q nL A cells slots P pc lv st := fun H locs ls hP hS hl => lv_iload X.1 X.2.1 hd (lv_at hl j hj) (k H locs ls hP hS hl)
theorem q_lload_n (X : Fx p m c cc nL s args own) {k0 : Fin 4} {i j : Nat} {x : Int64} (hd : decode cc pc = .ok (.lload_n k0, 1)) (hi : (k0 : Nat) = i) (hj : lv[j]? = some (i, .long x)) (k : V p l e R s m args below meth c Q nL A cells slots P (pc + 1) lv (.long x :: st)) : V p l e R s m args below meth c Q nL A cells slots P pc lv st := fun H locs ls hP hS hl => lv_lload_n X.1 X.2.1 hd hi (lv_at hl j hj) (k H locs ls hP hS hl)
theorem q_lload (X : Fx p m c cc nL s args own) {i j : Nat} {x : Int64} (hd : decode cc pc = .ok (.lload i, 2)) (hj : lv[j]? = some (i, .long x)) (k : V p l e R s m args below meth c Q nL A cells slots P (pc + 2) lv (.long x :: st)) : V p l e R s m args below meth c Q nL A cells slots P pc lv st := fun H locs ls hP hS hl => lv_lload X.1 X.2.1 hd (lv_at hl j hj) (k H locs ls hP hS hl)
theorem q_aload_n (X : Fx p m c cc nL s args own) {k0 : Fin 4} {i j : Nat} {x : Nat} (hd : decode cc pc = .ok (.aload_n k0, 1)) (hi : (k0 : Nat) = i) (hj : lv[j]? = some (i, .ref x)) (k : V p l e R s m args below meth c Q nL A cells slots P (pc + 1) lv (.ref x :: st)) : V p l e R s m args below meth c Q nL A cells slots P pc lv st := fun H locs ls hP hS hl => lv_aload_n X.1 X.2.1 hd hi (lv_at hl j hj) (k H locs ls hP hS hl)
theorem q_aload (X : Fx p m c cc nL s args own) {i j : Nat} {x : Nat} (hd : decode cc pc = .ok (.aload i, 2)) (hj : lv[j]? = some (i, .ref x)) (k : V p l e R s m args below meth c Q nL A cells slots P (pc + 2) lv (.ref x :: st)) : V p l e R s m args below meth c Q nL A cells slots P pc lv st := fun H locs ls hP hS hl => lv_aload X.1 X.2.1 hd (lv_at hl j hj) (k H locs ls hP hS hl)
theorem q_dload_n (X : Fx p m c cc nL s args own) {k0 : Fin 4} {i j : Nat} {x : UInt64} (hd : decode cc pc = .ok (.dload_n k0, 1)) (hi : (k0 : Nat) = i) (hj : lv[j]? = some (i, .double x)) (k : V p l e R s m args below meth c Q nL A cells slots P (pc + 1) lv (.double x :: st)) : V p l e R s m args below meth c Q nL A cells slots P pc lv st := fun H locs ls hP hS hl => lv_dload_n X.1 X.2.1 hd hi (lv_at hl j hj) (k H locs ls hP hS hl)
theorem q_dload (X : Fx p m c cc nL s args own) {i j : Nat} {x : UInt64} (hd : decode cc pc = .ok (.dload i, 2)) (hj : lv[j]? = some (i, .double x)) (k : V p l e R s m args below meth c Q nL A cells slots P (pc + 2) lv (.double x :: st)) : V p l e R s m args below meth c Q nL A cells slots P pc lv st := fun H locs ls hP hS hl => lv_dload X.1 X.2.1 hd (lv_at hl j hj) (k H locs ls hP hS hl)
theorem q_vload_n (X : Fx p m c cc nL s args own) {k0 : Fin 4} {i j r : Nat} {a : Nat → Nat} (hd : decode cc pc = .ok (.aload_n k0, 1)) (hi : (k0 : Nat) = i) (hj : lv[j]? = some (i, rv a r)) (k : V p l e R s m args below meth c Q nL A cells slots P (pc + 1) lv (rv a r :: st)) : V p l e R s m args below meth c Q nL A cells slots P pc lv st := by
  intro H locs ls hP hS hl
  have k := k H locs ls hP hS hl
  have h9 := lv_at hl j hj
  unfold rv at k h9
  by_cases h : r = 0
  · simp only [if_pos h] at k h9
    exact lv_aload_nN X.1 X.2.1 hd hi h9 k
  · simp only [if_neg h] at k h9
    exact lv_aload_n X.1 X.2.1 hd hi h9 k
theorem q_vload (X : Fx p m c cc nL s args own) {i j r : Nat} {a : Nat → Nat} (hd : decode cc pc = .ok (.aload i, 2)) (hj : lv[j]? = some (i, rv a r)) (k : V p l e R s m args below meth c Q nL A cells slots P (pc + 2) lv (rv a r :: st)) : V p l e R s m args below meth c Q nL A cells slots P pc lv st := by
  intro H locs ls hP hS hl
  have k := k H locs ls hP hS hl
  have h9 := lv_at hl j hj
  unfold rv at k h9
  by_cases h : r = 0
  · simp only [if_pos h] at k h9
    exact lv_aloadN X.1 X.2.1 hd h9 k
  · simp only [if_neg h] at k h9
    exact lv_aload X.1 X.2.1 hd h9 k
theorem q_istore_n (X : Fx p m c cc nL s args own) {k0 : Fin 4} {i : Nat} {x : Int32} {lv' : List (Nat × Value)} (hd : decode cc pc = .ok (.istore_n k0, 1)) (hi : (k0 : Nat) = i) (hn : i < nL) (hf : (i, Value.int x) :: lv.filter (fun q => !(q.1 == i) && !(q.1 + 1 == i && q.2.category == 2)) = lv') (k : V p l e R s m args below meth c Q nL A cells slots P (pc + 1) lv' st) : V p l e R s m args below meth c Q nL A cells slots P pc lv (.int x :: st) := fun H locs ls hP hS hl => lv_istore_n X.1 X.2.1 hd hi hl hn hf (fun ls hl => k H locs ls hP hS hl)
theorem q_istore (X : Fx p m c cc nL s args own) {i : Nat} {x : Int32} {lv' : List (Nat × Value)} (hd : decode cc pc = .ok (.istore i, 2)) (hn : i < nL) (hf : (i, Value.int x) :: lv.filter (fun q => !(q.1 == i) && !(q.1 + 1 == i && q.2.category == 2)) = lv') (k : V p l e R s m args below meth c Q nL A cells slots P (pc + 2) lv' st) : V p l e R s m args below meth c Q nL A cells slots P pc lv (.int x :: st) := fun H locs ls hP hS hl => lv_istore X.1 X.2.1 hd hl hn hf (fun ls hl => k H locs ls hP hS hl)
theorem q_astore_n (X : Fx p m c cc nL s args own) {k0 : Fin 4} {i : Nat} {x : Nat} {lv' : List (Nat × Value)} (hd : decode cc pc = .ok (.astore_n k0, 1)) (hi : (k0 : Nat) = i) (hn : i < nL) (hf : (i, Value.ref x) :: lv.filter (fun q => !(q.1 == i) && !(q.1 + 1 == i && q.2.category == 2)) = lv') (k : V p l e R s m args below meth c Q nL A cells slots P (pc + 1) lv' st) : V p l e R s m args below meth c Q nL A cells slots P pc lv (.ref x :: st) := fun H locs ls hP hS hl => lv_astore_n X.1 X.2.1 hd hi hl hn hf (fun ls hl => k H locs ls hP hS hl)
theorem q_astore (X : Fx p m c cc nL s args own) {i : Nat} {x : Nat} {lv' : List (Nat × Value)} (hd : decode cc pc = .ok (.astore i, 2)) (hn : i < nL) (hf : (i, Value.ref x) :: lv.filter (fun q => !(q.1 == i) && !(q.1 + 1 == i && q.2.category == 2)) = lv') (k : V p l e R s m args below meth c Q nL A cells slots P (pc + 2) lv' st) : V p l e R s m args below meth c Q nL A cells slots P pc lv (.ref x :: st) := fun H locs ls hP hS hl => lv_astore X.1 X.2.1 hd hl hn hf (fun ls hl => k H locs ls hP hS hl)
theorem q_lstore (X : Fx p m c cc nL s args own) {i : Nat} {x : Int64} {lv' : List (Nat × Value)} (hd : decode cc pc = .ok (.lstore i, 2)) (hn : i + 1 < nL) (hf : (i, Value.long x) :: lv.filter (fun q => !(q.1 == i) && (!(q.1 == i + 1) && !(q.1 + 1 == i && q.2.category == 2))) = lv') (k : V p l e R s m args below meth c Q nL A cells slots P (pc + 2) lv' st) : V p l e R s m args below meth c Q nL A cells slots P pc lv (.long x :: st) := fun H locs ls hP hS hl => lv_lstore X.1 X.2.1 hd hl hn hf (fun ls hl => k H locs ls hP hS hl)
theorem q_dstore (X : Fx p m c cc nL s args own) {i : Nat} {x : UInt64} {lv' : List (Nat × Value)} (hd : decode cc pc = .ok (.dstore i, 2)) (hn : i + 1 < nL) (hf : (i, Value.double x) :: lv.filter (fun q => !(q.1 == i) && (!(q.1 == i + 1) && !(q.1 + 1 == i && q.2.category == 2))) = lv') (k : V p l e R s m args below meth c Q nL A cells slots P (pc + 2) lv' st) : V p l e R s m args below meth c Q nL A cells slots P pc lv (.double x :: st) := fun H locs ls hP hS hl => lv_dstore X.1 X.2.1 hd hl hn hf (fun ls hl => k H locs ls hP hS hl)
theorem q_lstore_n (X : Fx p m c cc nL s args own) {k0 : Fin 4} {i : Nat} {x : Int64} {lv' : List (Nat × Value)} (hd : decode cc pc = .ok (.lstore_n k0, 1)) (hi : (k0 : Nat) = i) (hn : i + 1 < nL) (hf : (i, Value.long x) :: lv.filter (fun q => !(q.1 == i) && (!(q.1 == i + 1) && !(q.1 + 1 == i && q.2.category == 2))) = lv') (k : V p l e R s m args below meth c Q nL A cells slots P (pc + 1) lv' st) : V p l e R s m args below meth c Q nL A cells slots P pc lv (.long x :: st) := fun H locs ls hP hS hl => lv_lstore_n X.1 X.2.1 hd hi hl hn hf (fun ls hl => k H locs ls hP hS hl)
theorem q_vstore_n (X : Fx p m c cc nL s args own) {k0 : Fin 4} {i r : Nat} {a : Nat → Nat} {lv' : List (Nat × Value)} (hd : decode cc pc = .ok (.astore_n k0, 1)) (hi : (k0 : Nat) = i) (hn : i < nL) (hf : (i, rv a r) :: lv.filter (fun q => !(q.1 == i) && !(q.1 + 1 == i && q.2.category == 2)) = lv') (k : V p l e R s m args below meth c Q nL A cells slots P (pc + 1) lv' st) : V p l e R s m args below meth c Q nL A cells slots P pc lv (rv a r :: st) := by
  intro H locs ls hP hS hl
  have k := fun ls hl => k H locs ls hP hS hl
  subst hf
  unfold rv at k ⊢
  by_cases h : r = 0
  · simp only [if_pos h] at k ⊢
    exact lv_astore_nN X.1 X.2.1 hd hi hl hn rfl k
  · simp only [if_neg h] at k ⊢
    exact lv_astore_n X.1 X.2.1 hd hi hl hn rfl k
theorem q_vstore (X : Fx p m c cc nL s args own) {i r : Nat} {a : Nat → Nat} {lv' : List (Nat × Value)} (hd : decode cc pc = .ok (.astore i, 2)) (hn : i < nL) (hf : (i, rv a r) :: lv.filter (fun q => !(q.1 == i) && !(q.1 + 1 == i && q.2.category == 2)) = lv') (k : V p l e R s m args below meth c Q nL A cells slots P (pc + 2) lv' st) : V p l e R s m args below meth c Q nL A cells slots P pc lv (rv a r :: st) := by
  intro H locs ls hP hS hl
  have k := fun ls hl => k H locs ls hP hS hl
  subst hf
  unfold rv at k ⊢
  by_cases h : r = 0
  · simp only [if_pos h] at k ⊢
    exact lv_astoreN X.1 X.2.1 hd hl hn rfl k
  · simp only [if_neg h] at k ⊢
    exact lv_astore X.1 X.2.1 hd hl hn rfl k
theorem q_iinc (X : Fx p m c cc nL s args own) {i j : Nat} {n : Int} {x v : Int32} {lv' : List (Nat × Value)} (hd : decode cc pc = .ok (.iinc i n, 3)) (hj : lv[j]? = some (i, .int x)) (hv : x + Int32.ofInt n = v) (hn : i < nL) (hf : (i, Value.int v) :: lv.filter (fun q => !(q.1 == i) && !(q.1 + 1 == i && q.2.category == 2)) = lv') (k : V p l e R s m args below meth c Q nL A cells slots P (pc + 3) lv' st) : V p l e R s m args below meth c Q nL A cells slots P pc lv st := fun H locs ls hP hS hl => lv_iinc X.1 X.2.1 hd hl hj hv hn hf (fun ls hl => k H locs ls hP hS hl)
theorem q_iadd (X : Fx p m c cc nL s args own) {x y : Int32} (hd : decode cc pc = .ok (.iadd, 1)) (k : V p l e R s m args below meth c Q nL A cells slots P (pc + 1) lv (.int (x + y) :: st)) : V p l e R s m args below meth c Q nL A cells slots P pc lv (.int y :: .int x :: st) := fun H locs ls hP hS hl => lv_iadd X.1 X.2.1 hd (k H locs ls hP hS hl)
theorem q_isub (X : Fx p m c cc nL s args own) {x y : Int32} (hd : decode cc pc = .ok (.isub, 1)) (k : V p l e R s m args below meth c Q nL A cells slots P (pc + 1) lv (.int (x - y) :: st)) : V p l e R s m args below meth c Q nL A cells slots P pc lv (.int y :: .int x :: st) := fun H locs ls hP hS hl => lv_isub X.1 X.2.1 hd (k H locs ls hP hS hl)
theorem q_imul (X : Fx p m c cc nL s args own) {x y : Int32} (hd : decode cc pc = .ok (.imul, 1)) (k : V p l e R s m args below meth c Q nL A cells slots P (pc + 1) lv (.int (x * y) :: st)) : V p l e R s m args below meth c Q nL A cells slots P pc lv (.int y :: .int x :: st) := fun H locs ls hP hS hl => lv_imul X.1 X.2.1 hd (k H locs ls hP hS hl)
theorem q_iand (X : Fx p m c cc nL s args own) {x y : Int32} (hd : decode cc pc = .ok (.iand, 1)) (k : V p l e R s m args below meth c Q nL A cells slots P (pc + 1) lv (.int (x &&& y) :: st)) : V p l e R s m args below meth c Q nL A cells slots P pc lv (.int y :: .int x :: st) := fun H locs ls hP hS hl => lv_iand X.1 X.2.1 hd (k H locs ls hP hS hl)
theorem q_idiv (X : Fx p m c cc nL s args own) {x y : Int32} (hd : decode cc pc = .ok (.idiv, 1)) (hne : ¬ y = 0) (k : V p l e R s m args below meth c Q nL A cells slots P (pc + 1) lv (.int (x / y) :: st)) : V p l e R s m args below meth c Q nL A cells slots P pc lv (.int y :: .int x :: st) := fun H locs ls hP hS hl => lv_idiv X.1 X.2.1 hd hne (k H locs ls hP hS hl)
theorem q_irem (X : Fx p m c cc nL s args own) {x y : Int32} (hd : decode cc pc = .ok (.irem, 1)) (hne : ¬ y = 0) (k : V p l e R s m args below meth c Q nL A cells slots P (pc + 1) lv (.int (x - x / y * y) :: st)) : V p l e R s m args below meth c Q nL A cells slots P pc lv (.int y :: .int x :: st) := fun H locs ls hP hS hl => lv_irem X.1 X.2.1 hd hne (k H locs ls hP hS hl)
theorem q_lmul (X : Fx p m c cc nL s args own) {x y : Int64} (hd : decode cc pc = .ok (.lmul, 1)) (k : V p l e R s m args below meth c Q nL A cells slots P (pc + 1) lv (.long (x * y) :: st)) : V p l e R s m args below meth c Q nL A cells slots P pc lv (.long y :: .long x :: st) := fun H locs ls hP hS hl => lv_lmul X.1 X.2.1 hd (k H locs ls hP hS hl)
theorem q_lcmp (X : Fx p m c cc nL s args own) {x y : Int64} (hd : decode cc pc = .ok (.lcmp, 1)) (k : V p l e R s m args below meth c Q nL A cells slots P (pc + 1) lv (.int (lg_cmp x y) :: st)) : V p l e R s m args below meth c Q nL A cells slots P pc lv (.long y :: .long x :: st) := fun H locs ls hP hS hl => W.lcmp X.1 X.2.1 hd (k H locs ls hP hS hl)
theorem q_i2l (X : Fx p m c cc nL s args own) {x : Int32} (hd : decode cc pc = .ok (.i2l, 1)) (k : V p l e R s m args below meth c Q nL A cells slots P (pc + 1) lv (.long x.toInt64 :: st)) : V p l e R s m args below meth c Q nL A cells slots P pc lv (.int x :: st) := fun H locs ls hP hS hl => lv_i2l X.1 X.2.1 hd rfl (k H locs ls hP hS hl)
theorem q_i2d (X : Fx p m c cc nL s args own) {x : Int32} (hd : decode cc pc = .ok (.i2d, 1)) (k : V p l e R s m args below meth c Q nL A cells slots P (pc + 1) lv (.double (FP.i2d x) :: st)) : V p l e R s m args below meth c Q nL A cells slots P pc lv (.int x :: st) := fun H locs ls hP hS hl => lv_i2d X.1 X.2.1 hd (k H locs ls hP hS hl)
theorem q_ddiv (X : Fx p m c cc nL s args own) {x y : UInt64} (hd : decode cc pc = .ok (.ddiv, 1)) (hne : vf_n64 (FP.ddiv x y)) (k : V p l e R s m args below meth c Q nL A cells slots P (pc + 1) lv (.double (FP.ddiv x y) :: st)) : V p l e R s m args below meth c Q nL A cells slots P pc lv (.double y :: .double x :: st) := fun H locs ls hP hS hl => lv_ddiv X.1 X.2.1 hd hne (k H locs ls hP hS hl)
theorem q_dcmp (X : Fx p m c cc nL s args own) {x y : UInt64} {op : CmpOp} (hd : decode cc pc = .ok (.dcmp op, 1)) (k : V p l e R s m args below meth c Q nL A cells slots P (pc + 1) lv (.int (Op.cmpValue (FP.dcmp x y) op) :: st)) : V p l e R s m args below meth c Q nL A cells slots P pc lv (.double y :: .double x :: st) := fun H locs ls hP hS hl => lv_dcmp X.1 X.2.1 hd (k H locs ls hP hS hl)
theorem q_dup (X : Fx p m c cc nL s args own) {v : Value} (hd : decode cc pc = .ok (.dup, 1)) (hv : v.category = 1) (k : V p l e R s m args below meth c Q nL A cells slots P (pc + 1) lv (v :: v :: st)) : V p l e R s m args below meth c Q nL A cells slots P pc lv (v :: st) := fun H locs ls hP hS hl => lv_dup X.1 X.2.1 hd hv (k H locs ls hP hS hl)
theorem q_dup2 (X : Fx p m c cc nL s args own) {v w : Value} (hd : decode cc pc = .ok (.dup2, 1)) (hv : v.category = 1) (hw : w.category = 1) (k : V p l e R s m args below meth c Q nL A cells slots P (pc + 1) lv (v :: w :: v :: w :: st)) : V p l e R s m args below meth c Q nL A cells slots P pc lv (v :: w :: st) := fun H locs ls hP hS hl => lv_dup2_11 X.1 X.2.1 hd hv hw (k H locs ls hP hS hl)
theorem q_pop (X : Fx p m c cc nL s args own) {v : Value} (hd : decode cc pc = .ok (.pop, 1)) (hv : v.category = 1) (k : V p l e R s m args below meth c Q nL A cells slots P (pc + 1) lv st) : V p l e R s m args below meth c Q nL A cells slots P pc lv (v :: st) := fun H locs ls hP hS hl => lv_pop X.1 X.2.1 hd hv (k H locs ls hP hS hl)
-- branches: the statements are the kit's own
theorem q_if_eq (X : Fx p m c cc nL s args own) {x : Int32} {off : Int} {tgt : Nat} (hd : decode cc pc = .ok (.ifCond .eq off, 3)) (ht : (pc : Int) + off = (tgt : Int)) (kt : x = 0 → V p l e R s m args below meth c Q nL A cells slots P tgt lv st) (kf : ¬ x = 0 → V p l e R s m args below meth c Q nL A cells slots P (pc + 3) lv st) : V p l e R s m args below meth c Q nL A cells slots P pc lv (.int x :: st) := fun H locs ls hP hS hl => lv_if_eq X.1 X.2.1 hd ht (fun h => kt h H locs ls hP hS hl) (fun h => kf h H locs ls hP hS hl)
theorem q_if_ne (X : Fx p m c cc nL s args own) {x : Int32} {off : Int} {tgt : Nat} (hd : decode cc pc = .ok (.ifCond .ne off, 3)) (ht : (pc : Int) + off = (tgt : Int)) (kt : ¬ x = 0 → V p l e R s m args below meth c Q nL A cells slots P tgt lv st) (kf : x = 0 → V p l e R s m args below meth c Q nL A cells slots P (pc + 3) lv st) : V p l e R s m args below meth c Q nL A cells slots P pc lv (.int x :: st) := fun H locs ls hP hS hl => lv_if_ne X.1 X.2.1 hd ht (fun h => kt h H locs ls hP hS hl) (fun h => kf h H locs ls hP hS hl)
theorem q_if_lt (X : Fx p m c cc nL s args own) {x : Int32} {off : Int} {tgt : Nat} (hd : decode cc pc = .ok (.ifCond .lt off, 3)) (ht : (pc : Int) + off = (tgt : Int)) (kt : x < 0 → V p l e R s m args below meth c Q nL A cells slots P tgt lv st) (kf : ¬ x < 0 → V p l e R s m args below meth c Q nL A cells slots P (pc + 3) lv st) : V p l e R s m args below meth c Q nL A cells slots P pc lv (.int x :: st) := fun H locs ls hP hS hl => lv_if_lt X.1 X.2.1 hd ht (fun h => kt h H locs ls hP hS hl) (fun h => kf h H locs ls hP hS hl)
theorem q_if_ge (X : Fx p m c cc nL s args own) {x : Int32} {off : Int} {tgt : Nat} (hd : decode cc pc = .ok (.ifCond .ge off, 3)) (ht : (pc : Int) + off = (tgt : Int)) (kt : 0 ≤ x → V p l e R s m args below meth c Q nL A cells slots P tgt lv st) (kf : ¬ 0 ≤ x → V p l e R s m args below meth c Q nL A cells slots P (pc + 3) lv st) : V p l e R s m args below meth c Q nL A cells slots P pc lv (.int x :: st) := fun H locs ls hP hS hl => lv_if_ge X.1 X.2.1 hd ht (fun h => kt h H locs ls hP hS hl) (fun h => kf h H locs ls hP hS hl)
theorem q_if_gt (X : Fx p m c cc nL s args own) {x : Int32} {off : Int} {tgt : Nat} (hd : decode cc pc = .ok (.ifCond .gt off, 3)) (ht : (pc : Int) + off = (tgt : Int)) (kt : 0 < x → V p l e R s m args below meth c Q nL A cells slots P tgt lv st) (kf : ¬ 0 < x → V p l e R s m args below meth c Q nL A cells slots P (pc + 3) lv st) : V p l e R s m args below meth c Q nL A cells slots P pc lv (.int x :: st) := fun H locs ls hP hS hl => lv_if_gt X.1 X.2.1 hd ht (fun h => kt h H locs ls hP hS hl) (fun h => kf h H locs ls hP hS hl)
theorem q_if_le (X : Fx p m c cc nL s args own) {x : Int32} {off : Int} {tgt : Nat} (hd : decode cc pc = .ok (.ifCond .le off, 3)) (ht : (pc : Int) + off = (tgt : Int)) (kt : x ≤ 0 → V p l e R s m args below meth c Q nL A cells slots P tgt lv st) (kf : ¬ x ≤ 0 → V p l e R s m args below meth c Q nL A cells slots P (pc + 3) lv st) : V p l e R s m args below meth c Q nL A cells slots P pc lv (.int x :: st) := fun H locs ls hP hS hl => lv_if_le X.1 X.2.1 hd ht (fun h => kt h H locs ls hP hS hl) (fun h => kf h H locs ls hP hS hl)
theorem q_icmp_eq (X : Fx p m c cc nL s args own) {x y : Int32} {off : Int} {tgt : Nat} (hd : decode cc pc = .ok (.if_icmp .eq off, 3)) (ht : (pc : Int) + off = (tgt : Int)) (kt : x = y → V p l e R s m args below meth c Q nL A cells slots P tgt lv st) (kf : ¬ x = y → V p l e R s m args below meth c Q nL A cells slots P (pc + 3) lv st) : V p l e R s m args below meth c Q nL A cells slots P pc lv (.int y :: .int x :: st) := fun H locs ls hP hS hl => lv_icmp_eq X.1 X.2.1 hd ht (fun h => kt h H locs ls hP hS hl) (fun h => kf h H locs ls hP hS hl)
theorem q_icmp_ne (X : Fx p m c cc nL s args own) {x y : Int32} {off : Int} {tgt : Nat} (hd : decode cc pc = .ok (.if_icmp .ne off, 3)) (ht : (pc : Int) + off = (tgt : Int)) (kt : ¬ x = y → V p l e R s m args below meth c Q nL A cells slots P tgt lv st) (kf : x = y → V p l e R s m args below meth c Q nL A cells slots P (pc + 3) lv st) : V p l e R s m args below meth c Q nL A cells slots P pc lv (.int y :: .int x :: st) := fun H locs ls hP hS hl => lv_icmp_ne X.1 X.2.1 hd ht (fun h => kt h H locs ls hP hS hl) (fun h => kf h H locs ls hP hS hl)
theorem q_icmp_lt (X : Fx p m c cc nL s args own) {x y : Int32} {off : Int} {tgt : Nat} (hd : decode cc pc = .ok (.if_icmp .lt off, 3)) (ht : (pc : Int) + off = (tgt : Int)) (kt : x < y → V p l e R s m args below meth c Q nL A cells slots P tgt lv st) (kf : ¬ x < y → V p l e R s m args below meth c Q nL A cells slots P (pc + 3) lv st) : V p l e R s m args below meth c Q nL A cells slots P pc lv (.int y :: .int x :: st) := fun H locs ls hP hS hl => lv_icmp_lt X.1 X.2.1 hd ht (fun h => kt h H locs ls hP hS hl) (fun h => kf h H locs ls hP hS hl)
theorem q_icmp_ge (X : Fx p m c cc nL s args own) {x y : Int32} {off : Int} {tgt : Nat} (hd : decode cc pc = .ok (.if_icmp .ge off, 3)) (ht : (pc : Int) + off = (tgt : Int)) (kt : y ≤ x → V p l e R s m args below meth c Q nL A cells slots P tgt lv st) (kf : ¬ y ≤ x → V p l e R s m args below meth c Q nL A cells slots P (pc + 3) lv st) : V p l e R s m args below meth c Q nL A cells slots P pc lv (.int y :: .int x :: st) := fun H locs ls hP hS hl => lv_icmp_ge X.1 X.2.1 hd ht (fun h => kt h H locs ls hP hS hl) (fun h => kf h H locs ls hP hS hl)
theorem q_icmp_gt (X : Fx p m c cc nL s args own) {x y : Int32} {off : Int} {tgt : Nat} (hd : decode cc pc = .ok (.if_icmp .gt off, 3)) (ht : (pc : Int) + off = (tgt : Int)) (kt : y < x → V p l e R s m args below meth c Q nL A cells slots P tgt lv st) (kf : ¬ y < x → V p l e R s m args below meth c Q nL A cells slots P (pc + 3) lv st) : V p l e R s m args below meth c Q nL A cells slots P pc lv (.int y :: .int x :: st) := fun H locs ls hP hS hl => lv_icmp_gt X.1 X.2.1 hd ht (fun h => kt h H locs ls hP hS hl) (fun h => kf h H locs ls hP hS hl)
theorem q_icmp_le (X : Fx p m c cc nL s args own) {x y : Int32} {off : Int} {tgt : Nat} (hd : decode cc pc = .ok (.if_icmp .le off, 3)) (ht : (pc : Int) + off = (tgt : Int)) (kt : x ≤ y → V p l e R s m args below meth c Q nL A cells slots P tgt lv st) (kf : ¬ x ≤ y → V p l e R s m args below meth c Q nL A cells slots P (pc + 3) lv st) : V p l e R s m args below meth c Q nL A cells slots P pc lv (.int y :: .int x :: st) := fun H locs ls hP hS hl => lv_icmp_le X.1 X.2.1 hd ht (fun h => kt h H locs ls hP hS hl) (fun h => kf h H locs ls hP hS hl)
theorem q_goto (X : Fx p m c cc nL s args own) {off : Int} {tgt : Nat} (hd : decode cc pc = .ok (.goto off, 3)) (ht : (pc : Int) + off = (tgt : Int)) (k : V p l e R s m args below meth c Q nL A cells slots P tgt lv st) : V p l e R s m args below meth c Q nL A cells slots P pc lv st := fun H locs ls hP hS hl => lv_goto X.1 X.2.1 hd ht (k H locs ls hP hS hl)
theorem q_ifnull (X : Fx p m c cc nL s args own) {r : Nat} {a : Nat → Nat} {off : Int} {tgt : Nat} (hd : decode cc pc = .ok (.ifnull off, 3)) (ht : (pc : Int) + off = (tgt : Int)) (kt : r = 0 → V p l e R s m args below meth c Q nL A cells slots P tgt lv st) (kf : ¬ r = 0 → V p l e R s m args below meth c Q nL A cells slots P (pc + 3) lv st) : V p l e R s m args below meth c Q nL A cells slots P pc lv (rv a r :: st) := by
  intro H locs ls hP hS hl
  unfold rv
  by_cases h : r = 0
  · rw [if_pos h]
    exact lv_ifnullN X.1 X.2.1 hd ht (kt h H locs ls hP hS hl)
  · rw [if_neg h]
    exact lv_ifnull X.1 X.2.1 hd (kf h H locs ls hP hS hl)
theorem q_ifnonnull (X : Fx p m c cc nL s args own) {r : Nat} {a : Nat → Nat} {off : Int} {tgt : Nat} (hd : decode cc pc = .ok (.ifnonnull off, 3)) (ht : (pc : Int) + off = (tgt : Int)) (kt : ¬ r = 0 → V p l e R s m args below meth c Q nL A cells slots P tgt lv st) (kf : r = 0 → V p l e R s m args below meth c Q nL A cells slots P (pc + 3) lv st) : V p l e R s m args below meth c Q nL A cells slots P pc lv (rv a r :: st) := by
  intro H locs ls hP hS hl
  unfold rv
  by_cases h : r = 0
  · rw [if_pos h]
    exact lv_ifnonnullN X.1 X.2.1 hd (kf h H locs ls hP hS hl)
  · rw [if_neg h]
    exact lv_ifnonnull X.1 X.2.1 hd ht (kt h H locs ls hP hS hl)
/-- two things of one kind, by their numbers -/
theorem q_acmp_ne (X : Fx p m c cc nL s args own) (ax : Ax ad G A) {t i j : Nat} {off : Int} {tgt : Nat} (hi : G t i) (hj : G t j) (hd : decode cc pc = .ok (.if_acmp .ne off, 3)) (ht : (pc : Int) + off = (tgt : Int)) (kt : ¬ i = j → V p l e R s m args below meth c Q nL A cells slots P tgt lv st) (kf : i = j → V p l e R s m args below meth c Q nL A cells slots P (pc + 3) lv st) : V p l e R s m args below meth c Q nL A cells slots P pc lv (.ref (ad t j) :: .ref (ad t i) :: st) := by
  intro H locs ls hP hS hl
  refine lv_acmp_ne (rx := some (ad t i)) (ry := some (ad t j)) X.1 X.2.1 hd ht (fun h => kt (fun q => h (by rw [q])) H locs ls hP hS hl) (fun h => kf (ax.2 t i t j hi hj (Option.some.inj h)).2 H locs ls hP hS hl)
theorem q_sub {lv' : List (Nat × Value)} (ks : List Nat) (hk : lv_pick lv ks = lv') (k : V p l e R s m args below meth c Q nL A cells slots P pc lv' st) : V p l e R s m args below meth c Q nL A cells slots P pc lv st := fun H locs ls hP hS hl => k H locs ls hP hS (lv_sub hl ks hk)
theorem q_w {c2 n2 : Nat} (h1 : cells ≤ c2) (h2 : slots ≤ n2) (k : V p l e R s m args below meth c Q nL A c2 n2 P pc lv st) : V p l e R s m args below meth c Q nL A cells slots P pc lv st := fun H locs ls hP hS hl => W.widen h1 h2 (k H locs ls hP hS hl)
theorem q_get (X : Fx p m c cc nL s args own) (hK : KV D cA s) {t i ci N k : Nat} {C ref : String} {T : u_T} {index : Nat} (hO : kO t = some (ci, N)) (hc : vwCl[ci]? = some (C, T, N)) (hk : k < N) (hin : ∀ w ∈ u_ws C T N, w ∈ TG) (hG : G t i) (hlink : Cond.fieldLink own index ref (T k).2.1 (T k).2.2.1 ∈ TG) (hsame : ref = (T k).1) {v : Value} (hv : fv ad dy mm t i k = v) (hd : decode cc pc = .ok (.getfield index, 3)) (kk : V p l e R s m args below meth c Q nL A cells slots (Rep F D cA ad dy G mm) (pc + 3) lv (v :: st)) : V p l e R s m args below meth c Q nL A cells slots (Rep F D cA ad dy G mm) pc lv (.ref (ad t i) :: st) := by
  intro H locs ls hP hS hl
  have h0 := hP.2 t i hG
  unfold Cel at h0
  rw [hO] at h0
  obtain ⟨cell, q1, q2, q3, q4⟩ := h0
  obtain ⟨hSl, hfc, kC, hkC, hkind⟩ := hK.1.1 ci _ hc
  obtain ⟨cf, kf, fi, f, hi, hsl⟩ := hSl k hk
  subst hsame
  refine W.getf X.1 X.2.1 X.2.2.2.1 (X.2.2.2.2 _ hlink) hi (u_facts hfc hkC (u_lays X.2.2.2.2 hin hk) hi).1 q1 (by rw [q3]; exact fun h => by cases h) (v := v) ?_ rfl rfl hd (kk H locs ls hP hS hl)
  rw [hsl, q4 k hk, hv]
theorem q_getN (X : Fx p m c cc nL s args own) (hK : KV D cA s) {t i ci N k : Nat} {C ref : String} {T : u_T} {index : Nat} (hO : kO t = some (ci, N)) (hc : vwCl[ci]? = some (C, T, N)) (hk : k < N) (hin : ∀ w ∈ u_ws C T N, w ∈ TG) (hG : G t i) (hlink : (own, index, ref, (T k).2.1, (T k).2.2.1) ∈ nestF) (hsame : ref = (T k).1) {v : Value} (hv : fv ad dy mm t i k = v) (hd : decode cc pc = .ok (.getfield index, 3)) (kk : V p l e R s m args below meth c Q nL A cells slots (Rep F D cA ad dy G mm) (pc + 3) lv (v :: st)) : V p l e R s m args below meth c Q nL A cells slots (Rep F D cA ad dy G mm) pc lv (.ref (ad t i) :: st) := by
  intro H locs ls hP hS hl
  have h0 := hP.2 t i hG
  unfold Cel at h0
  rw [hO] at h0
  obtain ⟨cell, q1, q2, q3, q4⟩ := h0
  obtain ⟨hSl, hfc, kC, hkC, hkind⟩ := hK.1.1 ci _ hc
  obtain ⟨cf, kf, fi, f, hi, hsl⟩ := hSl k hk
  subst hsame
  refine va_Wgetf X.1 X.2.1 X.2.2.2.1 (va_Nw.use rfl (hK.2.2.1 _ hlink)) hi (u_facts hfc hkC (u_lays X.2.2.2.2 hin hk) hi).1 q1 (by rw [q3]; exact fun h => by cases h) (v := v) ?_ rfl rfl hd (kk H locs ls hP hS hl)
  rw [hsl, q4 k hk, hv]
theorem Rep_set {F : Nat → Prop} {D : va_G} {cA : Nat → ClassId} {ad : Nat → Nat → Nat} {dy : Bool} {G : Nat → Nat → Prop} {A : Nat → Prop} {mm mm' : Mm} {H H' : Heap} {t i : Nat} (ax : Ax ad G A) (hG : G t i) (hP : Rep F D cA ad dy G mm H) (hz : H'.size = H.size) (hq : ∀ q : Nat, q ≠ ad t i → H'[q]? = H[q]?) (hne : ∀ t' i', ¬ (t' = t ∧ i' = i) → (∀ f, fv ad dy mm' t' i' f = fv ad dy mm t' i' f)) (hn : Cel D cA ad dy mm' H' t i) : Rep F D cA ad dy G mm' H' := by
  refine ⟨by rw [hz]; exact hP.1, ?_⟩
  intro t' i' hG'
  by_cases h : t' = t ∧ i' = i
  · obtain ⟨rfl, rfl⟩ := h
    exact hn
  · have h1 := hP.2 t' i' hG'
    have hf : fv ad dy mm' t' i' = fv ad dy mm t' i' := funext (hne t' i' h)
    have ha : ad t' i' ≠ ad t i := fun q => h (ax.2 _ _ _ _ hG' hG q)
    unfold Cel at h1 ⊢
    rw [hf]
    cases hk : kO t' with
    | none => rw [hk] at h1; show H'[ad t' i']? = _; rw [hq _ ha]; exact h1
    | some q => rw [hk] at h1; exact h1.kept (hq _ ha)
theorem u3_other {α : Type} {m : Nat → Nat → Nat → α} {t i f : Nat} {v : α} {t' i' : Nat} (h : ¬ (t' = t ∧ i' = i)) (f' : Nat) : u3 m t i f v t' i' f' = m t' i' f' := by
  unfold u3
  rw [if_neg]
  exact fun q => h ⟨q.1, q.2.1⟩
theorem u3_same {α : Type} {m : Nat → Nat → Nat → α} {t i f : Nat} {v : α} (f' : Nat) : u3 m t i f v t i f' = if f' = f then v else m t i f' := by
  unfold u3
  by_cases h : f' = f
  · rw [if_pos h, if_pos ⟨rfl, rfl, h⟩]
  · rw [if_neg h, if_neg (fun q => h q.2.2)]
theorem fv_sI {ad : Nat → Nat → Nat} {dy : Bool} {m : Mm} {t i f : Nat} {v : Int32} (hT : kT t f = 0) (j : Nat) : fv ad dy (sI m t i f v) t i j = updV (fv ad dy m t i) f (.int v) j := by
  unfold updV
  by_cases h : j = f
  · subst h
    rw [if_pos rfl]
    unfold fv
    rw [hT]
    show Value.int (u3 m.1 t i j v t i j) = _
    rw [u3_same, if_pos rfl]
  · rw [if_neg h]
    unfold fv
    cases kT t j with
    | zero => show Value.int (u3 m.1 t i f v t i j) = _; rw [u3_same, if_neg h]
    | succ k => rfl
theorem fv_sI_ne {ad : Nat → Nat → Nat} {dy : Bool} {m : Mm} {t i f : Nat} {v : Int32} (t' i' : Nat) (h : ¬ (t' = t ∧ i' = i)) (j : Nat) : fv ad dy (sI m t i f v) t' i' j = fv ad dy m t' i' j := by
  unfold fv
  cases kT t' j with
  | zero => show Value.int (u3 m.1 t i f v t' i' j) = _; rw [u3_other h]
  | succ k => rfl
theorem fv_sR {ad : Nat → Nat → Nat} {dy : Bool} {m : Mm} {t i f k v : Nat} (hT : kT t f = k + 1) (hC : kC dy t i f = none) (j : Nat) : fv ad dy (sR m t i f v) t i j = updV (fv ad dy m t i) f (rv (ad k) v) j := by
  unfold updV
  by_cases h : j = f
  · subst h
    rw [if_pos rfl]
    unfold fv
    rw [hT]
    show rv (ad k) (rfi dy (sR m t i j v) t i j) = _
    unfold rfi
    rw [hC]
    show rv (ad k) (u3 m.2 t i j v t i j) = _
    rw [u3_same, if_pos rfl]
  · rw [if_neg h]
    unfold fv
    cases kT t j with
    | zero => rfl
    | succ k' =>
      show rv (ad k') (rfi dy (sR m t i f v) t i j) = rv (ad k') (rfi dy m t i j)
      unfold rfi
      cases kC dy t i j with
      | some r => rfl
      | none => show rv (ad k') (u3 m.2 t i f v t i j) = _; rw [u3_same, if_neg h]
theorem fv_sR_ne {ad : Nat → Nat → Nat} {dy : Bool} {m : Mm} {t i f v : Nat} (t' i' : Nat) (h : ¬ (t' = t ∧ i' = i)) (j : Nat) : fv ad dy (sR m t i f v) t' i' j = fv ad dy m t' i' j := by
  unfold fv
  cases kT t' j with
  | zero => rfl
  | succ k' =>
    show rv (ad k') (rfi dy (sR m t i f v) t' i' j) = rv (ad k') (rfi dy m t' i' j)
    unfold rfi
    cases kC dy t' i' j with
    | some r => rfl
    | none => show rv (ad k') (u3 m.2 t i f v t' i' j) = _; rw [u3_other h]
theorem narrow_B {x : Int32} (h : isB x) : narrow .boolean (.int x) = .int x ∧ fits .boolean (.int x) = true := by
  rcases h with rfl | rfl <;> exact ⟨by decide +kernel, by decide +kernel⟩
theorem q_putG (X : Fx p m c cc nL s args own) (ax : Ax ad G A) (hK : KV D cA s) {t i ci N k : Nat} {C ref : String} {T : u_T} {index : Nat} (hO : kO t = some (ci, N)) (hc : vwCl[ci]? = some (C, T, N)) (hk : k < N) (hin : ∀ w ∈ u_ws C T N, w ∈ TG) (hG : G t i) (ty0 : Nat → FieldType) (hty : ∀ k, k < N → parseFieldDescriptor (T k).2.2.1 = some (ty0 k)) (hnm : ∀ a, a < N → ∀ b, b < N → a ≠ b → (T a).2.1 ≠ (T b).2.1) (hlink : Cond.fieldLink own index ref (T k).2.1 (T k).2.2.1 ∈ TG) (hsame : ref = (T k).1) (hfin : (T k).2.2.2 = false) {ty : FieldType} {v : Value} (hd0 : parseFieldDescriptor (T k).2.2.1 = some ty) (hn : narrow ty v = v) (hfit : fits ty v = true) (mm' : Mm) (hup : ∀ j, fv ad dy mm' t i j = updV (fv ad dy mm t i) k v j) (hne : ∀ t' i', ¬ (t' = t ∧ i' = i) → ∀ f, fv ad dy mm' t' i' f = fv ad dy mm t' i' f) (hd : decode cc pc = .ok (.putfield index, 3)) (kk : V p l e R s m args below meth c Q nL A cells slots (Rep F D cA ad dy G mm') (pc + 3) lv st) : V p l e R s m args below meth c Q nL A cells slots (Rep F D cA ad dy G mm) pc lv (v :: .ref (ad t i) :: st) := by
  intro H locs ls hP hS hl
  have h0 := hP.2 t i hG
  unfold Cel at h0
  rw [hO] at h0
  obtain ⟨cell, q1, q2, q3, q4⟩ := h0
  have hap := va_apart (own := own) X.2.2.2.2 hin ty0 hty hnm hK.1 hc
  obtain ⟨hSl, hfc, kC, hkC, hkind⟩ := hK.1.1 ci _ hc
  obtain ⟨cf, kf, fi, f, hi, hsl⟩ := hSl k hk
  have hlay := X.2.2.2.2 _ (hin _ (u_in_lay hk))
  unfold u_lay at hlay
  rw [if_neg (by rw [hfin]; decide)] at hlay
  have hst := (u_facts hfc hkC (u_lays X.2.2.2.2 hin hk) hi).1
  have h6 := u_store hfc hkC hkind hlay hi hd0 hn hfit
  subst hsame
  refine W.putK X.1 X.2.1 (f := f) ⟨X.2.2.2.1, X.2.2.2.2 _ hlink, ⟨_, _, _, hi⟩, hst⟩ (by rw [q2]; exact h6) q1 q3 (by rw [hsl]; exact k2_hasslot (q4 k hk)) rfl rfl hd (fun H' e1 e2 e3 => ?_)
  rw [hsl] at e1 ⊢
  refine kk H' _ ls (Rep_set ax hG hP e2 e3 hne ?_) (hS.put e2 e3 (ax.1 _ _ hG)) hl
  unfold Cel
  rw [hO]
  exact ⟨_, e1, q2, q3, fun j hj => by rw [hup j]; exact t_set q4 hap hk v j hj⟩
theorem q_putGN (X : Fx p m c cc nL s args own) (ax : Ax ad G A) (hK : KV D cA s) {t i ci N k : Nat} {C ref : String} {T : u_T} {index : Nat} (hO : kO t = some (ci, N)) (hc : vwCl[ci]? = some (C, T, N)) (hk : k < N) (hin : ∀ w ∈ u_ws C T N, w ∈ TG) (hG : G t i) (ty0 : Nat → FieldType) (hty : ∀ k, k < N → parseFieldDescriptor (T k).2.2.1 = some (ty0 k)) (hnm : ∀ a, a < N → ∀ b, b < N → a ≠ b → (T a).2.1 ≠ (T b).2.1) (hlink : (own, index, ref, (T k).2.1, (T k).2.2.1) ∈ nestF) (hsame : ref = (T k).1) (hfin : (T k).2.2.2 = false) {ty : FieldType} {v : Value} (hd0 : parseFieldDescriptor (T k).2.2.1 = some ty) (hn : narrow ty v = v) (hfit : fits ty v = true) (mm' : Mm) (hup : ∀ j, fv ad dy mm' t i j = updV (fv ad dy mm t i) k v j) (hne : ∀ t' i', ¬ (t' = t ∧ i' = i) → ∀ f, fv ad dy mm' t' i' f = fv ad dy mm t' i' f) (hd : decode cc pc = .ok (.putfield index, 3)) (kk : V p l e R s m args below meth c Q nL A cells slots (Rep F D cA ad dy G mm') (pc + 3) lv st) : V p l e R s m args below meth c Q nL A cells slots (Rep F D cA ad dy G mm) pc lv (v :: .ref (ad t i) :: st) := by
  intro H locs ls hP hS hl
  have h0 := hP.2 t i hG
  unfold Cel at h0
  rw [hO] at h0
  obtain ⟨cell, q1, q2, q3, q4⟩ := h0
  have hap := va_apart (own := own) X.2.2.2.2 hin ty0 hty hnm hK.1 hc
  obtain ⟨hSl, hfc, kC, hkC, hkind⟩ := hK.1.1 ci _ hc
  obtain ⟨cf, kf, fi, f, hi, hsl⟩ := hSl k hk
  have hlay := X.2.2.2.2 _ (hin _ (u_in_lay hk))
  unfold u_lay at hlay
  rw [if_neg (by rw [hfin]; decide)] at hlay
  have hst := (u_facts hfc hkC (u_lays X.2.2.2.2 hin hk) hi).1
  have h6 := u_store hfc hkC hkind hlay hi hd0 hn hfit
  subst hsame
  refine va_WputK X.1 X.2.1 (f := f) X.2.2.2.1 (va_Nw.use rfl (hK.2.2.1 _ hlink)) hi hst (by rw [q2]; exact h6) q1 q3 (by rw [hsl]; exact k2_hasslot (q4 k hk)) rfl rfl hd (fun H' e1 e2 e3 => ?_)
  rw [hsl] at e1 ⊢
  refine kk H' _ ls (Rep_set ax hG hP e2 e3 hne ?_) (hS.put e2 e3 (ax.1 _ _ hG)) hl
  unfold Cel
  rw [hO]
  exact ⟨_, e1, q2, q3, fun j hj => by rw [hup j]; exact t_set q4 hap hk v j hj⟩
theorem q_putGF (X : Fx p m c cc nL s args own) (ax : Ax ad G A) (hK : KV D cA s) {t i ci N k : Nat} {C ref : String} {T : u_T} {index : Nat} (hO : kO t = some (ci, N)) (hc : vwCl[ci]? = some (C, T, N)) (hk : k < N) (hin : ∀ w ∈ u_ws C T N, w ∈ TG) (hG : G t i) (ty0 : Nat → FieldType) (hty : ∀ k, k < N → parseFieldDescriptor (T k).2.2.1 = some (ty0 k)) (hnm : ∀ a, a < N → ∀ b, b < N → a ≠ b → (T a).2.1 ≠ (T b).2.1) (hlink : Cond.fieldLink own index ref (T k).2.1 (T k).2.2.1 ∈ TG) (hin2 : meth.name = "<init>") (hdecl : (T k).1 = own) (hsame : ref = (T k).1) (hfin : (T k).2.2.2 = true) {ty : FieldType} {v : Value} (hd0 : parseFieldDescriptor (T k).2.2.1 = some ty) (hn : narrow ty v = v) (hfit : fits ty v = true) (mm' : Mm) (hup : ∀ j, fv ad dy mm' t i j = updV (fv ad dy mm t i) k v j) (hne : ∀ t' i', ¬ (t' = t ∧ i' = i) → ∀ f, fv ad dy mm' t' i' f = fv ad dy mm t' i' f) (hd : decode cc pc = .ok (.putfield index, 3)) (kk : V p l e R s m args below meth c Q nL A cells slots (Rep F D cA ad dy G mm') (pc + 3) lv st) : V p l e R s m args below meth c Q nL A cells slots (Rep F D cA ad dy G mm) pc lv (v :: .ref (ad t i) :: st) := by
  intro H locs ls hP hS hl
  have h0 := hP.2 t i hG
  unfold Cel at h0
  rw [hO] at h0
  obtain ⟨cell, q1, q2, q3, q4⟩ := h0
  have hap := va_apart (own := own) X.2.2.2.2 hin ty0 hty hnm hK.1 hc
  obtain ⟨hSl, hfc, kC, hkC, hkind⟩ := hK.1.1 ci _ hc
  obtain ⟨cf, kf, fi, f, hi, hsl⟩ := hSl k hk
  have hlay := X.2.2.2.2 _ (hin _ (u_in_lay hk))
  unfold u_lay at hlay
  rw [if_pos hfin] at hlay
  have hst := (u_facts hfc hkC (u_lays X.2.2.2.2 hin hk) hi).1
  have hcf : m.cls = cf := by
    obtain ⟨_, _, c', _, _, _, -, -, hf', -, -, -, hown2, -⟩ := Cond.laysFinal_spec hlay
    have e1 : c' = cf := by have := hi.symm.trans hf'; simp at this; exact this.1.symm
    rw [hdecl] at hown2
    rw [← e1]; exact Option.some.inj (X.2.2.2.1.symm.trans hown2)
  have h6 := u_fits hfc hkC hkind (Or.inr hlay) hi hd0 hn hfit
  subst hsame
  refine W.putFinK X.1 X.2.1 X.2.2.2.1 (X.2.2.2.2 _ hlink) hi hst hcf hin2 (by rw [q2]; exact h6) q1 q3 (by rw [hsl]; exact k2_hasslot (q4 k hk)) rfl rfl hd (fun H' e1 e2 e3 => ?_)
  rw [hsl] at e1 ⊢
  refine kk H' _ ls (Rep_set ax hG hP e2 e3 hne ?_) (hS.put e2 e3 (ax.1 _ _ hG)) hl
  unfold Cel
  rw [hO]
  exact ⟨_, e1, q2, q3, fun j hj => by rw [hup j]; exact t_set q4 hap hk v j hj⟩
theorem q_putI (X : Fx p m c cc nL s args own) (ax : Ax ad G A) (hK : KV D cA s) {t i ci N k : Nat} {C ref : String} {T : u_T} {index : Nat} (hO : kO t = some (ci, N)) (hc : vwCl[ci]? = some (C, T, N)) (hk : k < N) (hin : ∀ w ∈ u_ws C T N, w ∈ TG) (hG : G t i) (ty0 : Nat → FieldType) (hty : ∀ k, k < N → parseFieldDescriptor (T k).2.2.1 = some (ty0 k)) (hnm : ∀ a, a < N → ∀ b, b < N → a ≠ b → (T a).2.1 ≠ (T b).2.1) (hlink : Cond.fieldLink own index ref (T k).2.1 (T k).2.2.1 ∈ TG) (hsame : ref = (T k).1) (hfin : (T k).2.2.2 = false) {x : Int32} (hd0 : parseFieldDescriptor (T k).2.2.1 = some .int) (hT : kT t k = 0) (hd : decode cc pc = .ok (.putfield index, 3)) (kk : V p l e R s m args below meth c Q nL A cells slots (Rep F D cA ad dy G (sI mm t i k x)) (pc + 3) lv st) : V p l e R s m args below meth c Q nL A cells slots (Rep F D cA ad dy G mm) pc lv (.int x :: .ref (ad t i) :: st) :=
  q_putG X ax hK hO hc hk hin hG ty0 hty hnm hlink hsame hfin hd0 rfl rfl (sI mm t i k x) (fv_sI hT) fv_sI_ne hd kk
theorem q_putB (X : Fx p m c cc nL s args own) (ax : Ax ad G A) (hK : KV D cA s) {t i ci N k : Nat} {C ref : String} {T : u_T} {index : Nat} (hO : kO t = some (ci, N)) (hc : vwCl[ci]? = some (C, T, N)) (hk : k < N) (hin : ∀ w ∈ u_ws C T N, w ∈ TG) (hG : G t i) (ty0 : Nat → FieldType) (hty : ∀ k, k < N → parseFieldDescriptor (T k).2.2.1 = some (ty0 k)) (hnm : ∀ a, a < N → ∀ b, b < N → a ≠ b → (T a).2.1 ≠ (T b).2.1) (hlink : Cond.fieldLink own index ref (T k).2.1 (T k).2.2.1 ∈ TG) (hsame : ref = (T k).1) (hfin : (T k).2.2.2 = false) {x : Int32} (hd0 : parseFieldDescriptor (T k).2.2.1 = some .boolean) (hb : isB x) (hT : kT t k = 0) (hd : decode cc pc = .ok (.putfield index, 3)) (kk : V p l e R s m args below meth c Q nL A cells slots (Rep F D cA ad dy G (sI mm t i k x)) (pc + 3) lv st) : V p l e R s m args below meth c Q nL A cells slots (Rep F D cA ad dy G mm) pc lv (.int x :: .ref (ad t i) :: st) :=
  q_putG X ax hK hO hc hk hin hG ty0 hty hnm hlink hsame hfin hd0 (narrow_B hb).1 (narrow_B hb).2 (sI mm t i k x) (fv_sI hT) fv_sI_ne hd kk
theorem q_putR (X : Fx p m c cc nL s args own) (ax : Ax ad G A) (hK : KV D cA s) {t i ci N k : Nat} {C ref : String} {T : u_T} {index : Nat} (hO : kO t = some (ci, N)) (hc : vwCl[ci]? = some (C, T, N)) (hk : k < N) (hin : ∀ w ∈ u_ws C T N, w ∈ TG) (hG : G t i) (ty0 : Nat → FieldType) (hty : ∀ k, k < N → parseFieldDescriptor (T k).2.2.1 = some (ty0 k)) (hnm : ∀ a, a < N → ∀ b, b < N → a ≠ b → (T a).2.1 ≠ (T b).2.1) (hlink : Cond.fieldLink own index ref (T k).2.1 (T k).2.2.1 ∈ TG) (hsame : ref = (T k).1) (hfin : (T k).2.2.2 = false) {ty : FieldType} {r k' : Nat} {v : Value} (hd0 : parseFieldDescriptor (T k).2.2.1 = some ty) (hrt : (∃ n, ty = .object n) ∨ ∃ u, ty = .array u) (hT : kT t k = k' + 1) (hC : kC dy t i k = none) (hv : v = rv (ad k') r) (hd : decode cc pc = .ok (.putfield index, 3)) (kk : V p l e R s m args below meth c Q nL A cells slots (Rep F D cA ad dy G (sR mm t i k r)) (pc + 3) lv st) : V p l e R s m args below meth c Q nL A cells slots (Rep F D cA ad dy G mm) pc lv (v :: .ref (ad t i) :: st) := by
  subst hv
  have h1 : narrow ty (rv (ad k') r) = rv (ad k') r ∧ fits ty (rv (ad k') r) = true := by
    unfold rv
    rcases hrt with ⟨n, rfl⟩ | ⟨u, rfl⟩ <;> split <;> exact ⟨rfl, rfl⟩
  exact q_putG X ax hK hO hc hk hin hG ty0 hty hnm hlink hsame hfin hd0 h1.1 h1.2 (sR mm t i k r) (fv_sR hT hC) fv_sR_ne hd kk
theorem q_putIN (X : Fx p m c cc nL s args own) (ax : Ax ad G A) (hK : KV D cA s) {t i ci N k : Nat} {C ref : String} {T : u_T} {index : Nat} (hO : kO t = some (ci, N)) (hc : vwCl[ci]? = some (C, T, N)) (hk : k < N) (hin : ∀ w ∈ u_ws C T N, w ∈ TG) (hG : G t i) (ty0 : Nat → FieldType) (hty : ∀ k, k < N → parseFieldDescriptor (T k).2.2.1 = some (ty0 k)) (hnm : ∀ a, a < N → ∀ b, b < N → a ≠ b → (T a).2.1 ≠ (T b).2.1) (hlink : (own, index, ref, (T k).2.1, (T k).2.2.1) ∈ nestF) (hsame : ref = (T k).1) (hfin : (T k).2.2.2 = false) {x : Int32} (hd0 : parseFieldDescriptor (T k).2.2.1 = some .int) (hT : kT t k = 0) (hd : decode cc pc = .ok (.putfield index, 3)) (kk : V p l e R s m args below meth c Q nL A cells slots (Rep F D cA ad dy G (sI mm t i k x)) (pc + 3) lv st) : V p l e R s m args below meth c Q nL A cells slots (Rep F D cA ad dy G mm) pc lv (.int x :: .ref (ad t i) :: st) :=
  q_putGN X ax hK hO hc hk hin hG ty0 hty hnm hlink hsame hfin hd0 rfl rfl (sI mm t i k x) (fv_sI hT) fv_sI_ne hd kk
theorem q_putBN (X : Fx p m c cc nL s args own) (ax : Ax ad G A) (hK : KV D cA s) {t i ci N k : Nat} {C ref : String} {T : u_T} {index : Nat} (hO : kO t = some (ci, N)) (hc : vwCl[ci]? = some (C, T, N)) (hk : k < N) (hin : ∀ w ∈ u_ws C T N, w ∈ TG) (hG : G t i) (ty0 : Nat → FieldType) (hty : ∀ k, k < N → parseFieldDescriptor (T k).2.2.1 = some (ty0 k)) (hnm : ∀ a, a < N → ∀ b, b < N → a ≠ b → (T a).2.1 ≠ (T b).2.1) (hlink : (own, index, ref, (T k).2.1, (T k).2.2.1) ∈ nestF) (hsame : ref = (T k).1) (hfin : (T k).2.2.2 = false) {x : Int32} (hd0 : parseFieldDescriptor (T k).2.2.1 = some .boolean) (hb : isB x) (hT : kT t k = 0) (hd : decode cc pc = .ok (.putfield index, 3)) (kk : V p l e R s m args below meth c Q nL A cells slots (Rep F D cA ad dy G (sI mm t i k x)) (pc + 3) lv st) : V p l e R s m args below meth c Q nL A cells slots (Rep F D cA ad dy G mm) pc lv (.int x :: .ref (ad t i) :: st) :=
  q_putGN X ax hK hO hc hk hin hG ty0 hty hnm hlink hsame hfin hd0 (narrow_B hb).1 (narrow_B hb).2 (sI mm t i k x) (fv_sI hT) fv_sI_ne hd kk
theorem q_putRN (X : Fx p m c cc nL s args own) (ax : Ax ad G A) (hK : KV D cA s) {t i ci N k : Nat} {C ref : String} {T : u_T} {index : Nat} (hO : kO t = some (ci, N)) (hc : vwCl[ci]? = some (C, T, N)) (hk : k < N) (hin : ∀ w ∈ u_ws C T N, w ∈ TG) (hG : G t i) (ty0 : Nat → FieldType) (hty : ∀ k, k < N → parseFieldDescriptor (T k).2.2.1 = some (ty0 k)) (hnm : ∀ a, a < N → ∀ b, b < N → a ≠ b → (T a).2.1 ≠ (T b).2.1) (hlink : (own, index, ref, (T k).2.1, (T k).2.2.1) ∈ nestF) (hsame : ref = (T k).1) (hfin : (T k).2.2.2 = false) {ty : FieldType} {r k' : Nat} {v : Value} (hd0 : parseFieldDescriptor (T k).2.2.1 = some ty) (hrt : (∃ n, ty = .object n) ∨ ∃ u, ty = .array u) (hT : kT t k = k' + 1) (hC : kC dy t i k = none) (hv : v = rv (ad k') r) (hd : decode cc pc = .ok (.putfield index, 3)) (kk : V p l e R s m args below meth c Q nL A cells slots (Rep F D cA ad dy G (sR mm t i k r)) (pc + 3) lv st) : V p l e R s m args below meth c Q nL A cells slots (Rep F D cA ad dy G mm) pc lv (v :: .ref (ad t i) :: st) := by
  subst hv
  have h1 : narrow ty (rv (ad k') r) = rv (ad k') r ∧ fits ty (rv (ad k') r) = true := by
    unfold rv
    rcases hrt with ⟨n, rfl⟩ | ⟨u, rfl⟩ <;> split <;> exact ⟨rfl, rfl⟩
  exact q_putGN X ax hK hO hc hk hin hG ty0 hty hnm hlink hsame hfin hd0 h1.1 h1.2 (sR mm t i k r) (fv_sR hT hC) fv_sR_ne hd kk
theorem q_putIF (X : Fx p m c cc nL s args own) (ax : Ax ad G A) (hK : KV D cA s) {t i ci N k : Nat} {C ref : String} {T : u_T} {index : Nat} (hO : kO t = some (ci, N)) (hc : vwCl[ci]? = some (C, T, N)) (hk : k < N) (hin : ∀ w ∈ u_ws C T N, w ∈ TG) (hG : G t i) (ty0 : Nat → FieldType) (hty : ∀ k, k < N → parseFieldDescriptor (T k).2.2.1 = some (ty0 k)) (hnm : ∀ a, a < N → ∀ b, b < N → a ≠ b → (T a).2.1 ≠ (T b).2.1) (hlink : Cond.fieldLink own index ref (T k).2.1 (T k).2.2.1 ∈ TG) (hin2 : meth.name = "<init>") (hdecl : (T k).1 = own) (hsame : ref = (T k).1) (hfin : (T k).2.2.2 = true) {x : Int32} (hd0 : parseFieldDescriptor (T k).2.2.1 = some .int) (hT : kT t k = 0) (hd : decode cc pc = .ok (.putfield index, 3)) (kk : V p l e R s m args below meth c Q nL A cells slots (Rep F D cA ad dy G (sI mm t i k x)) (pc + 3) lv st) : V p l e R s m args below meth c Q nL A cells slots (Rep F D cA ad dy G mm) pc lv (.int x :: .ref (ad t i) :: st) :=
  q_putGF X ax hK hO hc hk hin hG ty0 hty hnm hlink hin2 hdecl hsame hfin hd0 rfl rfl (sI mm t i k x) (fv_sI hT) fv_sI_ne hd kk
theorem q_putBF (X : Fx p m c cc nL s args own) (ax : Ax ad G A) (hK : KV D cA s) {t i ci N k : Nat} {C ref : String} {T : u_T} {index : Nat} (hO : kO t = some (ci, N)) (hc : vwCl[ci]? = some (C, T, N)) (hk : k < N) (hin : ∀ w ∈ u_ws C T N, w ∈ TG) (hG : G t i) (ty0 : Nat → FieldType) (hty : ∀ k, k < N → parseFieldDescriptor (T k).2.2.1 = some (ty0 k)) (hnm : ∀ a, a < N → ∀ b, b < N → a ≠ b → (T a).2.1 ≠ (T b).2.1) (hlink : Cond.fieldLink own index ref (T k).2.1 (T k).2.2.1 ∈ TG) (hin2 : meth.name = "<init>") (hdecl : (T k).1 = own) (hsame : ref = (T k).1) (hfin : (T k).2.2.2 = true) {x : Int32} (hd0 : parseFieldDescriptor (T k).2.2.1 = some .boolean) (hb : isB x) (hT : kT t k = 0) (hd : decode cc pc = .ok (.putfield index, 3)) (kk : V p l e R s m args below meth c Q nL A cells slots (Rep F D cA ad dy G (sI mm t i k x)) (pc + 3) lv st) : V p l e R s m args below meth c Q nL A cells slots (Rep F D cA ad dy G mm) pc lv (.int x :: .ref (ad t i) :: st) :=
  q_putGF X ax hK hO hc hk hin hG ty0 hty hnm hlink hin2 hdecl hsame hfin hd0 (narrow_B hb).1 (narrow_B hb).2 (sI mm t i k x) (fv_sI hT) fv_sI_ne hd kk
theorem q_putRF (X : Fx p m c cc nL s args own) (ax : Ax ad G A) (hK : KV D cA s) {t i ci N k : Nat} {C ref : String} {T : u_T} {index : Nat} (hO : kO t = some (ci, N)) (hc : vwCl[ci]? = some (C, T, N)) (hk : k < N) (hin : ∀ w ∈ u_ws C T N, w ∈ TG) (hG : G t i) (ty0 : Nat → FieldType) (hty : ∀ k, k < N → parseFieldDescriptor (T k).2.2.1 = some (ty0 k)) (hnm : ∀ a, a < N → ∀ b, b < N → a ≠ b → (T a).2.1 ≠ (T b).2.1) (hlink : Cond.fieldLink own index ref (T k).2.1 (T k).2.2.1 ∈ TG) (hin2 : meth.name = "<init>") (hdecl : (T k).1 = own) (hsame : ref = (T k).1) (hfin : (T k).2.2.2 = true) {ty : FieldType} {r k' : Nat} {v : Value} (hd0 : parseFieldDescriptor (T k).2.2.1 = some ty) (hrt : (∃ n, ty = .object n) ∨ ∃ u, ty = .array u) (hT : kT t k = k' + 1) (hC : kC dy t i k = none) (hv : v = rv (ad k') r) (hd : decode cc pc = .ok (.putfield index, 3)) (kk : V p l e R s m args below meth c Q nL A cells slots (Rep F D cA ad dy G (sR mm t i k r)) (pc + 3) lv st) : V p l e R s m args below meth c Q nL A cells slots (Rep F D cA ad dy G mm) pc lv (v :: .ref (ad t i) :: st) := by
  subst hv
  have h1 : narrow ty (rv (ad k') r) = rv (ad k') r ∧ fits ty (rv (ad k') r) = true := by
    unfold rv
    rcases hrt with ⟨n, rfl⟩ | ⟨u, rfl⟩ <;> split <;> exact ⟨rfl, rfl⟩
  exact q_putGF X ax hK hO hc hk hin hG ty0 hty hnm hlink hin2 hdecl hsame hfin hd0 h1.1 h1.2 (sR mm t i k r) (fv_sR hT hC) fv_sR_ne hd kk
theorem q_iald (X : Fx p m c cc nL s args own) (hK : KV D cA s) {t i n : Nat} (hO : kO t = none) (hL : kL t = n) (hG : G t i) (hE : kE t = some .int) {j : Int32} (hx : vp_in j n) {jn : Nat} (hj : j.toNatClampNeg = jn) {v : Value} (hv : fv ad dy mm t i jn = v) (hd : decode cc pc = .ok (.iaload, 1)) (kk : V p l e R s m args below meth c Q nL A cells slots (Rep F D cA ad dy G mm) (pc + 1) lv (v :: st)) : V p l e R s m args below meth c Q nL A cells slots (Rep F D cA ad dy G mm) pc lv (.int j :: .ref (ad t i) :: st) := by
  intro H locs ls hP hS hl
  subst hj
  have h0 := hP.2 t i hG
  unfold Cel at h0
  rw [hO, hL] at h0
  have hlt : j.toNatClampNeg < n := Nat.not_le.mp fun q => hx (Or.inr q)
  exact W.iald (v := v) X.1 X.2.1 h0 ((hK.2.1 t _ hE).1 n (fv ad dy mm t i)) (fun q => by cases q) (by show ¬ (j < 0 ∨ (arrV _ _ _).slots.size ≤ _); rw [arrV_size]; exact hx) (by show (arrV _ _ _).slots[_]? = _; rw [arrV_read _ _ hlt, hv]) rfl rfl hd (kk H locs ls hP hS hl)
theorem q_zald (X : Fx p m c cc nL s args own) (hK : KV D cA s) {t i n : Nat} (hO : kO t = none) (hL : kL t = n) (hG : G t i) (hE : kE t = some .boolean) {j : Int32} (hx : vp_in j n) {jn : Nat} (hj : j.toNatClampNeg = jn) {v : Value} (hv : fv ad dy mm t i jn = v) (hd : decode cc pc = .ok (.baload, 1)) (kk : V p l e R s m args below meth c Q nL A cells slots (Rep F D cA ad dy G mm) (pc + 1) lv (v :: st)) : V p l e R s m args below meth c Q nL A cells slots (Rep F D cA ad dy G mm) pc lv (.int j :: .ref (ad t i) :: st) := by
  intro H locs ls hP hS hl
  subst hj
  have h0 := hP.2 t i hG
  unfold Cel at h0
  rw [hO, hL] at h0
  have hlt : j.toNatClampNeg < n := Nat.not_le.mp fun q => hx (Or.inr q)
  exact W.zald (v := v) X.1 X.2.1 h0 ((hK.2.1 t _ hE).1 n (fv ad dy mm t i)) (fun q => by cases q) (by show ¬ (j < 0 ∨ (arrV _ _ _).slots.size ≤ _); rw [arrV_size]; exact hx) (by show (arrV _ _ _).slots[_]? = _; rw [arrV_read _ _ hlt, hv]) rfl rfl hd (kk H locs ls hP hS hl)
theorem q_aald (X : Fx p m c cc nL s args own) (hK : KV D cA s) {t i n : Nat} (hO : kO t = none) (hL : kL t = n) (hG : G t i) {C : String} (hE : kE t = some (.object C)) {j : Int32} (hx : vp_in j n) {jn : Nat} (hj : j.toNatClampNeg = jn) {v : Value} (hv : fv ad dy mm t i jn = v) (hd : decode cc pc = .ok (.aaload, 1)) (kk : V p l e R s m args below meth c Q nL A cells slots (Rep F D cA ad dy G mm) (pc + 1) lv (v :: st)) : V p l e R s m args below meth c Q nL A cells slots (Rep F D cA ad dy G mm) pc lv (.int j :: .ref (ad t i) :: st) := by
  intro H locs ls hP hS hl
  subst hj
  have h0 := hP.2 t i hG
  unfold Cel at h0
  rw [hO, hL] at h0
  have hlt : j.toNatClampNeg < n := Nat.not_le.mp fun q => hx (Or.inr q)
  exact W.aald (v := v) (ty := .object C) X.1 X.2.1 h0 ((hK.2.1 t _ hE).1 n (fv ad dy mm t i)) rfl (fun q => by cases q) (by show ¬ (j < 0 ∨ (arrV _ _ _).slots.size ≤ _); rw [arrV_size]; exact hx) (by show (arrV _ _ _).slots[_]? = _; rw [arrV_read _ _ hlt, hv]) rfl rfl hd (kk H locs ls hP hS hl)
theorem q_alen (X : Fx p m c cc nL s args own) (hK : KV D cA s) {t i n : Nat} (hO : kO t = none) (hL : kL t = n) (hG : G t i) {ty : FieldType} (hE : kE t = some ty) {v : Int32} (hv : Int32.ofNat n = v) (hd : decode cc pc = .ok (.arraylength, 1)) (kk : V p l e R s m args below meth c Q nL A cells slots (Rep F D cA ad dy G mm) (pc + 1) lv (.int v :: st)) : V p l e R s m args below meth c Q nL A cells slots (Rep F D cA ad dy G mm) pc lv (.ref (ad t i) :: st) := by
  intro H locs ls hP hS hl
  have h0 := hP.2 t i hG
  unfold Cel at h0
  rw [hO, hL] at h0
  exact W.alen (n := v) X.1 X.2.1 h0 ((hK.2.1 t _ hE).1 n (fv ad dy mm t i)) (by rw [arrV_size]; exact hv) rfl rfl hd (kk H locs ls hP hS hl)
theorem q_iast (X : Fx p m c cc nL s args own) (ax : Ax ad G A) (hK : KV D cA s) {t i n : Nat} (hO : kO t = none) (hL : kL t = n) (hG : G t i) (hE : kE t = some .int) {j x : Int32} (hx : vp_in j n) {jn : Nat} (hj : j.toNatClampNeg = jn) (hT : kT t jn = 0) (hd : decode cc pc = .ok (.iastore, 1)) (kk : V p l e R s m args below meth c Q nL A cells slots (Rep F D cA ad dy G (sI mm t i jn x)) (pc + 1) lv st) : V p l e R s m args below meth c Q nL A cells slots (Rep F D cA ad dy G mm) pc lv (.int x :: .int j :: .ref (ad t i) :: st) := by
  intro H locs ls hP hS hl
  subst hj
  have h0 := hP.2 t i hG
  unfold Cel at h0
  rw [hO, hL] at h0
  have hlt : j.toNatClampNeg < n := Nat.not_le.mp fun q => hx (Or.inr q)
  refine W.iast X.1 X.2.1 h0 ((hK.2.1 t _ hE).1 n (fv ad dy mm t i)) (fun q => by cases q) (by show ¬ (j < 0 ∨ (arrV _ _ _).slots.size ≤ _); rw [arrV_size]; exact hx) rfl rfl hd (fun H' e1 e2 e3 => ?_)
  refine kk H' _ ls (Rep_set ax hG hP e2 e3 fv_sI_ne ?_) (hS.put e2 e3 (ax.1 _ _ hG)) hl
  unfold Cel
  rw [hO, hL, e1]
  rw [arrV_store]
  congr 2
  exact (funext (fv_sI hT)).symm
theorem q_zast (X : Fx p m c cc nL s args own) (ax : Ax ad G A) (hK : KV D cA s) {t i n : Nat} (hO : kO t = none) (hL : kL t = n) (hG : G t i) (hE : kE t = some .boolean) {j x : Int32} (hx : vp_in j n) {jn : Nat} (hj : j.toNatClampNeg = jn) (hb : isB x) (hT : kT t jn = 0) (hd : decode cc pc = .ok (.bastore, 1)) (kk : V p l e R s m args below meth c Q nL A cells slots (Rep F D cA ad dy G (sI mm t i jn x)) (pc + 1) lv st) : V p l e R s m args below meth c Q nL A cells slots (Rep F D cA ad dy G mm) pc lv (.int x :: .int j :: .ref (ad t i) :: st) := by
  intro H locs ls hP hS hl
  subst hj
  have h0 := hP.2 t i hG
  unfold Cel at h0
  rw [hO, hL] at h0
  have hlt : j.toNatClampNeg < n := Nat.not_le.mp fun q => hx (Or.inr q)
  refine W.zast X.1 X.2.1 h0 ((hK.2.1 t _ hE).1 n (fv ad dy mm t i)) (fun q => by cases q) (by show ¬ (j < 0 ∨ (arrV _ _ _).slots.size ≤ _); rw [arrV_size]; exact hx) rfl rfl hd (fun H' e1 e2 e3 => ?_)
  rw [(narrow_B hb).1] at e1
  refine kk H' _ ls (Rep_set ax hG hP e2 e3 fv_sI_ne ?_) (hS.put e2 e3 (ax.1 _ _ hG)) hl
  unfold Cel
  rw [hO, hL, e1]
  rw [arrV_store]
  congr 2
  exact (funext (fv_sI hT)).symm
theorem q_aast (X : Fx p m c cc nL s args own) (ax : Ax ad G A) (hK : KV D cA s) {t i n : Nat} (hO : kO t = none) (hL : kL t = n) (hG : G t i) {ci N k : Nat} {C : String} {T : u_T} (hE : kE t = some (.object C)) (hc : vwCl[ci]? = some (C, T, N)) (hOk : kO k = some (ci, N)) {j : Int32} {r : Nat} (hGk : G k r) (hr : 1 ≤ r) (hx : vp_in j n) {jn : Nat} (hj : j.toNatClampNeg = jn) (hT : kT t jn = k + 1) (hC : kC dy t i jn = none) (hd : decode cc pc = .ok (.aastore, 1)) (kk : V p l e R s m args below meth c Q nL A cells slots (Rep F D cA ad dy G (sR mm t i jn r)) (pc + 1) lv st) : V p l e R s m args below meth c Q nL A cells slots (Rep F D cA ad dy G mm) pc lv (.ref (ad k r) :: .int j :: .ref (ad t i) :: st) := by
  intro H locs ls hP hS hl
  subst hj
  have h0 := hP.2 t i hG
  unfold Cel at h0
  rw [hO, hL] at h0
  have hlt : j.toNatClampNeg < n := Nat.not_le.mp fun q => hx (Or.inr q)
  have h0' : ¬ j < 0 := fun q => hx (Or.inl q)
  have h2 := hP.2 k r hGk
  unfold Cel at h2
  rw [hOk] at h2
  obtain ⟨cellV, g1, g2, g3, -⟩ := h2
  have hcls := (hK.1.1 ci _ hc).2
  obtain ⟨kA, comp, k1, k2, k3, -⟩ := (hK.2.1 t _ hE).2
  have hcomp : comp = D.1 ci := Option.some.inj (k3.symm.trans hcls.1)
  subst hcomp
  obtain ⟨kC, hkC, -⟩ := hcls.2
  refine W.aast X.1 X.2.1 h0 (fun q h => by cases h) (fun h => by cases h) k1 k2 rfl hkC ⟨h0', by show _ < (arrV _ _ _).slots.size; rw [arrV_size]; exact hlt⟩ g1 (fun q h => by rw [g3] at h; cases h) (by rw [g2]; exact hkC) (by rw [g2]; exact va_assign hcls) rfl rfl hd (fun H' e1 e2 e3 => ?_)
  rw [← rv_nn (a := ad k) hr] at e1
  refine kk H' _ ls (Rep_set ax hG hP e2 e3 fv_sR_ne ?_) (hS.put e2 e3 (ax.1 _ _ hG)) hl
  unfold Cel
  rw [hO, hL, e1]
  rw [arrV_store]
  congr 2
  exact (funext (fv_sR hT hC)).symm
theorem q_gets (X : Fx p m c cc nL s args own) {C n d : String} {v : Value} {index : Nat} (hZ : va_Z C n d v A s s.heap) (hlink : Cond.fieldLink own index C n d ∈ TG) (hd : decode cc pc = .ok (.getstatic index, 3)) (k : V p l e R s m args below meth c Q nL A cells slots P (pc + 3) lv (v :: st)) : V p l e R s m args below meth c Q nL A cells slots P pc lv st := fun H locs ls hP hS hl => va_gets X.1 X.2.1 hZ hS X.2.2.2.1 (X.2.2.2.2 _ hlink) (fun _ h => h) hd (k H locs ls hP hS hl)
theorem q_getsN (X : Fx p m c cc nL s args own) (hK : KV D cA s) {C n d : String} {v : Value} {index : Nat} (hZ : va_Z C n d v A s s.heap) (hlink : (own, index, C, n, d) ∈ nestF) (hd : decode cc pc = .ok (.getstatic index, 3)) (k : V p l e R s m args below meth c Q nL A cells slots P (pc + 3) lv (v :: st)) : V p l e R s m args below meth c Q nL A cells slots P pc lv st := fun H locs ls hP hS hl => va_getsN X.1 X.2.1 hZ hS X.2.2.2.1 (va_Nw.use rfl (hK.2.2.1 _ hlink)) (fun _ h => h) hd (k H locs ls hP hS hl)
theorem q_tiald (X : Fx p m c cc nL s args own) {t N : Nat} {f : Nat → Value} (hT : va_T .int t N f A s s.heap) {j : Int32} (hx : vp_in j N) {jn : Nat} (hj : j.toNatClampNeg = jn) {v : Value} (hv : f jn = v) (hd : decode cc pc = .ok (.iaload, 1)) (k : V p l e R s m args below meth c Q nL A cells slots P (pc + 1) lv (v :: st)) : V p l e R s m args below meth c Q nL A cells slots P pc lv (.int j :: .ref t :: st) := fun H locs ls hP hS hl => va_ti X.1 X.2.1 hT hS hx (by rw [hj]; exact hv) hd (k H locs ls hP hS hl)
theorem q_tlen (X : Fx p m c cc nL s args own) {t N : Nat} {f : Nat → Value} (hT : va_T .int t N f A s s.heap) {v : Int32} (hv : Int32.ofNat N = v) (hd : decode cc pc = .ok (.arraylength, 1)) (k : V p l e R s m args below meth c Q nL A cells slots P (pc + 1) lv (.int v :: st)) : V p l e R s m args below meth c Q nL A cells slots P pc lv (.ref t :: st) := fun H locs ls hP hS hl => va_tlen X.1 X.2.1 hT hS hv hd (k H locs ls hP hS hl)
theorem q_max (X : Fx p m c cc nL s args own) {index : Nat} (hlink : Cond.methodLink own index Lib.Math.max.name ∈ TG) (hst : Cond.static Lib.Math.max.name ∈ TG) (hini : Cond.initialized "java/lang/Math" ∈ TG) (hco : Cond.code Lib.Math.max.name Lib.Math.max.code 2 (some .int) ∈ TG) (hf : 1 ≤ R.frames) (hlo : (st.map fun v => v.category).sum + 13 ≤ R.locals) (hcs : cells ≤ R.cells ∧ slots ≤ R.slots) {x y : Int32} (hd : decode cc pc = .ok (.invokestatic index, 3)) (k : V p l e R s m args below meth c Q nL A cells slots P (pc + 3) lv (.int (if x < y then y else x) :: st)) : V p l e R s m args below meth c Q nL A cells slots P pc lv (.int y :: .int x :: st) := fun H locs ls hP hS hl => va_mmax X.1 X.2.1 (by rw [X.2.2.1, hl.1]) X.2.2.2.1 (X.2.2.2.2 _ hlink) (X.2.2.2.2 _ hst) (X.2.2.2.2 _ hini) (X.2.2.2.2 _ hco) hf hlo hcs.1 hcs.2 hd (k H locs ls hP hS hl)
theorem q_min (X : Fx p m c cc nL s args own) {index : Nat} (hlink : Cond.methodLink own index Lib.Math.min.name ∈ TG) (hst : Cond.static Lib.Math.min.name ∈ TG) (hini : Cond.initialized "java/lang/Math" ∈ TG) (hco : Cond.code Lib.Math.min.name Lib.Math.min.code 2 (some .int) ∈ TG) (hf : 1 ≤ R.frames) (hlo : (st.map fun v => v.category).sum + 13 ≤ R.locals) (hcs : cells ≤ R.cells ∧ slots ≤ R.slots) {x y : Int32} (hd : decode cc pc = .ok (.invokestatic index, 3)) (k : V p l e R s m args below meth c Q nL A cells slots P (pc + 3) lv (.int (if y < x then y else x) :: st)) : V p l e R s m args below meth c Q nL A cells slots P pc lv (.int y :: .int x :: st) := fun H locs ls hP hS hl => va_mmin X.1 X.2.1 (by rw [X.2.2.1, hl.1]) X.2.2.2.1 (X.2.2.2.2 _ hlink) (X.2.2.2.2 _ hst) (X.2.2.2.2 _ hini) (X.2.2.2.2 _ hco) hf hlo hcs.1 hcs.2 hd (k H locs ls hP hS hl)
theorem tg_good : ∀ w ∈ TG, (w.onTables && w.keeps) = true ∨ ∃ ty, w = .arrayClass ty := fun _ h => good_of_word (List.mem_filter.mp h).2
theorem tg_self {w0 : Cond} (h0 : w0 ∈ TG) : GoodIn TG (w0 :: TG) := fun w h => by
  rcases List.mem_cons.mp h with rfl | h
  · exact ⟨h0, tg_good _ h0⟩
  · exact ⟨h, tg_good _ h⟩
theorem gV {own C : String} {idx maxL : Nat} {y : MethodName} {bytes : ByteArray} {ret : Option FieldType} (h1 : Cond.methodLink own idx y ∈ TG) (h2 : Cond.instanceMethod y ∈ TG) (h3 : Cond.selects C y y ∈ TG) (h4 : Cond.initialized C ∈ TG) (h5 : Cond.code y bytes maxL ret ∈ TG) : GoodIn TG (wsV own idx C y (.code y bytes maxL ret :: TG)) := by
  intro w h
  unfold wsV at h
  rcases List.mem_append.mp h with h | h
  · simp only [List.mem_cons, List.not_mem_nil, or_false] at h
    rcases h with rfl | rfl | rfl | rfl
    · exact ⟨h1, tg_good _ h1⟩
    · exact ⟨h2, tg_good _ h2⟩
    · exact ⟨h3, tg_good _ h3⟩
    · exact ⟨h4, tg_good _ h4⟩
  · exact tg_self h5 w h
theorem gS {own : String} {idx maxL : Nat} {y : MethodName} {bytes : ByteArray} {ret : Option FieldType} (h1 : Cond.methodLink own idx y ∈ TG) (h2 : Cond.static y ∈ TG) (h4 : Cond.initialized y.cls ∈ TG) (h5 : Cond.code y bytes maxL ret ∈ TG) : GoodIn TG (va_wsS own idx y (.code y bytes maxL ret :: TG)) := by
  intro w h
  unfold va_wsS at h
  rcases List.mem_append.mp h with h | h
  · simp only [List.mem_cons, List.not_mem_nil, or_false] at h
    rcases h with rfl | rfl | rfl
    · exact ⟨h1, tg_good _ h1⟩
    · exact ⟨h2, tg_good _ h2⟩
    · exact ⟨h4, tg_good _ h4⟩
  · exact tg_self h5 w h
def Rn (p : Program) (l : Launch) (e : Env) (R : Room) (s : State) (m : MethodId) (args : Array Value) (below : List Frame) (meth : Method) (c : Code) (nL : Nat) (A : Nat → Prop) (cells slots : Nat) (P : Heap → Prop) (pc : Nat) (lv : List (Nat × Value)) (stk rest : List Value) (mc ms : Nat) (Qa : State → Outcome → State → Prop) (free : Addr → Prop) : Prop :=
  ∀ (H : Heap) (locs : List Loc) (ls : Array Slot), P H → va_S A s.heap H locs → lv_has ls nL lv → va_Run p l e R s m args below meth c H locs cells slots mc ms (F0 m pc ls stk) rest Qa free
def RnX (p : Program) (l : Launch) (e : Env) (R : Room) (s : State) (m : MethodId) (args : Array Value) (below : List Frame) (meth : Method) (c : Code) (nL : Nat) (A : Nat → Prop) (cells slots : Nat) (P : Heap → Prop) (pc : Nat) (lv : List (Nat × Value)) (stk rest : List Value) (mc ms : Nat) (Qa : State → Outcome → State → Prop) (XC : String → State → State → Prop) (free : Addr → Prop) : Prop :=
  ∀ (H : Heap) (locs : List Loc) (ls : Array Slot), P H → va_S A s.heap H locs → lv_has ls nL lv → vx_Run p l e R s m args below meth c H locs cells slots mc ms (F0 m pc ls stk) rest Qa XC free
theorem Rep_recv {H : Heap} {mm : Mm} {t i ci N : Nat} {C : String} {T : u_T} (hK : KV D cA s) (hP : Rep F D cA ad dy G mm H) (hG : G t i) (hO : kO t = some (ci, N)) (hc : vwCl[ci]? = some (C, T, N)) : ∃ cellB : Cell, H[ad t i]? = some cellB ∧ cellB.vm.isStatics = false ∧ s.vm.findClass C = some cellB.cls := by
  have h0 := hP.2 t i hG
  unfold Cel at h0
  rw [hO] at h0
  obtain ⟨cell, q1, q2, q3, -⟩ := h0
  exact ⟨cell, q1, by rw [q3]; rfl, by rw [q2]; exact (hK.1.1 ci _ hc).2.1⟩
theorem q_runV (X : Fx p m c cc nL s args own) (hK : KV D cA s) (hZ : Z s s.heap) (zo : Zok A Z) {y : MethodName} {bytes : ByteArray} {maxL : Nat} {ret : Option FieldType} {rm : Room} {mc ms n index : Nat} {free : Addr → Prop} {Qc : Array Value → State → Outcome → State → Prop}  {t i ci N : Nat} {C : String} {T : u_T} (hG : G t i) (hO : kO t = some (ci, N)) (hc : vwCl[ci]? = some (C, T, N)) (As rest : List Value) {stk : List Value} (hn : As.length = n) (hstk : stk = As.reverse ++ .ref (ad t i) :: rest) (hw : (rest.map fun v => v.category).sum ≤ 8) (hd : decode cc pc = .ok (.invokevirtual index, 3)) (hf : cells + mc ≤ R.cells ∧ slots + ms ≤ R.slots) (hM : Met l y (.code y bytes maxL ret :: TG) rm (PcM F D cA ad dy G Z (.ref (ad t i) :: As) mm) Qc mc ms free) (hrc : rm.cells = mc) (hrs : rm.slots = ms) (hG5 : GoodIn TG (wsV own index C y (.code y bytes maxL ret :: TG))) (hy : y.cls = C ∧ y.cls ≠ "java/lang/invoke/MethodHandle" ∧ y.cls ≠ "java/lang/invoke/VarHandle" ∧ (parseMethodDescriptor y.desc).map (fun d => d.parameters.length) = some n) (hR : rm.frames + 1 ≤ R.frames ∧ 8 + (maxL + 11) + rm.locals ≤ R.locals) : Rn p l e R s m args below meth c nL A cells slots (Rep F D cA ad dy G mm) pc lv stk rest mc ms (Qc (Value.ref (ad t i) :: As).toArray) free :=
  fun H locs ls hP hS hl => va_runV (As := As) (rest := rest) X hM (cwV n X.2.2.2.2 hG5 rfl hrc hrs hy hR) ⟨PcM.blind zo, Rep_recv hK hP hG hO hc, fun U hU hW => ⟨rfl, hK.moved hW, by rw [hU]; exact zo s U s.heap H hW hS.2.1 hZ, by rw [hU]; exact hP⟩⟩ rfl hn hl.1 hstk (lv_room hw) hd hf
theorem q_runS (X : Fx p m c cc nL s args own) (hK : KV D cA s) (hZ : Z s s.heap) (zo : Zok A Z) {y : MethodName} {bytes : ByteArray} {maxL : Nat} {ret : Option FieldType} {rm : Room} {mc ms n index : Nat} {free : Addr → Prop} {Qc : Array Value → State → Outcome → State → Prop}  (As rest : List Value) {stk : List Value} (hn : As.length = n) (hstk : stk = As.reverse ++ rest) (hw : (rest.map fun v => v.category).sum ≤ 8) (hd : decode cc pc = .ok (.invokestatic index, 3)) (hf : cells + mc ≤ R.cells ∧ slots + ms ≤ R.slots) (hM : Met l y (.code y bytes maxL ret :: TG) rm (PcM F D cA ad dy G Z (As) mm) Qc mc ms free) (hrc : rm.cells = mc) (hrs : rm.slots = ms) (hG5 : GoodIn TG (va_wsS own index y (.code y bytes maxL ret :: TG))) (hy : y.cls ≠ "java/lang/invoke/MethodHandle" ∧ y.cls ≠ "java/lang/invoke/VarHandle" ∧ (parseMethodDescriptor y.desc).map (fun d => d.parameters.length) = some n) (hR : rm.frames + 1 ≤ R.frames ∧ 8 + (maxL + 11) + rm.locals ≤ R.locals) : Rn p l e R s m args below meth c nL A cells slots (Rep F D cA ad dy G mm) pc lv stk rest mc ms (Qc As.toArray) free :=
  fun H locs ls hP hS hl => va_runS (As := As) (rest := rest) X hM (va_cwS n X.2.2.2.2 hG5 rfl hrc hrs hy hR) ⟨PcM.blind zo, fun U hU hW => ⟨rfl, hK.moved hW, by rw [hU]; exact zo s U s.heap H hW hS.2.1 hZ, by rw [hU]; exact hP⟩⟩ rfl hn hl.1 hstk (lv_room hw) hd hf
theorem q_runxV (X : Fx p m c cc nL s args own) (hK : KV D cA s) (hZ : Z s s.heap) (zo : Zok A Z) {y : MethodName} {bytes : ByteArray} {maxL : Nat} {ret : Option FieldType} {rm : Room} {mc ms n index : Nat} {free : Addr → Prop} {Qc : Array Value → State → Outcome → State → Prop} {XC : String → State → State → Prop} {t i ci N : Nat} {C : String} {T : u_T} (hG : G t i) (hO : kO t = some (ci, N)) (hc : vwCl[ci]? = some (C, T, N)) (As rest : List Value) {stk : List Value} (hn : As.length = n) (hstk : stk = As.reverse ++ .ref (ad t i) :: rest) (hw : (rest.map fun v => v.category).sum ≤ 8) (hd : decode cc pc = .ok (.invokevirtual index, 3)) (hf : cells + mc ≤ R.cells ∧ slots + ms ≤ R.slots) (hM : vx_Met l y (.code y bytes maxL ret :: TG) rm (PcM F D cA ad dy G Z (.ref (ad t i) :: As) mm) Qc XC mc ms free) (hrc : rm.cells = mc) (hrs : rm.slots = ms) (hG5 : GoodIn TG (wsV own index C y (.code y bytes maxL ret :: TG))) (hy : y.cls = C ∧ y.cls ≠ "java/lang/invoke/MethodHandle" ∧ y.cls ≠ "java/lang/invoke/VarHandle" ∧ (parseMethodDescriptor y.desc).map (fun d => d.parameters.length) = some n) (hR : rm.frames + 1 ≤ R.frames ∧ 8 + (maxL + 11) + rm.locals ≤ R.locals) : RnX p l e R s m args below meth c nL A cells slots (Rep F D cA ad dy G mm) pc lv stk rest mc ms (Qc (Value.ref (ad t i) :: As).toArray) XC free :=
  fun H locs ls hP hS hl => vx_runV (As := As) (rest := rest) X hM (cwV n X.2.2.2.2 hG5 rfl hrc hrs hy hR) ⟨PcM.blind zo, Rep_recv hK hP hG hO hc, fun U hU hW => ⟨rfl, hK.moved hW, by rw [hU]; exact zo s U s.heap H hW hS.2.1 hZ, by rw [hU]; exact hP⟩⟩ rfl hn hl.1 hstk (lv_room hw) hd hf
theorem q_runxS (X : Fx p m c cc nL s args own) (hK : KV D cA s) (hZ : Z s s.heap) (zo : Zok A Z) {y : MethodName} {bytes : ByteArray} {maxL : Nat} {ret : Option FieldType} {rm : Room} {mc ms n index : Nat} {free : Addr → Prop} {Qc : Array Value → State → Outcome → State → Prop} {XC : String → State → State → Prop} (As rest : List Value) {stk : List Value} (hn : As.length = n) (hstk : stk = As.reverse ++ rest) (hw : (rest.map fun v => v.category).sum ≤ 8) (hd : decode cc pc = .ok (.invokestatic index, 3)) (hf : cells + mc ≤ R.cells ∧ slots + ms ≤ R.slots) (hM : vx_Met l y (.code y bytes maxL ret :: TG) rm (PcM F D cA ad dy G Z (As) mm) Qc XC mc ms free) (hrc : rm.cells = mc) (hrs : rm.slots = ms) (hG5 : GoodIn TG (va_wsS own index y (.code y bytes maxL ret :: TG))) (hy : y.cls ≠ "java/lang/invoke/MethodHandle" ∧ y.cls ≠ "java/lang/invoke/VarHandle" ∧ (parseMethodDescriptor y.desc).map (fun d => d.parameters.length) = some n) (hR : rm.frames + 1 ≤ R.frames ∧ 8 + (maxL + 11) + rm.locals ≤ R.locals) : RnX p l e R s m args below meth c nL A cells slots (Rep F D cA ad dy G mm) pc lv stk rest mc ms (Qc As.toArray) XC free :=
  fun H locs ls hP hS hl => vx_runS (As := As) (rest := rest) X hM (va_cwS n X.2.2.2.2 hG5 rfl hrc hrs hy hR) ⟨PcM.blind zo, fun U hU hW => ⟨rfl, hK.moved hW, by rw [hU]; exact zo s U s.heap H hW hS.2.1 hZ, by rw [hU]; exact hP⟩⟩ rfl hn hl.1 hstk (lv_room hw) hd hf
theorem q_runVN (X : Fx p m c cc nL s args own) (hK : KV D cA s) (hZ : Z s s.heap) (zo : Zok A Z) {y : MethodName} {bytes : ByteArray} {maxL : Nat} {ret : Option FieldType} {rm : Room} {mc ms n index : Nat} {free : Addr → Prop} {Qc : Array Value → State → Outcome → State → Prop} {t i ci N : Nat} {C : String} {T : u_T} (hG : G t i) (hO : kO t = some (ci, N)) (hc : vwCl[ci]? = some (C, T, N)) (As rest : List Value) {stk : List Value} (hn : As.length = n) (hstk : stk = As.reverse ++ .ref (ad t i) :: rest) (hw : (rest.map fun v => v.category).sum ≤ 8) (hd : decode cc pc = .ok (.invokevirtual index, 3)) (hf : cells + mc ≤ R.cells ∧ slots + ms ≤ R.slots) (hM : Met l y (.code y bytes maxL ret :: TG) rm (PcM F D cA ad dy G Z (.ref (ad t i) :: As) mm) Qc mc ms free) (hrc : rm.cells = mc) (hrs : rm.slots = ms) (hlink : (own, index, y) ∈ nestM) (hini : Cond.initialized y.cls ∈ TG) (hcode : Cond.code y bytes maxL ret ∈ TG) (hinst : Cond.instanceMethod y ∈ TG) (hsel : Cond.selects C y y ∈ TG) (hy : y.cls ≠ "java/lang/invoke/MethodHandle" ∧ y.cls ≠ "java/lang/invoke/VarHandle" ∧ (parseMethodDescriptor y.desc).map (fun d => d.parameters.length) = some n) (hR : rm.frames + 1 ≤ R.frames ∧ 8 + (maxL + 11) + rm.locals ≤ R.locals) : Rn p l e R s m args below meth c nL A cells slots (Rep F D cA ad dy G mm) pc lv stk rest mc ms (Qc (Value.ref (ad t i) :: As).toArray) free :=
  fun H locs ls hP hS hl => va_runVN (As := As) (rest := rest) X hM ⟨va_cnB n X.2.2.2.2 (tg_self hcode) rfl hrc hrs (hK.2.2.2 _ hlink) (X.2.2.2.2 _ hini) hy hR, X.2.2.2.2 _ hinst, X.2.2.2.2 _ hsel⟩ ⟨PcM.blind zo, Rep_recv hK hP hG hO hc, fun U hU hW => ⟨rfl, hK.moved hW, by rw [hU]; exact zo s U s.heap H hW hS.2.1 hZ, by rw [hU]; exact hP⟩⟩ rfl hn hl.1 hstk (lv_room hw) hd hf
theorem q_runSN (X : Fx p m c cc nL s args own) (hK : KV D cA s) (hZ : Z s s.heap) (zo : Zok A Z) {y : MethodName} {bytes : ByteArray} {maxL : Nat} {ret : Option FieldType} {rm : Room} {mc ms n index : Nat} {free : Addr → Prop} {Qc : Array Value → State → Outcome → State → Prop} (As rest : List Value) {stk : List Value} (hn : As.length = n) (hstk : stk = As.reverse ++ rest) (hw : (rest.map fun v => v.category).sum ≤ 8) (hd : decode cc pc = .ok (.invokestatic index, 3)) (hf : cells + mc ≤ R.cells ∧ slots + ms ≤ R.slots) (hM : Met l y (.code y bytes maxL ret :: TG) rm (PcM F D cA ad dy G Z (As) mm) Qc mc ms free) (hrc : rm.cells = mc) (hrs : rm.slots = ms) (hlink : (own, index, y) ∈ nestM) (hini : Cond.initialized y.cls ∈ TG) (hcode : Cond.code y bytes maxL ret ∈ TG) (hst : Cond.static y ∈ TG) (hy : y.cls ≠ "java/lang/invoke/MethodHandle" ∧ y.cls ≠ "java/lang/invoke/VarHandle" ∧ (parseMethodDescriptor y.desc).map (fun d => d.parameters.length) = some n) (hR : rm.frames + 1 ≤ R.frames ∧ 8 + (maxL + 11) + rm.locals ≤ R.locals) : Rn p l e R s m args below meth c nL A cells slots (Rep F D cA ad dy G mm) pc lv stk rest mc ms (Qc As.toArray) free :=
  fun H locs ls hP hS hl => va_runSN (As := As) (rest := rest) X hM ⟨va_cnB n X.2.2.2.2 (tg_self hcode) rfl hrc hrs (hK.2.2.2 _ hlink) (X.2.2.2.2 _ hini) hy hR, X.2.2.2.2 _ hst, trivial⟩ ⟨PcM.blind zo, fun U hU hW => ⟨rfl, hK.moved hW, by rw [hU]; exact zo s U s.heap H hW hS.2.1 hZ, by rw [hU]; exact hP⟩⟩ rfl hn hl.1 hstk (lv_room hw) hd hf
theorem q_runIN (X : Fx p m c cc nL s args own) (hK : KV D cA s) (hZ : Z s s.heap) (zo : Zok A Z) {y : MethodName} {bytes : ByteArray} {maxL : Nat} {rm : Room} {mc ms n index : Nat} {free : Addr → Prop} {Qc : Array Value → State → Outcome → State → Prop} {b : Nat} (As rest : List Value) {stk : List Value} (hn : As.length = n) (hstk : stk = As.reverse ++ .ref b :: rest) (hw : (rest.map fun v => v.category).sum ≤ 8) (hd : decode cc pc = .ok (.invokespecial index, 3)) (hf : cells + mc ≤ R.cells ∧ slots + ms ≤ R.slots) (hM : Met l y (.code y bytes maxL none :: TG) rm (PcM F D cA ad dy G Z (.ref b :: As) mm) Qc mc ms free) (hrc : rm.cells = mc) (hrs : rm.slots = ms) (hlink : (own, index, y) ∈ nestM) (hini : Cond.initialized y.cls ∈ TG) (hcode : Cond.code y bytes maxL none ∈ TG) (hinst : Cond.instanceMethod y ∈ TG) (hy1 : y.name = "<init>") (hy : y.cls ≠ "java/lang/invoke/MethodHandle" ∧ y.cls ≠ "java/lang/invoke/VarHandle" ∧ (parseMethodDescriptor y.desc).map (fun d => d.parameters.length) = some n) (hR : rm.frames + 1 ≤ R.frames ∧ 8 + (maxL + 11) + rm.locals ≤ R.locals) : Rn p l e R s m args below meth c nL A cells slots (Rep F D cA ad dy G mm) pc lv stk rest mc ms (Qc (Value.ref b :: As).toArray) free :=
  fun H locs ls hP hS hl => va_runIN (As := As) (rest := rest) X hM ⟨va_cnB n X.2.2.2.2 (tg_self hcode) rfl hrc hrs (hK.2.2.2 _ hlink) (X.2.2.2.2 _ hini) hy hR, hy1, X.2.2.2.2 _ hinst⟩ ⟨PcM.blind zo, fun U hU hW => ⟨rfl, hK.moved hW, by rw [hU]; exact zo s U s.heap H hW hS.2.1 hZ, by rw [hU]; exact hP⟩⟩ rfl hn hl.1 hstk (lv_room hw) hd hf
theorem q_runI (X : Fx p m c cc nL s args own) (hK : KV D cA s) (hZ : Z s s.heap) (zo : Zok A Z) {y : MethodName} {bytes : ByteArray} {maxL : Nat} {rm : Room} {mc ms n index : Nat} {free : Addr → Prop} {Qc : Array Value → State → Outcome → State → Prop} {b : Nat} (As rest : List Value) {stk : List Value} (hn : As.length = n) (hstk : stk = As.reverse ++ .ref b :: rest) (hw : (rest.map fun v => v.category).sum ≤ 8) (hd : decode cc pc = .ok (.invokespecial index, 3)) (hf : cells + mc ≤ R.cells ∧ slots + ms ≤ R.slots) (hM : Met l y (.code y bytes maxL none :: TG) rm (PcM F D cA ad dy G Z (.ref b :: As) mm) Qc mc ms free) (hrc : rm.cells = mc) (hrs : rm.slots = ms) (hlink : Cond.methodLink own index y ∈ TG) (hini : Cond.initialized y.cls ∈ TG) (hcode : Cond.code y bytes maxL none ∈ TG) (hinst : Cond.instanceMethod y ∈ TG) (hy1 : y.name = "<init>") (hy : y.cls ≠ "java/lang/invoke/MethodHandle" ∧ y.cls ≠ "java/lang/invoke/VarHandle" ∧ (parseMethodDescriptor y.desc).map (fun d => d.parameters.length) = some n) (hR : rm.frames + 1 ≤ R.frames ∧ 8 + (maxL + 11) + rm.locals ≤ R.locals) : Rn p l e R s m args below meth c nL A cells slots (Rep F D cA ad dy G mm) pc lv stk rest mc ms (Qc (Value.ref b :: As).toArray) free :=
  fun H locs ls hP hS hl => va_runI (As := As) (rest := rest) X hM (cwI n X.2.2.2.2 (tg_self hcode) rfl hrc hrs (X.2.2.2.2 _ hini) (X.2.2.2.2 _ hlink) (X.2.2.2.2 _ hinst) hy1 hy hR) ⟨PcM.blind zo, fun U hU hW => ⟨rfl, hK.moved hW, by rw [hU]; exact zo s U s.heap H hW hS.2.1 hZ, by rw [hU]; exact hP⟩⟩ rfl hn hl.1 hstk (lv_room hw) hd hf
def AnsQ (F : Nat → Prop) (D : va_G) (cA : Nat → ClassId) (ad : Nat → Nat → Nat) (dy : Bool) (G : Nat → Nat → Prop) (k : Nat) (A : Nat → Prop) (Qp : Nat → Mm → Prop) : Array Value → State → Outcome → State → Prop := fun _ st oc t => (∃ (r : Nat) (u : Mm), oc = .returned (some (rv (ad k) r)) ∧ Qp r u ∧ Rep F D cA ad dy G u t.heap) ∧ va_F A st t
abbrev AnsI (F : Nat → Prop) (D : va_G) (cA : Nat → ClassId) (ad : Nat → Nat → Nat) (dy : Bool) (G : Nat → Nat → Prop) (A : Nat → Prop) (Qp : Int32 → Mm → Prop) : Array Value → State → Outcome → State → Prop := va_Qi (S := Mm) Qp (fun u t => Rep F D cA ad dy G u t.heap) A
abbrev AnsV (F : Nat → Prop) (D : va_G) (cA : Nat → ClassId) (ad : Nat → Nat → Nat) (dy : Bool) (G : Nat → Nat → Prop) (A : Nat → Prop) (Qp : Mm → Prop) : Array Value → State → Outcome → State → Prop := va_Qv (S := Mm) Qp (fun u t => Rep F D cA ad dy G u t.heap) A
abbrev AnsD (F : Nat → Prop) (D : va_G) (cA : Nat → ClassId) (ad : Nat → Nat → Nat) (dy : Bool) (G : Nat → Nat → Prop) (A : Nat → Prop) (Qp : UInt64 → Mm → Prop) : Array Value → State → Outcome → State → Prop := va_Qd (S := Mm) Qp (fun u t => Rep F D cA ad dy G u t.heap) A
/-- the exceptions by number -/
def exN (k : Nat) : String := match k with
  | 1 => "java/lang/IndexOutOfBoundsException"
  | 2 => "java/lang/IllegalArgumentException"
  | _ => "java/lang/IllegalStateException"
abbrev AnsX (F : Nat → Prop) (D : va_G) (cA : Nat → ClassId) (ad : Nat → Nat → Nat) (dy : Bool) (G : Nat → Nat → Prop) (A : Nat → Prop) (Xp : Nat → Mm → Prop) : String → State → State → Prop := vx_X (S := Nat × Mm) (fun u => Xp u.1 u.2) (fun E u t => E = exN u.1 ∧ Rep F D cA ad dy G u.2 t.heap) A
theorem q_calli {stk rest : List Value} {mc ms : Nat} {a : Array Value} {Qp : Int32 → Mm → Prop} (hr : Rn p l e R s m args below meth c nL A cells slots (Rep F D cA ad dy G mm) pc lv stk rest mc ms (AnsI F D cA ad dy G A Qp a) A) (k : ∀ (r : Int32) (mm' : Mm), Qp r mm' → V p l e R s m args below meth c Q nL A (cells + mc) (slots + ms) (Rep F D cA ad dy G mm') (pc + 3) lv (.int r :: rest)) : V p l e R s m args below meth c Q nL A cells slots (Rep F D cA ad dy G mm) pc lv stk := by
  intro H locs ls hP hS hl
  refine va_calli (hr H locs ls hP hS hl) hS (fun q _ h => h) (fun q h => h) (fun r u t H1 locs1 ht hal hp hb hz hk hS1 => ?_)
  rw [ht] at hb
  exact k r u hp H1 locs1 ls hb hS1 hl
theorem q_callv {stk rest : List Value} {mc ms : Nat} {a : Array Value} {Qp : Mm → Prop} (hr : Rn p l e R s m args below meth c nL A cells slots (Rep F D cA ad dy G mm) pc lv stk rest mc ms (AnsV F D cA ad dy G A Qp a) A) (k : ∀ (mm' : Mm), Qp mm' → V p l e R s m args below meth c Q nL A (cells + mc) (slots + ms) (Rep F D cA ad dy G mm') (pc + 3) lv rest) : V p l e R s m args below meth c Q nL A cells slots (Rep F D cA ad dy G mm) pc lv stk := by
  intro H locs ls hP hS hl
  refine va_callv (hr H locs ls hP hS hl) hS (fun q _ h => h) (fun q h => h) (fun u t H1 locs1 ht hal hp hb hz hk hS1 => ?_)
  rw [ht] at hb
  exact k u hp H1 locs1 ls hb hS1 hl
theorem q_calld {stk rest : List Value} {mc ms : Nat} {a : Array Value} {Qp : UInt64 → Mm → Prop} (hr : Rn p l e R s m args below meth c nL A cells slots (Rep F D cA ad dy G mm) pc lv stk rest mc ms (AnsD F D cA ad dy G A Qp a) A) (k : ∀ (r : UInt64) (mm' : Mm), Qp r mm' → V p l e R s m args below meth c Q nL A (cells + mc) (slots + ms) (Rep F D cA ad dy G mm') (pc + 3) lv (.double r :: rest)) : V p l e R s m args below meth c Q nL A cells slots (Rep F D cA ad dy G mm) pc lv stk := by
  intro H locs ls hP hS hl
  refine va_calld (hr H locs ls hP hS hl) hS (fun q _ h => h) (fun q h => h) (fun r u t H1 locs1 ht hal hp hb hz hk hS1 => ?_)
  rw [ht] at hb
  exact k r u hp H1 locs1 ls hb hS1 hl
theorem q_callr {stk rest : List Value} {mc ms kt : Nat} {a : Array Value} {Qp : Nat → Mm → Prop} (hr : Rn p l e R s m args below meth c nL A cells slots (Rep F D cA ad dy G mm) pc lv stk rest mc ms (AnsQ F D cA ad dy G kt A Qp a) A) (k : ∀ (r : Nat) (mm' : Mm), Qp r mm' → V p l e R s m args below meth c Q nL A (cells + mc) (slots + ms) (Rep F D cA ad dy G mm') (pc + 3) lv (rv (ad kt) r :: rest)) : V p l e R s m args below meth c Q nL A cells slots (Rep F D cA ad dy G mm) pc lv stk := by
  intro H locs ls hP hS hl T hT X
  obtain ⟨v, st₀, t, T', L, h0, X', hL, e1, e2, ⟨⟨r, u, hv, hp, hb⟩, hz, hk⟩, st⟩ := hr H locs ls hP hS hl T hT X
  cases hv
  rw [h0] at hz hk
  rw [← e1] at hb
  obtain ⟨t2, a1, b1⟩ := k r u hp T'.heap (locs ++ L) ls hb ⟨Nat.le_trans hS.1 (by rw [e1]; exact hz), fun q h1 h2 => by rw [e1, hk q (Nat.lt_of_lt_of_le h1 hS.1) h2]; exact hS.2.1 q h1 h2, fun q hq => by
      rcases List.mem_append.mp hq with h | h
      · exact hS.2.2 q h
      · exact hL q h⟩ hl T' rfl X'
  exact ⟨t2, st t2 a1, b1⟩
theorem enterI {y : MethodName} {bytes : ByteArray} {maxL : Nat} {rm : Room} {av : List Value} {lv0 : List (Nat × Value)} {Qp : Int32 → Mm → Prop} (hy : plainName y.cls = true) (hr0 : rm.cells = 0 ∧ rm.slots = 0) (hlv : lv_args 0 av = lv0) (hlen : (lg_sl av).length ≤ maxL)
    (body : ∀ (p : Program) (e : Env) (s : State) (m : MethodId) (args : Array Value) (below : List Frame) (meth : Method) (c : Code) (Q : State → Prop), Fx p m c bytes maxL s args y.cls → KV D cA s → Z s s.heap → meth.name = y.name →
      (∀ (pc : Nat) (lv : List (Nat × Value)) (r : Int32) (mm' : Mm), decode bytes pc = .ok (.ireturn, 1) → Qp r mm' → V p l e rm s m args below meth c Q maxL A 0 0 (Rep F D cA ad dy G mm') pc lv [.int r]) →
      V p l e rm s m args below meth c Q maxL A 0 0 (Rep F D cA ad dy G mm) 0 lv0 []) :
    Met l y (.code y bytes maxL (some .int) :: TG) rm (PcM F D cA ad dy G Z av mm) (AnsI F D cA ad dy G A Qp) 0 0 A := by
  refine Met.ofW (cc := bytes) (maxL := maxL) (ret := (some .int)) hy rfl ?_
  intro p e s m args below meth c s₁ B hml hv
  obtain ⟨rfl, hK, hZ, hP0⟩ := hv
  have hts := atoms_spec (ws := .code y bytes maxL (some .int) :: TG) B.pre
  have hl := lv_entry av (n := maxL) hlen
  rw [lg_entry_eq]
  rw [hlv] at hl
  refine body p e s m _ below meth c _ ⟨B.exec, B.bytes, hml, findClass_of_methodNamed B.named, fun w hw => hts w (List.mem_cons_of_mem _ hw)⟩ hK hZ (name_of_methodNamed B.named B.method).1 ?_ s.heap [] _ hP0 va_S.rf hl
  intro pc lv r mm' hd hq H locs ls hP hS hl
  exact W.iret B.exec B.bytes B.returns (fun t ht hW => ⟨⟨r, mm', rfl, hq, by show Rep _ _ _ _ _ _ _ t.heap; rw [ht]; exact hP⟩, hS.F ht⟩) hS.2.2 hd B.notSynchronized
theorem enterZ {y : MethodName} {bytes : ByteArray} {maxL : Nat} {rm : Room} {av : List Value} {lv0 : List (Nat × Value)} {Qp : Int32 → Mm → Prop} (hy : plainName y.cls = true) (hr0 : rm.cells = 0 ∧ rm.slots = 0) (hlv : lv_args 0 av = lv0) (hlen : (lg_sl av).length ≤ maxL)
    (body : ∀ (p : Program) (e : Env) (s : State) (m : MethodId) (args : Array Value) (below : List Frame) (meth : Method) (c : Code) (Q : State → Prop), Fx p m c bytes maxL s args y.cls → KV D cA s → Z s s.heap → meth.name = y.name →
      (∀ (pc : Nat) (lv : List (Nat × Value)) (r : Int32) (mm' : Mm), decode bytes pc = .ok (.ireturn, 1) → isB r → Qp r mm' → V p l e rm s m args below meth c Q maxL A 0 0 (Rep F D cA ad dy G mm') pc lv [.int r]) →
      V p l e rm s m args below meth c Q maxL A 0 0 (Rep F D cA ad dy G mm) 0 lv0 []) :
    Met l y (.code y bytes maxL (some .boolean) :: TG) rm (PcM F D cA ad dy G Z av mm) (AnsI F D cA ad dy G A Qp) 0 0 A := by
  refine Met.ofW (cc := bytes) (maxL := maxL) (ret := (some .boolean)) hy rfl ?_
  intro p e s m args below meth c s₁ B hml hv
  obtain ⟨rfl, hK, hZ, hP0⟩ := hv
  have hts := atoms_spec (ws := .code y bytes maxL (some .boolean) :: TG) B.pre
  have hl := lv_entry av (n := maxL) hlen
  rw [lg_entry_eq]
  rw [hlv] at hl
  refine body p e s m _ below meth c _ ⟨B.exec, B.bytes, hml, findClass_of_methodNamed B.named, fun w hw => hts w (List.mem_cons_of_mem _ hw)⟩ hK hZ (name_of_methodNamed B.named B.method).1 ?_ s.heap [] _ hP0 va_S.rf hl
  intro pc lv r mm' hd hb hq H locs ls hP hS hl
  exact W.zret B.exec B.bytes B.returns (narrow_B hb).1 (fun t ht hW => ⟨⟨r, mm', rfl, hq, by show Rep _ _ _ _ _ _ _ t.heap; rw [ht]; exact hP⟩, hS.F ht⟩) hS.2.2 hd B.notSynchronized
theorem enterV {y : MethodName} {bytes : ByteArray} {maxL : Nat} {rm : Room} {av : List Value} {lv0 : List (Nat × Value)} {Qp : Mm → Prop} (hy : plainName y.cls = true) (hr0 : rm.cells = 0 ∧ rm.slots = 0) (hlv : lv_args 0 av = lv0) (hlen : (lg_sl av).length ≤ maxL)
    (body : ∀ (p : Program) (e : Env) (s : State) (m : MethodId) (args : Array Value) (below : List Frame) (meth : Method) (c : Code) (Q : State → Prop), Fx p m c bytes maxL s args y.cls → KV D cA s → Z s s.heap → meth.name = y.name →
      (∀ (pc : Nat) (lv : List (Nat × Value)) (mm' : Mm), decode bytes pc = .ok (.return_, 1) → Qp mm' → V p l e rm s m args below meth c Q maxL A 0 0 (Rep F D cA ad dy G mm') pc lv []) →
      V p l e rm s m args below meth c Q maxL A 0 0 (Rep F D cA ad dy G mm) 0 lv0 []) :
    Met l y (.code y bytes maxL none :: TG) rm (PcM F D cA ad dy G Z av mm) (AnsV F D cA ad dy G A Qp) 0 0 A := by
  refine Met.ofW (cc := bytes) (maxL := maxL) (ret := none) hy rfl ?_
  intro p e s m args below meth c s₁ B hml hv
  obtain ⟨rfl, hK, hZ, hP0⟩ := hv
  have hts := atoms_spec (ws := .code y bytes maxL none :: TG) B.pre
  have hl := lv_entry av (n := maxL) hlen
  rw [lg_entry_eq]
  rw [hlv] at hl
  refine body p e s m _ below meth c _ ⟨B.exec, B.bytes, hml, findClass_of_methodNamed B.named, fun w hw => hts w (List.mem_cons_of_mem _ hw)⟩ hK hZ (name_of_methodNamed B.named B.method).1 ?_ s.heap [] _ hP0 va_S.rf hl
  intro pc lv mm' hd hq H locs ls hP hS hl
  exact W.vret B.exec B.bytes B.returns (fun t ht hW => ⟨⟨mm', rfl, hq, by show Rep _ _ _ _ _ _ _ t.heap; rw [ht]; exact hP⟩, hS.F ht⟩) hS.2.2 hd B.notSynchronized
theorem enterD {y : MethodName} {bytes : ByteArray} {maxL : Nat} {rm : Room} {av : List Value} {lv0 : List (Nat × Value)} {Qp : UInt64 → Mm → Prop} (hy : plainName y.cls = true) (hr0 : rm.cells = 0 ∧ rm.slots = 0) (hlv : lv_args 0 av = lv0) (hlen : (lg_sl av).length ≤ maxL)
    (body : ∀ (p : Program) (e : Env) (s : State) (m : MethodId) (args : Array Value) (below : List Frame) (meth : Method) (c : Code) (Q : State → Prop), Fx p m c bytes maxL s args y.cls → KV D cA s → Z s s.heap → meth.name = y.name →
      (∀ (pc : Nat) (lv : List (Nat × Value)) (r : UInt64) (mm' : Mm), decode bytes pc = .ok (.dreturn, 1) → Qp r mm' → V p l e rm s m args below meth c Q maxL A 0 0 (Rep F D cA ad dy G mm') pc lv [.double r]) →
      V p l e rm s m args below meth c Q maxL A 0 0 (Rep F D cA ad dy G mm) 0 lv0 []) :
    Met l y (.code y bytes maxL (some .double) :: TG) rm (PcM F D cA ad dy G Z av mm) (AnsD F D cA ad dy G A Qp) 0 0 A := by
  refine Met.ofW (cc := bytes) (maxL := maxL) (ret := (some .double)) hy rfl ?_
  intro p e s m args below meth c s₁ B hml hv
  obtain ⟨rfl, hK, hZ, hP0⟩ := hv
  have hts := atoms_spec (ws := .code y bytes maxL (some .double) :: TG) B.pre
  have hl := lv_entry av (n := maxL) hlen
  rw [lg_entry_eq]
  rw [hlv] at hl
  refine body p e s m _ below meth c _ ⟨B.exec, B.bytes, hml, findClass_of_methodNamed B.named, fun w hw => hts w (List.mem_cons_of_mem _ hw)⟩ hK hZ (name_of_methodNamed B.named B.method).1 ?_ s.heap [] _ hP0 va_S.rf hl
  intro pc lv r mm' hd hq H locs ls hP hS hl
  exact W.dret B.exec B.bytes B.returns (fun t ht hW => ⟨⟨r, mm', rfl, hq, by show Rep _ _ _ _ _ _ _ t.heap; rw [ht]; exact hP⟩, hS.F ht⟩) hS.2.2 hd B.notSynchronized
theorem enterR {y : MethodName} {bytes : ByteArray} {maxL : Nat} {rt : FieldType} {kt : Nat} (hrt : (∃ n, rt = .object n) ∨ ∃ u, rt = .array u) {rm : Room} {av : List Value} {lv0 : List (Nat × Value)} {Qp : Nat → Mm → Prop} (hy : plainName y.cls = true) (hr0 : rm.cells = 0 ∧ rm.slots = 0) (hlv : lv_args 0 av = lv0) (hlen : (lg_sl av).length ≤ maxL)
    (body : ∀ (p : Program) (e : Env) (s : State) (m : MethodId) (args : Array Value) (below : List Frame) (meth : Method) (c : Code) (Q : State → Prop), Fx p m c bytes maxL s args y.cls → KV D cA s → Z s s.heap → meth.name = y.name →
      (∀ (pc : Nat) (lv : List (Nat × Value)) (r : Nat) (mm' : Mm), decode bytes pc = .ok (.areturn, 1) → Qp r mm' → V p l e rm s m args below meth c Q maxL A 0 0 (Rep F D cA ad dy G mm') pc lv [rv (ad kt) r]) →
      V p l e rm s m args below meth c Q maxL A 0 0 (Rep F D cA ad dy G mm) 0 lv0 []) :
    Met l y (.code y bytes maxL (some rt) :: TG) rm (PcM F D cA ad dy G Z av mm) (AnsQ F D cA ad dy G kt A Qp) 0 0 A := by
  refine Met.ofW (cc := bytes) (maxL := maxL) (ret := (some rt)) hy rfl ?_
  intro p e s m args below meth c s₁ B hml hv
  obtain ⟨rfl, hK, hZ, hP0⟩ := hv
  have hts := atoms_spec (ws := .code y bytes maxL (some rt) :: TG) B.pre
  have hl := lv_entry av (n := maxL) hlen
  rw [lg_entry_eq]
  rw [hlv] at hl
  refine body p e s m _ below meth c _ ⟨B.exec, B.bytes, hml, findClass_of_methodNamed B.named, fun w hw => hts w (List.mem_cons_of_mem _ hw)⟩ hK hZ (name_of_methodNamed B.named B.method).1 ?_ s.heap [] _ hP0 va_S.rf hl
  intro pc lv r mm' hd hq H locs ls hP hS hl
  exact W.aret B.exec B.bytes B.returns hrt (by unfold rv; split; exact Or.inl rfl; exact Or.inr ⟨_, rfl⟩) (fun t ht hW => ⟨⟨r, mm', rfl, hq, by show Rep _ _ _ _ _ _ _ t.heap; rw [ht]; exact hP⟩, hS.F ht⟩) hS.2.2 hd B.notSynchronized
theorem enterXI {y : MethodName} {bytes : ByteArray} {maxL mc ms : Nat} {rm : Room} {av : List Value} {lv0 : List (Nat × Value)} {Qp : Int32 → Mm → Prop} {Xp : Nat → Mm → Prop} (hy : plainName y.cls = true) (hlv : lv_args 0 av = lv0) (hlen : (lg_sl av).length ≤ maxL)
    (body : ∀ (p : Program) (e : Env) (s : State) (m : MethodId) (args : Array Value) (below : List Frame) (meth : Method) (c : Code) (Q : State → Prop), Fx p m c bytes maxL s args y.cls → KV D cA s → Z s s.heap → meth.name = y.name → meth.locks = false → (∀ x ∈ c.exceptionTable.toList, False) →
      Q = vx_MQ below (AnsI F D cA ad dy G A Qp) (AnsX F D cA ad dy G A Xp) args s mc ms A →
      (∀ (cells slots pc : Nat) (lv : List (Nat × Value)) (r : Int32) (mm' : Mm), decode bytes pc = .ok (.ireturn, 1) → cells ≤ mc → slots ≤ ms → Qp r mm' → V p l e rm s m args below meth c Q maxL A cells slots (Rep F D cA ad dy G mm') pc lv [.int r]) →
      V p l e rm s m args below meth c Q maxL A 0 0 (Rep F D cA ad dy G mm) 0 lv0 []) :
    vx_Met l y (.code y bytes maxL (some .int) :: TG) rm (PcM F D cA ad dy G Z av mm) (AnsI F D cA ad dy G A Qp) (AnsX F D cA ad dy G A Xp) mc ms A := by
  refine vx_ofW (cc := bytes) (maxL := maxL) (ret := (some .int)) hy rfl ?_
  intro p e s m args below meth c s₁ B hml htab hv
  obtain ⟨rfl, hK, hZ, hP0⟩ := hv
  have hts := atoms_spec (ws := .code y bytes maxL (some .int) :: TG) B.pre
  have hl := lv_entry av (n := maxL) hlen
  rw [lg_entry_eq]
  rw [hlv] at hl
  refine body p e s m _ below meth c _ ⟨B.exec, B.bytes, hml, findClass_of_methodNamed B.named, fun w hw => hts w (List.mem_cons_of_mem _ hw)⟩ hK hZ (name_of_methodNamed B.named B.method).1 B.notSynchronized htab rfl ?_ s.heap [] _ hP0 va_S.rf hl
  intro cells slots pc lv r mm' hd hc hs hq H locs ls hP hS hl
  refine W.widen hc hs (vx_ret ?_)
  exact W.iret B.exec B.bytes B.returns (fun t ht hW => ⟨⟨r, mm', rfl, hq, by show Rep _ _ _ _ _ _ _ t.heap; rw [ht]; exact hP⟩, hS.F ht⟩) hS.2.2 hd B.notSynchronized
theorem enterXZ {y : MethodName} {bytes : ByteArray} {maxL mc ms : Nat} {rm : Room} {av : List Value} {lv0 : List (Nat × Value)} {Qp : Int32 → Mm → Prop} {Xp : Nat → Mm → Prop} (hy : plainName y.cls = true) (hlv : lv_args 0 av = lv0) (hlen : (lg_sl av).length ≤ maxL)
    (body : ∀ (p : Program) (e : Env) (s : State) (m : MethodId) (args : Array Value) (below : List Frame) (meth : Method) (c : Code) (Q : State → Prop), Fx p m c bytes maxL s args y.cls → KV D cA s → Z s s.heap → meth.name = y.name → meth.locks = false → (∀ x ∈ c.exceptionTable.toList, False) →
      Q = vx_MQ below (AnsI F D cA ad dy G A Qp) (AnsX F D cA ad dy G A Xp) args s mc ms A →
      (∀ (cells slots pc : Nat) (lv : List (Nat × Value)) (r : Int32) (mm' : Mm), decode bytes pc = .ok (.ireturn, 1) → cells ≤ mc → slots ≤ ms → isB r → Qp r mm' → V p l e rm s m args below meth c Q maxL A cells slots (Rep F D cA ad dy G mm') pc lv [.int r]) →
      V p l e rm s m args below meth c Q maxL A 0 0 (Rep F D cA ad dy G mm) 0 lv0 []) :
    vx_Met l y (.code y bytes maxL (some .boolean) :: TG) rm (PcM F D cA ad dy G Z av mm) (AnsI F D cA ad dy G A Qp) (AnsX F D cA ad dy G A Xp) mc ms A := by
  refine vx_ofW (cc := bytes) (maxL := maxL) (ret := (some .boolean)) hy rfl ?_
  intro p e s m args below meth c s₁ B hml htab hv
  obtain ⟨rfl, hK, hZ, hP0⟩ := hv
  have hts := atoms_spec (ws := .code y bytes maxL (some .boolean) :: TG) B.pre
  have hl := lv_entry av (n := maxL) hlen
  rw [lg_entry_eq]
  rw [hlv] at hl
  refine body p e s m _ below meth c _ ⟨B.exec, B.bytes, hml, findClass_of_methodNamed B.named, fun w hw => hts w (List.mem_cons_of_mem _ hw)⟩ hK hZ (name_of_methodNamed B.named B.method).1 B.notSynchronized htab rfl ?_ s.heap [] _ hP0 va_S.rf hl
  intro cells slots pc lv r mm' hd hc hs hb hq H locs ls hP hS hl
  refine W.widen hc hs (vx_ret ?_)
  exact W.zret B.exec B.bytes B.returns (narrow_B hb).1 (fun t ht hW => ⟨⟨r, mm', rfl, hq, by show Rep _ _ _ _ _ _ _ t.heap; rw [ht]; exact hP⟩, hS.F ht⟩) hS.2.2 hd B.notSynchronized
theorem enterXV {y : MethodName} {bytes : ByteArray} {maxL mc ms : Nat} {rm : Room} {av : List Value} {lv0 : List (Nat × Value)} {Qp : Mm → Prop} {Xp : Nat → Mm → Prop} (hy : plainName y.cls = true) (hlv : lv_args 0 av = lv0) (hlen : (lg_sl av).length ≤ maxL)
    (body : ∀ (p : Program) (e : Env) (s : State) (m : MethodId) (args : Array Value) (below : List Frame) (meth : Method) (c : Code) (Q : State → Prop), Fx p m c bytes maxL s args y.cls → KV D cA s → Z s s.heap → meth.name = y.name → meth.locks = false → (∀ x ∈ c.exceptionTable.toList, False) →
      Q = vx_MQ below (AnsV F D cA ad dy G A Qp) (AnsX F D cA ad dy G A Xp) args s mc ms A →
      (∀ (cells slots pc : Nat) (lv : List (Nat × Value)) (mm' : Mm), decode bytes pc = .ok (.return_, 1) → cells ≤ mc → slots ≤ ms → Qp mm' → V p l e rm s m args below meth c Q maxL A cells slots (Rep F D cA ad dy G mm') pc lv []) →
      V p l e rm s m args below meth c Q maxL A 0 0 (Rep F D cA ad dy G mm) 0 lv0 []) :
    vx_Met l y (.code y bytes maxL none :: TG) rm (PcM F D cA ad dy G Z av mm) (AnsV F D cA ad dy G A Qp) (AnsX F D cA ad dy G A Xp) mc ms A := by
  refine vx_ofW (cc := bytes) (maxL := maxL) (ret := none) hy rfl ?_
  intro p e s m args below meth c s₁ B hml htab hv
  obtain ⟨rfl, hK, hZ, hP0⟩ := hv
  have hts := atoms_spec (ws := .code y bytes maxL none :: TG) B.pre
  have hl := lv_entry av (n := maxL) hlen
  rw [lg_entry_eq]
  rw [hlv] at hl
  refine body p e s m _ below meth c _ ⟨B.exec, B.bytes, hml, findClass_of_methodNamed B.named, fun w hw => hts w (List.mem_cons_of_mem _ hw)⟩ hK hZ (name_of_methodNamed B.named B.method).1 B.notSynchronized htab rfl ?_ s.heap [] _ hP0 va_S.rf hl
  intro cells slots pc lv mm' hd hc hs hq H locs ls hP hS hl
  refine W.widen hc hs (vx_ret ?_)
  exact W.vret B.exec B.bytes B.returns (fun t ht hW => ⟨⟨mm', rfl, hq, by show Rep _ _ _ _ _ _ _ t.heap; rw [ht]; exact hP⟩, hS.F ht⟩) hS.2.2 hd B.notSynchronized
theorem enterXR {y : MethodName} {bytes : ByteArray} {maxL mc ms : Nat} {rt : FieldType} {kt : Nat} (hrt : (∃ n, rt = .object n) ∨ ∃ u, rt = .array u) {rm : Room} {av : List Value} {lv0 : List (Nat × Value)} {Qp : Nat → Mm → Prop} {Xp : Nat → Mm → Prop} (hy : plainName y.cls = true) (hlv : lv_args 0 av = lv0) (hlen : (lg_sl av).length ≤ maxL)
    (body : ∀ (p : Program) (e : Env) (s : State) (m : MethodId) (args : Array Value) (below : List Frame) (meth : Method) (c : Code) (Q : State → Prop), Fx p m c bytes maxL s args y.cls → KV D cA s → Z s s.heap → meth.name = y.name → meth.locks = false → (∀ x ∈ c.exceptionTable.toList, False) →
      Q = vx_MQ below (AnsQ F D cA ad dy G kt A Qp) (AnsX F D cA ad dy G A Xp) args s mc ms A →
      (∀ (cells slots pc : Nat) (lv : List (Nat × Value)) (r : Nat) (mm' : Mm), decode bytes pc = .ok (.areturn, 1) → cells ≤ mc → slots ≤ ms → Qp r mm' → V p l e rm s m args below meth c Q maxL A cells slots (Rep F D cA ad dy G mm') pc lv [rv (ad kt) r]) →
      V p l e rm s m args below meth c Q maxL A 0 0 (Rep F D cA ad dy G mm) 0 lv0 []) :
    vx_Met l y (.code y bytes maxL (some rt) :: TG) rm (PcM F D cA ad dy G Z av mm) (AnsQ F D cA ad dy G kt A Qp) (AnsX F D cA ad dy G A Xp) mc ms A := by
  refine vx_ofW (cc := bytes) (maxL := maxL) (ret := (some rt)) hy rfl ?_
  intro p e s m args below meth c s₁ B hml htab hv
  obtain ⟨rfl, hK, hZ, hP0⟩ := hv
  have hts := atoms_spec (ws := .code y bytes maxL (some rt) :: TG) B.pre
  have hl := lv_entry av (n := maxL) hlen
  rw [lg_entry_eq]
  rw [hlv] at hl
  refine body p e s m _ below meth c _ ⟨B.exec, B.bytes, hml, findClass_of_methodNamed B.named, fun w hw => hts w (List.mem_cons_of_mem _ hw)⟩ hK hZ (name_of_methodNamed B.named B.method).1 B.notSynchronized htab rfl ?_ s.heap [] _ hP0 va_S.rf hl
  intro cells slots pc lv r mm' hd hc hs hq H locs ls hP hS hl
  refine W.widen hc hs (vx_ret ?_)
  exact W.aret B.exec B.bytes B.returns hrt (by unfold rv; split; exact Or.inl rfl; exact Or.inr ⟨_, rfl⟩) (fun t ht hW => ⟨⟨r, mm', rfl, hq, by show Rep _ _ _ _ _ _ _ t.heap; rw [ht]; exact hP⟩, hS.F ht⟩) hS.2.2 hd B.notSynchronized
theorem q_xcalli {stk rest : List Value} {mc ms mc9 ms9 : Nat} {a : Array Value} {Qp : Int32 → Mm → Prop} {Xp Xo : Nat → Mm → Prop} {Qc : Array Value → State → Outcome → State → Prop} (hQ : Q = vx_MQ below Qc (AnsX F D cA ad dy G A Xo) args s mc9 ms9 A) (hlocks : meth.locks = false) (htab : ∀ x ∈ c.exceptionTable.toList, False) (hr : RnX p l e R s m args below meth c nL A cells slots (Rep F D cA ad dy G mm) pc lv stk rest mc ms (AnsI F D cA ad dy G A Qp a) (AnsX F D cA ad dy G A Xp) A) (hmc : cells + mc ≤ mc9 ∧ slots + ms ≤ ms9) (hx : ∀ k mm', Xp k mm' → Xo k mm') (k : ∀ (r : Int32) (mm' : Mm), Qp r mm' → V p l e R s m args below meth c Q nL A (cells + mc) (slots + ms) (Rep F D cA ad dy G mm') (pc + 3) lv (.int r :: rest)) : V p l e R s m args below meth c Q nL A cells slots (Rep F D cA ad dy G mm) pc lv stk := by
  intro H locs ls hP hS hl
  subst hQ
  refine vx_calli (hr H locs ls hP hS hl) hS (fun q _ h => h) (fun q h => h) (fun q _ h => h) (fun E ce q9 u t H1 locs1 ht hal hp hb hz hk hS1 hce hcv hcl => ?_) (fun r u t H1 locs1 ht hal hp hb hz hk hS1 => ?_)
  · rw [ht] at hb
    exact vx_out (fun x hx => absurd (htab x hx) id) hlocks hce hcv hcl (fun t2 ht2 _ => ⟨u, hx _ _ hp, ⟨hb.1, by rw [ht2]; exact hb.2⟩, hS1.F ht2⟩) hS1.2.2 hmc.1 hmc.2
  · rw [ht] at hb
    exact k r u hp H1 locs1 ls hb hS1 hl
theorem q_xcallv {stk rest : List Value} {mc ms mc9 ms9 : Nat} {a : Array Value} {Qp : Mm → Prop} {Xp Xo : Nat → Mm → Prop} {Qc : Array Value → State → Outcome → State → Prop} (hQ : Q = vx_MQ below Qc (AnsX F D cA ad dy G A Xo) args s mc9 ms9 A) (hlocks : meth.locks = false) (htab : ∀ x ∈ c.exceptionTable.toList, False) (hr : RnX p l e R s m args below meth c nL A cells slots (Rep F D cA ad dy G mm) pc lv stk rest mc ms (AnsV F D cA ad dy G A Qp a) (AnsX F D cA ad dy G A Xp) A) (hmc : cells + mc ≤ mc9 ∧ slots + ms ≤ ms9) (hx : ∀ k mm', Xp k mm' → Xo k mm') (k : ∀ (mm' : Mm), Qp mm' → V p l e R s m args below meth c Q nL A (cells + mc) (slots + ms) (Rep F D cA ad dy G mm') (pc + 3) lv rest) : V p l e R s m args below meth c Q nL A cells slots (Rep F D cA ad dy G mm) pc lv stk := by
  intro H locs ls hP hS hl
  subst hQ
  refine vx_callv (hr H locs ls hP hS hl) hS (fun q _ h => h) (fun q h => h) (fun q _ h => h) (fun E ce q9 u t H1 locs1 ht hal hp hb hz hk hS1 hce hcv hcl => ?_) (fun u t H1 locs1 ht hal hp hb hz hk hS1 => ?_)
  · rw [ht] at hb
    exact vx_out (fun x hx => absurd (htab x hx) id) hlocks hce hcv hcl (fun t2 ht2 _ => ⟨u, hx _ _ hp, ⟨hb.1, by rw [ht2]; exact hb.2⟩, hS1.F ht2⟩) hS1.2.2 hmc.1 hmc.2
  · rw [ht] at hb
    exact k u hp H1 locs1 ls hb hS1 hl
theorem q_xcallr {stk rest : List Value} {mc ms mc9 ms9 kt : Nat} {a : Array Value} {Qp : Nat → Mm → Prop} {Xp Xo : Nat → Mm → Prop} {Qc : Array Value → State → Outcome → State → Prop} (hQ : Q = vx_MQ below Qc (AnsX F D cA ad dy G A Xo) args s mc9 ms9 A) (hlocks : meth.locks = false) (htab : ∀ x ∈ c.exceptionTable.toList, False) (hr : RnX p l e R s m args below meth c nL A cells slots (Rep F D cA ad dy G mm) pc lv stk rest mc ms (AnsQ F D cA ad dy G kt A Qp a) (AnsX F D cA ad dy G A Xp) A) (hmc : cells + mc ≤ mc9 ∧ slots + ms ≤ ms9) (hx : ∀ k mm', Xp k mm' → Xo k mm') (k : ∀ (r : Nat) (mm' : Mm), Qp r mm' → V p l e R s m args below meth c Q nL A (cells + mc) (slots + ms) (Rep F D cA ad dy G mm') (pc + 3) lv (rv (ad kt) r :: rest)) : V p l e R s m args below meth c Q nL A cells slots (Rep F D cA ad dy G mm) pc lv stk := by
  intro H locs ls hP hS hl T hT X
  subst hQ
  rcases hr H locs ls hP hS hl T hT X with ⟨v, st₀, t, T', L, h0, X', hL, e1, e2, ⟨⟨r, u, hv, hp, hb⟩, hF⟩, st⟩ | ⟨q, st₀, t, T', L, E, ce, h0, X', hL, e1, e2, ⟨u, hp, hb, hF⟩, hce, hcv, hcl, st⟩
  · cases hv
    obtain ⟨k1, k2, k3⟩ := vx_keep h0 e1 hS (fun q _ h => h) (fun q h => h) hL hF
    rw [← e1] at hb
    obtain ⟨t2, a1, b1⟩ := k r u hp T'.heap (locs ++ L) ls hb k3 hl T' rfl X'
    exact ⟨t2, st t2 a1, b1⟩
  · obtain ⟨k1, k2, k3⟩ := vx_keep h0 e1 hS (fun q _ h => h) (fun q h => h) hL hF
    obtain ⟨t2, a1, b1⟩ := vx_out (Qc := Qc) (XC := AnsX F D cA ad dy G A Xo) (mc := mc9) (ms := ms9) (free := A) (pc := pc) (ls := ls) (rest := rest) (fun x hx => absurd (htab x hx) id) hlocks (show T'.heap[q]? = some ce by rw [e1]; exact hce) hcv hcl (fun t2 ht2 _ => ⟨u, hx _ _ hp, ⟨hb.1, by rw [ht2, e1]; exact hb.2⟩, k3.F ht2⟩) k3.2.2 hmc.1 hmc.2 T' rfl X'
    exact ⟨t2, st.trans a1, b1⟩
end BASE
