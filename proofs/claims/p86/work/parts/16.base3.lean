section BASE3
/-- while things are made: the heap's size, and which are there -/
def SZ (b n : Nat) : Nat → Prop := fun z => z = b + n
def GN (Gb : Nat → Nat → Prop) (off : Nat → Nat → Nat) (n : Nat) (t i : Nat) : Prop := Gb t i ∧ off t i < n
theorem axN {ad : Nat → Nat → Nat} {Gb : Nat → Nat → Prop} {A : Nat → Prop} {off : Nat → Nat → Nat} {n : Nat} (ax : Ax ad Gb A) : Ax ad (GN Gb off n) A := ⟨fun t i h => ax.1 t i h.1, fun t i t' i' h h' e => ax.2 t i t' i' h.1 h'.1 e⟩
def sbC (i : Nat) : Nat := if i = 1 then 1 else 51 + 46 * (i - 2)
def offC (t i : Nat) : Nat := match t with
  | 0 => 0
  | 1 => sbC i
  | 2 => sbC i + 1
  | 7 => sbC i + 2
  | 8 => sbC i + 3
  | 9 => sbC i + 4
  | 10 => sbC i + 5
  | 11 => sbC i + 6
  | 3 => sbC ((i - 1) / 16 + 1) + 7 + (i - 1) % 16
  | 4 => sbC ((i - 1) / 12 + 1) + 23 + (i - 1) % 12
  | 5 => sbC ((i - 1) / 5 + 1) + 35 + (i - 1) % 5
  | 6 => sbC ((i - 1) / 6 + 1) + 40 + (i - 1) % 6
  | 12 => 47
  | 13 => 48
  | 14 => 49
  | 15 => 50
  | 16 => 419
  | 17 => 420
  | 18 => 421
  | 19 => 422
  | _ => 500
def offM (t _ : Nat) : Nat := t - 30
variable {p : Program} {l : Launch} {e : Env} {R : Room} {s : State} {m : MethodId} {args : Array Value} {below : List Frame} {meth : Method} {c : Code} {cells slots : Nat} {Q : State → Prop}
variable {cc : ByteArray} {nL : Nat} {own : String} {D : va_G} {cA : Nat → ClassId} {ad : Nat → Nat → Nat} {Gb : Nat → Nat → Prop} {off : Nat → Nat → Nat} {A : Nat → Prop} {Z : State → Heap → Prop}
variable {mm : Mm} {pc b n : Nat} {lv : List (Nat × Value)} {st : List Value}
theorem q_objI {P : Heap → Prop} (X : Fx p m c cc nL s args own) {idx a : Nat} (hlink : Cond.methodLink own idx Lib.objectInit ∈ TG) (hinst : Cond.instanceMethod Lib.objectInit ∈ TG) (hcode : Cond.code Lib.objectInit ⟨#[0xb1]⟩ 1 none ∈ TG) (hd : decode cc pc = .ok (.invokespecial idx, 3)) (hf : 1 ≤ R.frames) (hlo : (st.map fun v => v.category).sum + 12 ≤ R.locals) (k : V p l e R s m args below meth c Q nL A cells slots P (pc + 3) lv st) : V p l e R s m args below meth c Q nL A cells slots P pc lv (.ref a :: st) :=
  fun H locs ls hP hS hl => W.objInit X.1 X.2.1 X.2.2.2.1 (X.2.2.2.2 _ hlink) (X.2.2.2.2 _ hinst) (X.2.2.2.2 _ hcode) rfl (hl.1.trans X.2.2.1.symm) rfl hd hf (by
    have h9 : 2 * (F0 m pc ls (.ref a :: st)).monitorRoom = 0 := rfl
    omega) (k H locs ls hP hS hl)
/-- one thing more: it lies at the heap's end -/
theorem Rep_new {D : va_G} {cA : Nat → ClassId} {ad : Nat → Nat → Nat} {Gb : Nat → Nat → Prop} {off : Nat → Nat → Nat} {A : Nat → Prop} {mm : Mm} {H H' : Heap} {b n t k : Nat} (ax : Ax ad Gb A) (hA : ∀ t i, Gb t i → ad t i = b + off t i) (hG : Gb t k) (ho : off t k = n) (hP : Rep (SZ b n) D cA ad true (GN Gb off n) mm H) (hz : H'.size = b + n + 1) (hq : ∀ q : Nat, q < b + n → H'[q]? = H[q]?) (hn : Cel D cA ad true mm H' t k) : Rep (SZ b (n + 1)) D cA ad true (GN Gb off (n + 1)) mm H' := by
  refine ⟨by show H'.size = b + (n + 1); omega, ?_⟩
  intro t' i' hG'
  by_cases h : off t' i' < n
  · have h1 := hP.2 t' i' ⟨hG'.1, h⟩
    have ha : ad t' i' < b + n := by rw [hA _ _ hG'.1]; omega
    unfold Cel at h1 ⊢
    cases hk : kO t' with
    | none => rw [hk] at h1; show H'[ad t' i']? = _; rw [hq _ ha]; exact h1
    | some q => rw [hk] at h1; exact h1.kept (hq _ ha)
  · have h2 := hG'.2
    have h3 : ad t' i' = ad t k := by rw [hA _ _ hG'.1, hA _ _ hG]; omega
    obtain ⟨rfl, rfl⟩ := ax.2 _ _ _ _ hG'.1 hG h3
    exact hn
theorem fv_zero {ad : Nat → Nat → Nat} {mm : Mm} {t k : Nat} (hz : ∀ f, mm.1 t k f = 0 ∧ mm.2 t k f = 0) (f : Nat) : fv ad true mm t k f = if kT t f = 0 then .int 0 else .null := by
  unfold fv
  cases kT t f with
  | zero => rw [if_pos rfl]; show Value.int (mm.1 t k f) = _; rw [(hz f).1]
  | succ q =>
    rw [if_neg (Nat.succ_ne_zero q)]
    show rv (ad q) (mm.2 t k f) = _
    rw [(hz f).2]
    rfl
theorem q_new (X : Fx p m c cc nL s args own) (ax : Ax ad Gb A) (hA : ∀ t i, Gb t i → ad t i = b + off t i) (hK : KV D cA s) {t k ci N index : Nat} {C : String} {T : u_T} (hO : kO t = some (ci, N)) (hc : vwCl[ci]? = some (C, T, N)) (hin : ∀ w ∈ u_ws C T N, w ∈ TG) (ty0 : Nat → FieldType) (hty : ∀ k, k < N → parseFieldDescriptor (T k).2.2.1 = some (ty0 k)) (hdef : ∀ f, f < N → defaultValue (ty0 f) = if kT t f = 0 then .int 0 else .null) (hcl : Cond.classLink own index C ∈ TG) (hins : Cond.instantiable C N ∈ TG) (hini : Cond.initialized C ∈ TG)
    (hG : Gb t k) (ho : off t k = n) (hz : ∀ f, mm.1 t k f = 0 ∧ mm.2 t k f = 0) (hcs : cells + 1 ≤ R.cells) (hss : slots + N ≤ R.slots) (hd : decode cc pc = .ok (.new index, 3))
    (kk : V p l e R s m args below meth c Q nL A (cells + 1) (slots + N) (Rep (SZ b (n + 1)) D cA ad true (GN Gb off (n + 1)) mm) (pc + 3) lv (.ref (ad t k) :: st)) : V p l e R s m args below meth c Q nL A cells slots (Rep (SZ b n) D cA ad true (GN Gb off n) mm) pc lv st := by
  intro H locs ls hP hS hl
  have hsz : H.size = ad t k := by rw [hA _ _ hG, ho]; exact hP.1
  have hKn := hK.1.1 ci _ hc
  refine W.newcK X.1 X.2.1 X.2.2.2.1 (X.2.2.2.2 _ hcl) (X.2.2.2.2 _ hins) (X.2.2.2.2 _ hini) rfl hd hcs hss hKn.2.1 hsz (fun H1 kC hkC e1 z1 o1 => ?_)
  have hb : ad t k = b + n := by rw [hA _ _ hG, ho]
  refine kk H1 locs ls (Rep_new ax hA hG ho hP (by rw [z1, hb]) (fun q hq => o1 q (by rw [hb]; exact hq)) ?_) ⟨Nat.le_trans hS.1 (by omega), fun x h1 h2 => (o1 x (Nat.lt_of_lt_of_le h1 (by rw [← hsz]; exact hS.1))).trans (hS.2.1 x h1 h2), hS.2.2⟩ hl
  unfold Cel
  rw [hO]
  exact (u_born ty0 X.2.2.2.2 hin hKn hkC e1 hty).to (fun j hj => (hdef j hj).trans (fv_zero hz j).symm)
theorem push_q {H : Heap} {x : Cell} {q : Nat} (h : q < H.size) : (H.push x)[q]? = H[q]? := by
  rw [Array.getElem?_push, if_neg (Nat.ne_of_lt h)]
theorem va_S.push {A : Nat → Prop} {H0 H : Heap} {locs : List Loc} {x : Cell} (hS : va_S A H0 H locs) : va_S A H0 (H.push x) locs :=
  ⟨Nat.le_trans hS.1 (by rw [Array.size_push]; exact Nat.le_succ _), fun q h1 h2 => (push_q (Nat.lt_of_lt_of_le h1 hS.1)).trans (hS.2.1 q h1 h2), hS.2.2⟩
theorem q_newa (X : Fx p m c cc nL s args own) (ax : Ax ad Gb A) (hA : ∀ t i, Gb t i → ad t i = b + off t i) (hK : KV D cA s) {t k N : Nat} {x : Int32} {atype : ArrayType} (hO : kO t = none) (hL : kL t = N) (hE : kE t = some (newarray.typeOf atype)) (hi : newarray.typeOf atype = .int ∨ newarray.typeOf atype = .boolean) (hT : ∀ f, kT t f = 0) (harr : Cond.arrayClass (newarray.typeOf atype) ∈ TG) (hx : ¬ x < 0) (hN : x.toNatClampNeg = N) (hby : N * componentBytes (newarray.typeOf atype) ≤ 536870912)
    (hG : Gb t k) (ho : off t k = n) (hz : ∀ f, mm.1 t k f = 0 ∧ mm.2 t k f = 0) (hcs : cells + 1 ≤ R.cells) (hss : slots + N ≤ R.slots) (hd : decode cc pc = .ok (.newarray atype, 2))
    (kk : V p l e R s m args below meth c Q nL A (cells + 1) (slots + N) (Rep (SZ b (n + 1)) D cA ad true (GN Gb off (n + 1)) mm) (pc + 2) lv (.ref (ad t k) :: st)) : V p l e R s m args below meth c Q nL A cells slots (Rep (SZ b n) D cA ad true (GN Gb off n) mm) pc lv (.int x :: st) := by
  intro H locs ls hP hS hl
  subst hN
  have hb : ad t k = b + n := by rw [hA _ _ hG, ho]
  have hsz : H.size = ad t k := by rw [hb]; exact hP.1
  refine W.newa X.1 X.2.1 (X.2.2.2.2 _ harr) rfl hd rfl hx hby hcs hss (fun cA0 kA comp h1 h2 h3 => ?_)
  have hcA : cA0 = cA t := by
    have h9 := (hK.2.1 t _ hE).2
    rcases hi with hi | hi <;> rw [hi] at h9 h1 <;> exact Option.some.inj (h1.symm.trans h9)
  rw [hsz]
  refine kk _ locs ls (Rep_new ax hA hG ho hP (by rw [Array.size_push, hsz, hb]) (fun q hq => push_q (by rw [hsz, hb]; exact hq)) ?_) hS.push hl
  unfold Cel
  rw [hO]
  show (H.push _)[ad t k]? = _
  rw [← hsz, Array.getElem?_push_size, arrV_new, hcA, hL]
  congr 2
  funext j
  rw [fv_zero hz, if_pos (hT j)]
  rcases hi with hi | hi <;> rw [hi] <;> rfl
theorem q_anew (X : Fx p m c cc nL s args own) (ax : Ax ad Gb A) (hA : ∀ t i, Gb t i → ad t i = b + off t i) (hK : KV D cA s) {t k N index : Nat} {C : String} {x : Int32} (hO : kO t = none) (hL : kL t = N) (hE : kE t = some (.object C)) (hT : ∀ f, ¬ kT t f = 0) (hcl : Cond.classLink own index C ∈ TG) (hov : va_AO C s) (hx : ¬ x < 0) (hN : x.toNatClampNeg = N) (hby : N * 4 ≤ 536870912)
    (hG : Gb t k) (ho : off t k = n) (hz : ∀ f, mm.1 t k f = 0 ∧ mm.2 t k f = 0) (hcs : cells + 1 ≤ R.cells) (hss : slots + N ≤ R.slots) (hd : decode cc pc = .ok (.anewarray index, 3))
    (kk : V p l e R s m args below meth c Q nL A (cells + 1) (slots + N) (Rep (SZ b (n + 1)) D cA ad true (GN Gb off (n + 1)) mm) (pc + 3) lv (.ref (ad t k) :: st)) : V p l e R s m args below meth c Q nL A cells slots (Rep (SZ b n) D cA ad true (GN Gb off n) mm) pc lv (.int x :: st) := by
  intro H locs ls hP hS hl
  subst hN
  have hb : ad t k = b + n := by rw [hA _ _ hG, ho]
  have hsz : H.size = ad t k := by rw [hb]; exact hP.1
  refine W.anew X.1 X.2.1 X.2.2.2.1 (X.2.2.2.2 _ hcl) hov.use rfl hd rfl hx hby hcs hss (fun cA0 kA comp h1 h2 h3 h4 => ?_)
  have hcA : cA0 = cA t := by
    obtain ⟨_, _, _, _, _, h9⟩ := (hK.2.1 t _ hE).2
    exact Option.some.inj (h1.symm.trans h9)
  rw [hsz]
  refine kk _ locs ls (Rep_new ax hA hG ho hP (by rw [Array.size_push, hsz, hb]) (fun q hq => push_q (by rw [hsz, hb]; exact hq)) ?_) hS.push hl
  unfold Cel
  rw [hO]
  show (H.push _)[ad t k]? = _
  rw [← hsz, Array.getElem?_push_size, arrV_new, hcA, hL]
  congr 2
  funext j
  rw [fv_zero hz, if_neg (hT j)]
theorem q_callN {F F' : Nat → Prop} {G G' : Nat → Nat → Prop} {dy : Bool} {stk rest : List Value} {mc ms : Nat} {a : Array Value} {Qp : Mm → Prop} (hr : Rn p l e R s m args below meth c nL A cells slots (Rep F D cA ad dy G mm) pc lv stk rest mc ms (AnsV F' D cA ad dy G' A Qp a) A) (k : ∀ (mm' : Mm), Qp mm' → V p l e R s m args below meth c Q nL A (cells + mc) (slots + ms) (Rep F' D cA ad dy G' mm') (pc + 3) lv rest) : V p l e R s m args below meth c Q nL A cells slots (Rep F D cA ad dy G mm) pc lv stk := by
  intro H locs ls hP hS hl
  refine va_callv (hr H locs ls hP hS hl) hS (fun q _ h => h) (fun q h => h) (fun u t H1 locs1 ht hal hp hb hz hk hS1 => ?_)
  rw [ht] at hb
  exact k u hp H1 locs1 ls hb hS1 hl
theorem enterN {y : MethodName} {bytes : ByteArray} {maxL MC MS : Nat} {rm : Room} {av : List Value} {lv0 : List (Nat × Value)} {Qp : Mm → Prop} (hy : plainName y.cls = true) (hlv : lv_args 0 av = lv0) (hlen : (lg_sl av).length ≤ maxL)
    (body : ∀ (p : Program) (e : Env) (s : State) (m : MethodId) (args : Array Value) (below : List Frame) (meth : Method) (c : Code) (Q : State → Prop), Fx p m c bytes maxL s args y.cls → KV D cA s → Z s s.heap → meth.name = y.name →
      (∀ (pc : Nat) (lv : List (Nat × Value)) (mm' : Mm), decode bytes pc = .ok (.return_, 1) → Qp mm' → V p l e rm s m args below meth c Q maxL A MC MS (Rep (SZ b (n + MC)) D cA ad true (GN Gb off (n + MC)) mm') pc lv []) →
      V p l e rm s m args below meth c Q maxL A 0 0 (Rep (SZ b n) D cA ad true (GN Gb off n) mm) 0 lv0 []) :
    Met l y (.code y bytes maxL none :: TG) rm (PcM (SZ b n) D cA ad true (GN Gb off n) Z av mm) (AnsV (SZ b (n + MC)) D cA ad true (GN Gb off (n + MC)) A Qp) MC MS A := by
  refine Met.ofW (cc := bytes) (maxL := maxL) (ret := none) hy rfl ?_
  intro p e s m args below meth c s₁ B hml hv
  obtain ⟨rfl, hK, hZ, hP0⟩ := hv
  have hts := atoms_spec (ws := .code y bytes maxL none :: TG) B.pre
  have hl := lv_entry av (n := maxL) hlen
  rw [lg_entry_eq]
  rw [hlv] at hl
  refine body p e s m _ below meth c _ ⟨B.exec, B.bytes, hml, findClass_of_methodNamed B.named, fun w hw => hts w (List.mem_cons_of_mem _ hw)⟩ hK hZ (name_of_methodNamed B.named B.method).1 ?_ s.heap [] _ hP0 va_S.rf hl
  intro pc lv mm' hd hq H locs ls hP hS hl
  exact W.vret B.exec B.bytes B.returns (fun t ht hW => ⟨⟨mm', rfl, hq, by show Rep _ _ _ _ _ _ _ t.heap; rw [ht]; exact hP⟩, hS.F ht⟩) hS.2.2 hd B.notSynchronized
theorem q_rw {P : Heap → Prop} {c1 s1 : Nat} (hc : cells = c1) (hs : slots = s1) (k : V p l e R s m args below meth c Q nL A c1 s1 P pc lv st) : V p l e R s m args below meth c Q nL A cells slots P pc lv st := by
  subst hc; subst hs
  exact k
end BASE3
