/-! THE CLAIM OUT OF ONE WALK OF THE LAW'S BODY. Your part is whole_start (and what it stands on); all else here is the same for every law, but numbers. -/
def R_law : String := "BondWarehouseLaw"
def lw_P (b : Addr) (xs : List Int32) (args : Array Value) (s : State) : Prop := args = #[.ref b] ∧ s.IntsAt b xs ∧ xs.length ≤ 260 ∧ (Jvm.Cond.and given_1 narrow_1).before args s = true
def lw_Q (_ : Array Value) (s : State) (o : Outcome) (t : State) : Prop := o = .returned (some (.int 1)) ∧ Framed s o t [] 737507 6889104
def lw_Z (below : List Frame) (a : Array Value) (s : State) : State → Prop := fun t => ∃ o, t.status = .running ∧ Ended t below o ∧ lw_Q a s o t
/-- the law's own end, with 1 on the stack, nothing written that was there before, its room as the claim has it -/
theorem lw_ret {p : Program} {l : Launch} {e : Env} {s : State} {m : MethodId} {below : List Frame} {meth : Method} {c : Code} {b : Nat} (hx : p.tables.exec = Jvm.exec) (hb : c.code = code) (hr : meth.sig.returnType = ret) (hlocks : meth.locks = false) {pc : Nat} {H : Heap} {ls : Array Slot} (hdg : decode code pc = .ok (.ireturn, 1)) : W p l e room_1 s m #[Value.ref b] below meth c H [] 737507 6889104 (lw_Z below #[Value.ref b] s) (F0 m pc ls [.int 1]) := by
  intro T hT X
  obtain ⟨fs, hret, hrun, hended, hW, hframe⟩ := X.leave (v := some (.int 1)) (hlocks := hlocks) (fun h => by rw [hr] at h; cases h)
  have hmeth' : T.vm.method? m = some meth := X.method'
  refine ⟨T.setFrames fs, ?_, .returned (some (.int 1)), hrun, hended, rfl, ⟨_, rfl⟩, hW, hframe⟩
  jvm_step X.here [X.here.top, hx, hb, hdg, hmeth', hr, ret, narrow_b1]
  (try refine ⟨rfl, ?_⟩); (try refine ⟨rfl, ?_⟩)
  first | (intro acts; rw [hret _ acts rfl rfl rfl]) | rw [hret _ _ rfl rfl rfl]
  exact Steps.refl _
/-- what holds at the law's entry: the machine, the code, the tables' words (any of lw_tbl by 'hts w (by decide +kernel)'), the script of L ints xs at the cell b, what the Statement gives of the start (any of its parts by flat_of_before) -/
def lw_At (p : Program) (s : State) (m : MethodId) (meth : Method) (c : Code) (b L : Nat) (xs : Nat → Int32) : Prop :=
  p.tables.exec = Jvm.exec ∧ c.code = code ∧ meth.sig.returnType = ret ∧ c.maxLocals = 8 ∧ s.vm.findClass R_law = some m.cls ∧ (∀ w ∈ lw_tbl, w.before #[Value.ref b] s = true) ∧ va_X b L xs s s.heap ∧ b < s.heap.size ∧ meth.locks = false ∧ (Jvm.Cond.and given_1 narrow_1).before #[Value.ref b] s = true
set_option maxRecDepth 100000 in
set_option maxHeartbeats 4000000 in
theorem whole_start {p : Program} {e : Env} {s : State} {m : MethodId} {below : List Frame} {meth : Method} {c : Code} (l : Launch) (hflags : l.flags = flags0) {b L : Nat} {xs : Nat → Int32} (hL : L ≤ 260) (C0 : lw_At p s m meth c b L xs) : W p l e room_1 s m #[Value.ref b] below meth c s.heap [] 0 0 (lw_Z below #[Value.ref b] s) (entryFrame m ([Value.ref b] : List Value).toArray 8) := by
  obtain ⟨hx, hb, hr, hml, hown, hts, hX, hbl, hlocks, hgv⟩ := id C0
  have hst : l.stackTraces = false := by
    unfold Launch.stackTraces
    rw [hflags]
    decide
  have hA0 : ∀ q : Nat, q < s.heap.size → ¬ aL s.heap.size q := fun q hq h => Nat.not_le.mpr hq h
  obtain ⟨sA, hZ0⟩ := ZC_start (A := aL s.heap.size) hts hgv hA0
  have hZ : ∀ b, ZC (adG s.heap.size sA b) (aL s.heap.size) s s.heap := fun b => hZ0 (adG s.heap.size sA b) (fun r => by unfold adG adL; rw [if_pos rfl])
  obtain ⟨D, cA, hW⟩ := KW_start hts hgv
  have X : Fx p m c cL_law 8 s #[Value.ref b] RL := ⟨hx, hb, hml, hown, tgh hts⟩
  have hAG := AG_L s.heap.size sA
  have hAU : ∀ q, AU (aG s.heap.size) q → aL s.heap.size q := fun q h => aG_L s.heap.size q h
  have ax1 : Ax (adG s.heap.size sA true) GC (aL s.heap.size) := ⟨fun t i h => hAU _ ⟨true, (hAG.1 true).1 t i h⟩, (hAG.1 true).2⟩
  have ax2 : Ax (adG s.heap.size sA false) GC (aL s.heap.size) := ⟨fun t i h => hAU _ ⟨false, (hAG.1 false).1 t i h⟩, (hAG.1 false).2⟩
  have hYX : ∀ H : Heap, va_X b L xs s H → va_X b L xs s H := fun _ h => h
  have hlt : ∀ H : Heap, va_X b L xs s H → b < H.size := fun H h => by
    obtain ⟨scr, h, -⟩ := h
    exact (Array.getElem?_eq_some_iff.mp h).1
  have hYk : ∀ H H1 : Heap, H.size ≤ H1.size → (∀ q : Nat, q < H.size → H1[q]? = H[q]?) → va_X b L xs s H → va_X b L xs s H1 := fun H H1 _ hq h => h.kept (hq b (hlt H h))
  have hY : Yok (aG s.heap.size) (fun H => va_X b L xs s H) := fun H H1 _ hq h => va_X.kept h (hq b (hlt H h) (fun z => hA0 b hbl (hAU b z)))
  have hE : ∀ (cells slots : Nat) (lv : List (Nat × Value)) (v : Int32) (g' : Gh), cells ≤ 75928 → slots ≤ 455568 → v = 1 → V p l e room_1 s m #[Value.ref b] below meth c (lw_Z below #[Value.ref b] s) 8 (aL s.heap.size) cells slots (WY D cA (adG s.heap.size sA) (fun H => va_X b L xs s H) g') 181 lv [.int v] := by
    intro cells slots lv v g' h1 h2 hv
    subst hv
    intro H locs ls hP hS hl
    have h1 : cells ≤ 737507 := by omega
    have h2 : slots ≤ 6889104 := by omega
    refine W.widen h1 h2 ?_
    refine va_forget (fun q hq => hS.2.2 q hq) ?_
    exact lw_ret hx hb hr hlocks dL_law_181
  have hl := lv_entry ([.ref b]) (n := 8) (Nat.le_of_ble_eq_true rfl)
  rw [lg_entry_eq]
  generalize (lg_sl ([.ref b]) ++ List.replicate (8 - (lg_sl ([.ref b])).length) Slot.unset).toArray = ls at hl ⊢
  have hl : lv_has ls 8 [(0, .ref b)] := hl
  have go : V p l e room_1 s m #[Value.ref b] below meth c (lw_Z below #[Value.ref b] s) 8 (aL s.heap.size) 0 0 (Rep (SZ s.heap.size 0) D cA (adG s.heap.size sA true) true (GN GC offC 0) (ME 0)) 0 [(0, .ref b)] [] := by
    refine q_new (t := 0) (k := 1) X ax1 (fun t i h => adL_c h) hW.1 rfl rfl inTX9 tyX9 tyX9_ok dfX9 kw_1_18 kw_1_19 kw_1_1 (gc (t := 0) (by decide) (ok1 (t := 0) (Nat.le_of_ble_eq_true rfl))) rfl ME0_0 (Nat.le_of_ble_eq_true rfl) (Nat.le_of_ble_eq_true rfl) dL_law_0 ?_
    refine q_dup X dL_law_3 rfl ?_
    refine q_callN (q_runI X hW.1 (hZ true) (ZC_ok _ _) [] [.ref (adG s.heap.size sA true 0 1)] rfl rfl (Nat.le_of_ble_eq_true rfl) dL_law_4 ⟨(Nat.le_of_ble_eq_true rfl), (Nat.le_of_ble_eq_true rfl)⟩ (c_X9_init ax1 (fun t i h => adL_c h) 1 1 (ok1 (t := 0) (Nat.le_of_ble_eq_true rfl)) (ME 0) (fun m9 => m9 = ME 847) (c_X9i rfl)) rfl rfl kw_1_20 kw_1_1 kw_1_22 kw_1_21 rfl hy_X9_init.2 ⟨(Nat.le_of_ble_eq_true rfl), (Nat.le_of_ble_eq_true rfl)⟩) (fun mc hmc => ?_)
    subst hmc
    refine q_astore_n X dL_law_7 rfl (Nat.le_of_ble_eq_true rfl) rfl ?_
    refine q_P (P' := fun H => Rep (SZ (s.heap.size + 423) 0) D cA (adG s.heap.size sA false) true (GN GC offC 0) (ME 0) H ∧ Rep TT D cA (adG s.heap.size sA true) false GC (ME 847) H) (fun H hP => ⟨⟨hP.1, fun t i h => absurd h.2 (Nat.not_lt_zero _)⟩, conv_C hP⟩) ?_
    refine q_newE (E := fun H => Rep TT D cA (adG s.heap.size sA true) false GC (ME 847) H) (fun H H' hq hP => Rep_keep hP trivial (fun t i hG => hq _ (Cel_lt (hP.2 t i hG)))) (t := 0) (k := 1) X ax2 (fun t i h => adL_c h) hW.1 rfl rfl inTX9 tyX9 tyX9_ok dfX9 kw_1_18 kw_1_19 kw_1_1 (gc (t := 0) (by decide) (ok1 (t := 0) (Nat.le_of_ble_eq_true rfl))) rfl ME0_0 (Nat.le_of_ble_eq_true rfl) (Nat.le_of_ble_eq_true rfl) dL_law_8 ?_
    refine q_dup X dL_law_11 rfl ?_
    refine q_initE (A2 := aG s.heap.size false) X (fun q h => hAU q ⟨false, h⟩) hW.1 (hZ false) (E := fun H => Rep TT D cA (adG s.heap.size sA true) false GC (ME 847) H) (fun H H' hq hP => Rep_keep hP trivial (fun t i hG => hq _ (Cel_lt (hP.2 t i hG)) (hAG.2 true false _ (by decide) ((hAG.1 true).1 t i hG)))) [.ref (adG s.heap.size sA false 0 1)] rfl (Nat.le_of_ble_eq_true rfl) dL_law_12 ⟨(Nat.le_of_ble_eq_true rfl), (Nat.le_of_ble_eq_true rfl)⟩ (c_X9_init (hAG.1 false) (fun t i h => adL_c h) 1 1 (ok1 (t := 0) (Nat.le_of_ble_eq_true rfl)) (ME 0) (fun m9 => m9 = ME 847) (c_X9i rfl)) rfl rfl kw_1_20 kw_1_1 kw_1_22 kw_1_21 rfl hy_X9_init.2 ⟨(Nat.le_of_ble_eq_true rfl), (Nat.le_of_ble_eq_true rfl)⟩ (fun mm hmm => ?_)
    subst hmm
    refine q_astore_n X dL_law_15 rfl (Nat.le_of_ble_eq_true rfl) rfl ?_
    refine q_PS (P' := WY D cA (adG s.heap.size sA) (fun H => va_X b L xs s H) (fun _ => u0, 0)) (fun H locs hP hS => ⟨fun b' => ⟨ME 847, ?_, R_first⟩, hX.kept (hS.2.1 b hbl (hA0 b hbl))⟩) ?_
    · cases b' with
      | true => exact hP.2
      | false => exact conv_C hP.1
    · exact q_w (c2 := 8442) (n2 := 6 * 8442) (Nat.le_of_ble_eq_true rfl) (Nat.le_of_ble_eq_true rfl) (c_L_law hAG hst X hW hZ hAU hY hL hYX hYk hE (fun _ => u0, 0) (law_true L xs (fun _ => ⟨ME 847, R_first⟩) rfl JP_first rfl))
  exact go s.heap [] ls ⟨rfl, fun t i h => absurd h.2 (Nat.not_lt_zero _)⟩ va_S.rf hl
set_option maxHeartbeats 4000000 in
theorem lw_walk (l : Launch) (hflags : l.flags = flags0) (b : Addr) (xs : List Int32) : MetFree l x (headSpec (Jvm.Cond.code x code maxLocals ret :: tables_1) room_1) (lw_P b xs) (fun _ _ _ _ _ => True) lw_Q := by
  refine MetFree.of_bodyS (code := code) (maxLocals := maxLocals) (ret := ret) (by decide) ?_ ?_
  · intro args s m h hn
    obtain ⟨meth, c, h1, h2, h3, h4, h5, h6, -, -⟩ := Cond.code_spec hn (atoms_spec (ws := Jvm.Cond.code x code maxLocals ret :: tables_1) h _ List.mem_cons_self)
    exact ⟨meth, c, h1, h2, h3, h4, h5, h6⟩
  · intro p e s m args below meth c s₁ B hml0 hP _
    obtain ⟨rfl, hx, hbd, hgv⟩ := hP
    obtain ⟨scr, harrAt, hlist, hof, hsmall⟩ := hx
    obtain ⟨hcb, hkn, -, -⟩ := State.arrayAt?_spec harrAt
    have hown : s.vm.findClass R_law = some m.cls := findClass_of_methodNamed B.named
    have hts0 : ∀ c ∈ (Jvm.Cond.code x code maxLocals ret :: tables_1), c.before #[Value.ref b] s = true := atoms_spec (ws := Jvm.Cond.code x code maxLocals ret :: tables_1) B.pre
    have hts : ∀ w ∈ lw_tbl, w.before #[Value.ref b] s = true := k2_hts_sels lw_privs (fun w hw => hts0 w (List.mem_cons_of_mem _ hw)) lw_privs_ok
    have hml : c.maxLocals = 8 := B.maxLocals_eq (hts0 _ List.mem_cons_self)
    have X₀ : Stand p l e room_1 s m #[Value.ref b] below meth c s₁ [] 0 0 := Stand.of_body B
    have hh0 : s₁.heap = s.heap := by rw [B.state]; rfl
    have hsz : scr.slots.size = xs.length := by rw [← Array.length_toList, hlist, List.length_map]
    have hval : ∀ j : Nat, j < xs.length → scr.slots[j]? = some (.int (xs.getD j 0)) := fun j hj => by
      rw [← Array.getElem?_toList, hlist]
      simp [hj]
    have hbl : b < s.heap.size := (Array.getElem?_eq_some_iff.mp hcb).1
    have hX : va_X b xs.length (fun j => xs.getD j 0) s s.heap := ⟨scr, hcb, hof, hkn, hsz, hval⟩
    have K : W p l e room_1 s m #[Value.ref b] below meth c s₁.heap [] 0 0 (lw_Z below #[Value.ref b] s) (entryFrame m ([Value.ref b] : List Value).toArray 8) := by
      rw [hh0]
      exact whole_start l hflags hbd ⟨B.exec, B.bytes, B.returns, hml, hown, hts, hX, hbl, B.notSynchronized, hgv⟩
    obtain ⟨t, a1, o, b1, b2, b3⟩ := K s₁ rfl X₀
    exact ⟨t, o, a1, b1, b2, b3⟩
theorem lw_pre_spec {args : Array Value} {s : State} (h : (Jvm.Cond.and given_1 narrow_1).before args s = true) (hr : rest_1_c.before args s = true) : ∃ (b : Addr) (xs : List Int32), lw_P b xs args s := by
  have hs := flat_of_before _ h
  have hq := flat_of_before _ hr
  have hc : (Cond.count 1).before args s = true := hs _ (by decide +kernel)
  have harr : (Cond.arrayOf (.arg 0) .int).before args s = true := hs _ (by decide +kernel)
  have hle : (Cond.le (.length (.arg 0)) (.int 260)).before args s = true := hs _ (by decide +kernel)
  have hlen : (Cond.isInt (.length (.arg 0))).before args s = true := hq _ (by decide +kernel)
  have hall : (Cond.all (.arg 0) (.isInt (.elem (.arg 0) (.index 0)))).before args s = true := hq _ (by decide +kernel)
  obtain ⟨b, xs, hb, hx⟩ := State.ints_of_pre rfl harr hlen hall
  have hsm : xs.length < 2 ^ 31 := hx.choose_spec.2.2.2
  have hev : (Term.length (.arg 0)).eval args s none [] s = some (.int xs.length.toInt32) := hx.length_eval hb
  have hv := Cond.le_ints hev (show (Term.int 260).eval args s none [] s = some (.int 260) from rfl)
  have hd : xs.length.toInt32 ≤ 260 := by
    simpa [Cond.before, Cond.holds, hv] using hle
  have hN : xs.length ≤ 260 := (Int32.ofNat_le_ofNat hsm (by decide)).mp (show Int32.ofNat xs.length ≤ Int32.ofNat 260 from hd)
  exact ⟨b, xs, Cond.one_arg hc (show args[0]? = some (.ref b) from hb), hx, hN, h⟩
theorem lw_comes (l : Launch) (hflags : l.flags = flags0) : Comes l x (Jvm.Cond.code x code maxLocals ret :: tables_1) room_1 (fun tb e args s => Calls_1 tb e args s ∧ rest_1 tb e args s ∧ Pre_1 tb e args s)
    (fun _ _ args s o t => lw_Q args s o t) := by
  intro p e ha hc hk s m args below hf hfit hheap happ hpre
  obtain ⟨b, xs, hP⟩ := lw_pre_spec hpre.2.2 hpre.2.1
  obtain ⟨k, o, h1, h2, h3, hQ⟩ := lw_walk l hflags b xs p e ha hc hk s m args below hf ((Spec.applies_iff_loose hf).mp happ).1 hP trivial
  exact ⟨k, o, h1, h2, h3, hQ⟩
theorem lw_frame {s t : State} {o : Outcome} {args : Array Value} (h : Framed s o t [] 737507 6889104) :
    Framed s o t (fieldLocs frame_1_writes args s ++ arrayLocs frame_1_arrays args s ++ staticLocs frame_1_statics s) 737507 6889104 := h
theorem lw_limb (L : Cond) (hL : ∀ (args : Array Value) (s t : State), L.after args s (.returned (some (.int 1))) t = true) :
    ArmFor flags0 classFile x code maxLocals ret World_1 tables_1 room_1 Calls_1 rest_1 Pre_1
      (fun tb e a s o t => postC L tb e a s o t ∧ Framed s o t (fieldLocs frame_1_writes a s ++ arrayLocs frame_1_arrays a s ++ staticLocs frame_1_statics s) 737507 6889104) := by
  intro l hflags _ _ p e ha hc hk s m args below hf hfit hheap happ hpre
  obtain ⟨k, o, h1, h2, h3, rfl, hF⟩ := lw_comes l hflags p e ha hc hk s m args below hf hfit hheap happ hpre
  exact ⟨k, _, h1, h2, h3, hL args s _, lw_frame hF⟩
theorem i_vc : Claimed_1_1 ∧ Claimed_1_2 := ⟨lw_limb limb_1_1 (fun args s t => by simp [limb_1_1, Cond.after, Cond.holds, Cond.value]), lw_limb limb_1_2 (fun args s t => Cond.after_iff.mpr (by
  first | (rw [show limb_1_2 = Cond.eq .result (.int 1) from rfl, Cond.eq_ints (x := 1) (y := 1) rfl rfl]; simp; done) | (simp [limb_1_2, Cond.value, Term.eval]; done)))⟩
