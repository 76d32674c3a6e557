section THR
theorem Rep_kept {D : va_G} {cA : Nat → ClassId} {ad : Nat → Nat → Nat} {dy : Bool} {G : Nat → Nat → Prop} {mm : Mm} {H H' : Heap} (h : Rep TT D cA ad dy G mm H) (hq : ∀ t i, G t i → ad t i < H.size → H'[ad t i]? = H[ad t i]?) : Rep TT D cA ad dy G mm H' := by
  refine ⟨trivial, ?_⟩
  intro t i hG
  have h1 := h.2 t i hG
  unfold Cel at h1 ⊢
  cases hk : kO t with
  | none =>
    rw [hk] at h1
    show H'[ad t i]? = _
    rw [hq t i hG (Array.getElem?_eq_some_iff.mp h1).1]
    exact h1
  | some q =>
    rw [hk] at h1
    obtain ⟨cell, h2, h3⟩ := h1
    exact ⟨cell, by rw [hq t i hG (Array.getElem?_eq_some_iff.mp h2).1]; exact h2, h3⟩
abbrev xnm : List String := ["java/lang/RuntimeException", "java/lang/Exception"]
def xws (ic : Nat) (E : String) : List Cond := vx_atS "BondWarehouse" ic E xnm
def thrOK (k ik ic : Nat) : Prop := k < 4 ∧ Bundle.fit (exN k) = true ∧ Cond.classLink "BondWarehouse" ik (exN k) ∈ TG ∧ Cond.initialized (exN k) ∈ TG ∧ (∀ w ∈ (xws ic (exN k)).filter goodWord, w ∈ TG) ∧ (∀ w ∈ (xws ic (exN k)).filter (fun w => !goodWord w), w = .castable (exN k) (exN k) ∨ w ∈ decL.map Cond.declares) ∧ ∀ w ∈ Cond.classLink "BondWarehouse" ik (exN k) :: Cond.initialized (exN k) :: xws ic (exN k), vx_ot w = true
theorem thr_1 : thrOK 1 111 115 := ⟨by decide, by decide +kernel, kw_2_226, kw_1_15, by decide +kernel, by decide +kernel, by decide +kernel⟩
theorem thr_2 : thrOK 2 279 283 := ⟨by decide, by decide +kernel, kw_3_54, kw_1_16, by decide +kernel, by decide +kernel, by decide +kernel⟩
theorem thr_3 : thrOK 3 338 342 := ⟨by decide, by decide +kernel, kw_3_70, kw_1_17, by decide +kernel, by decide +kernel, by decide +kernel⟩
theorem xnm_fit : ∀ n ∈ xnm, Bundle.fit n = true := by decide +kernel
variable {p : Program} {l : Launch} {e : Env} {R : Room} {s : State} {m : MethodId} {args : Array Value} {below : List Frame} {meth : Method} {c : Code} {cells slots : Nat} {Q : State → Prop}
variable {cc : ByteArray} {nL : Nat} {own : String} {D : va_G} {cA : Nat → ClassId} {ad : Nat → Nat → Nat} {dy : Bool} {G : Nat → Nat → Prop} {A : Nat → Prop}
variable {mm : Mm} {pc : Nat} {lv : List (Nat × Value)} {st : List Value}
theorem thr_hat {k ik ic : Nat} (h : thrOK k ik ic) (hts : ∀ w ∈ TG, w.before args s = true) (hZ : ZC ad A s s.heap) : ∀ w ∈ vx_atS "BondWarehouse" ic (exN k) xnm, w.before args s = true := by
  intro w hw
  by_cases g : goodWord w = true
  · exact hts _ (h.2.2.2.2.1 w (List.mem_filter.mpr ⟨hw, g⟩))
  · have h1 := h.2.2.2.2.2.1 w (List.mem_filter.mpr ⟨hw, by simp [g]⟩)
    rcases h1 with h1 | h1
    · rw [h1]
      exact va_Nw.use rfl (hZ.2.2.2.2.1 k h.1)
    · obtain ⟨y, hy, rfl⟩ := List.mem_map.mp h1
      exact va_Nw.use rfl (hZ.2.2.2.2.2.1 y hy)
theorem q_throwS (X : Fx p m c cc nL s args "BondWarehouse") {k ik is ic mc9 ms9 : Nat} {text : String} {Xo : Nat → Mm → Prop} {Qc : Array Value → State → Outcome → State → Prop} (hQ : Q = vx_MQ below Qc (AnsX TT D cA ad dy G A Xo) args s mc9 ms9 A) (hlocks : meth.locks = false) (htab : ∀ x ∈ c.exceptionTable.toList, False) (hst : l.stackTraces = false) (hZ : ZC ad A s s.heap) (hT : thrOK k ik ic) (htx : (is, text) ∈ txL)
    (d0 : decode cc pc = .ok (.new ik, 3)) (d3 : decode cc (pc + 3) = .ok (.dup, 1)) (d4 : decode cc (pc + 4) = .ok (.ldc is, 2)) (d6 : decode cc (pc + 6) = .ok (.invokespecial ic, 3)) (d9 : decode cc (pc + 9) = .ok (.athrow, 1))
    (hRf : 6 ≤ R.frames) (hRl : (st.map fun v => v.category).sum + 82 ≤ R.locals) (hRc : cells + 1 ≤ R.cells) (hRs : slots + 6 ≤ R.slots) (hc : cells + 1 ≤ mc9) (hs : slots + 6 ≤ ms9) (hx : Xo k mm) : V p l e R s m args below meth c Q nL A cells slots (Rep TT D cA ad dy G mm) pc lv st := by
  intro H locs ls hP hS hl
  subst hQ
  obtain ⟨sa, hsa⟩ := hZ.2.2.2.1 _ htx
  refine vx_throwS (own := "BondWarehouse") (cls := exN k) (text := text) (names := xnm) X.1 X.2.1 hst X.2.2.2.1 hT.2.1 xnm_fit (X.2.2.2.2 _ hT.2.2.1) (X.2.2.2.2 _ hT.2.2.2.1) hsa (thr_hat hT X.2.2.2.2 hZ) hT.2.2.2.2.2.2 hZ.2.1 hZ.2.2.1 hS (by rw [hl.1, X.2.2.1]) d0 d3 d4 d6 d9 (fun x hx => absurd (htab x hx) id) hRf hRl hRc hRs hlocks ?_ hS.2.2 hc hs
  intro t hal hz hq
  exact ⟨(k, mm), hx, ⟨rfl, Rep_kept hP (fun t' i' _ hlt => hq _ hlt)⟩, ⟨Nat.le_trans hS.1 hz, fun q h1 h2 => (hq q (Nat.lt_of_lt_of_le h1 hS.1)).trans (hS.2.1 q h1 h2)⟩⟩
theorem q_throwSW (X : Fx p m c cc nL s args "BondWarehouse") {k ik is ic mc9 ms9 : Nat} {text : String} {Xo : Nat → Mm → Prop} {Qc : Array Value → State → Outcome → State → Prop} (hQ : Q = vx_MQ below Qc (AnsX TT D cA ad dy G A Xo) args s mc9 ms9 A) (hlocks : meth.locks = false) (htab : ∀ x ∈ c.exceptionTable.toList, False) (hst : l.stackTraces = false) (hZ : ZC ad A s s.heap) (hT : thrOK k ik ic) (htx : (is, text) ∈ txL)
    (d0 : decode cc pc = .ok (.new ik, 3)) (d3 : decode cc (pc + 3) = .ok (.dup, 1)) (d4 : decode cc (pc + 4) = .ok (.ldc_w is, 3)) (d6 : decode cc (pc + 7) = .ok (.invokespecial ic, 3)) (d9 : decode cc (pc + 10) = .ok (.athrow, 1))
    (hRf : 6 ≤ R.frames) (hRl : (st.map fun v => v.category).sum + 82 ≤ R.locals) (hRc : cells + 1 ≤ R.cells) (hRs : slots + 6 ≤ R.slots) (hc : cells + 1 ≤ mc9) (hs : slots + 6 ≤ ms9) (hx : Xo k mm) : V p l e R s m args below meth c Q nL A cells slots (Rep TT D cA ad dy G mm) pc lv st := by
  intro H locs ls hP hS hl
  subst hQ
  obtain ⟨sa, hsa⟩ := hZ.2.2.2.1 _ htx
  refine vx_throwSW (own := "BondWarehouse") (cls := exN k) (text := text) (names := xnm) X.1 X.2.1 hst X.2.2.2.1 hT.2.1 xnm_fit (X.2.2.2.2 _ hT.2.2.1) (X.2.2.2.2 _ hT.2.2.2.1) hsa (thr_hat hT X.2.2.2.2 hZ) hT.2.2.2.2.2.2 hZ.2.1 hZ.2.2.1 hS (by rw [hl.1, X.2.2.1]) d0 d3 d4 d6 d9 (fun x hx => absurd (htab x hx) id) hRf hRl hRc hRs hlocks ?_ hS.2.2 hc hs
  intro t hal hz hq
  exact ⟨(k, mm), hx, ⟨rfl, Rep_kept hP (fun t' i' _ hlt => hq _ hlt)⟩, ⟨Nat.le_trans hS.1 hz, fun q h1 h2 => (hq q (Nat.lt_of_lt_of_le h1 hS.1)).trans (hS.2.1 q h1 h2)⟩⟩
end THR
