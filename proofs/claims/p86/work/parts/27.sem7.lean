section SEM7
def st (mm : Mm) (f : Nat → Int32) : Mm := (fun t i j => if t = 32 ∧ i = 1 then f j else mm.1 t i j, mm.2)
theorem st_now (mm : Mm) (f : Nat → Int32) : (st mm f).1 32 1 = f := rfl
theorem st_st (mm : Mm) (f g : Nat → Int32) : st (st mm f) g = st mm g := by
  unfold st
  refine Prod.ext (funext fun t => funext fun i => funext fun j => ?_) rfl
  show (if t = 32 ∧ i = 1 then g j else if t = 32 ∧ i = 1 then f j else mm.1 t i j) = if t = 32 ∧ i = 1 then g j else mm.1 t i j
  by_cases h : t = 32 ∧ i = 1
  · rw [if_pos h, if_pos h]
  · rw [if_neg h, if_neg h, if_neg h]
theorem st_self (mm : Mm) : st mm (mm.1 32 1) = mm := by
  unfold st
  refine Prod.ext (funext fun t => funext fun i => funext fun j => ?_) rfl
  show (if t = 32 ∧ i = 1 then mm.1 32 1 j else mm.1 t i j) = _
  split
  · rename_i h; rw [h.1, h.2]
  · rfl
theorem st_sI (mm : Mm) (j : Nat) (v : Int32) : sI mm 32 1 j v = st mm (up (mm.1 32 1) j v) := by
  unfold st sI u3 up
  refine Prod.ext (funext fun t => funext fun i => funext fun k => ?_) rfl
  show (if t = 32 ∧ i = 1 ∧ k = j then v else mm.1 t i k) = if t = 32 ∧ i = 1 then (if k = j then v else mm.1 32 1 k) else mm.1 t i k
  by_cases h : t = 32 ∧ i = 1
  · rw [if_pos h]
    obtain ⟨rfl, rfl⟩ := h
    by_cases h2 : k = j
    · rw [if_pos h2, if_pos ⟨rfl, rfl, h2⟩]
    · rw [if_neg h2, if_neg (fun q => h2 q.2.2)]
  · rw [if_neg h, if_neg (fun q => h ⟨q.1, q.2.1⟩)]
theorem st_ne (mm : Mm) (f : Nat → Int32) {t : Nat} (h : ¬ t = 32) : (st mm f).1 t = mm.1 t := by
  unfold st
  funext i j
  show (if t = 32 ∧ i = 1 then f j else mm.1 t i j) = _
  rw [if_neg (fun q => h q.1)]
theorem up_eq (f : Nat → Int32) (j : Nat) (v : Int32) : up f j v j = v := if_pos rfl
theorem up_ne (f : Nat → Int32) {j k : Nat} (v : Int32) (h : ¬ k = j) : up f j v k = f k := if_neg h
theorem up_comm (f : Nat → Int32) {j k : Nat} (v w : Int32) (h : ¬ j = k) : up (up f j v) k w = up (up f k w) j v := by
  funext x
  unfold up
  by_cases h1 : x = k
  · subst h1
    rw [if_pos rfl, if_neg (fun q => h q.symm), if_pos rfl]
  · rw [if_neg h1]
    by_cases h2 : x = j
    · rw [if_pos h2, if_pos h2]
    · rw [if_neg h2, if_neg h2, if_neg h1]
theorem up_up (f : Nat → Int32) (j : Nat) (v w : Int32) : up (up f j v) j w = up f j w := by
  funext x
  unfold up
  by_cases h1 : x = j
  · rw [if_pos h1, if_pos h1]
  · rw [if_neg h1, if_neg h1, if_neg h1]
theorem en_up (f : Nat → Int32) {e q j : Nat} (v : Int32) (h : ¬ 118 + 8 * e + q = j) : en (up f j v) e q = en f e q := up_ne f v h
theorem en_up_e (f : Nat → Int32) (e q : Nat) (v : Int32) : en (up f (118 + 8 * e + q) v) e q = v := up_eq f _ v
theorem rc_up (f : Nat → Int32) {r q j : Nat} (v : Int32) (h : ¬ 69 + 4 * r + q = j) : rc (up f j v) r q = rc f r q := up_ne f v h
theorem mo_up (f : Nat → Int32) {j : Nat} (v : Int32) (h : ¬ 117 = j) : mo (up f j v) = mo f := by
  unfold mo
  rw [up_ne f v h]
theorem mr_up (f : Nat → Int32) {j : Nat} (v : Int32) (h : ¬ 68 = j) : mr (up f j v) = mr f := by
  unfold mr
  rw [up_ne f v h]
/-! whose a cell is -/
def own (t j : Nat) : Nat := if t = 1 ∨ t = 2 ∨ t = 7 ∨ t = 8 then j else if t = 3 then (j - 1) / 16 + 1 else if t = 4 then (j - 1) / 12 + 1 else if t = 5 then (j - 1) / 5 + 1 else if t = 6 then (j - 1) / 6 + 1 else 0
/-- nothing but the state i has changed -/
def Fr (i : Nat) (m m' : Mm) : Prop := ∀ t j q, ¬ own t j = i → m'.1 t j q = m.1 t j q ∧ m'.2 t j q = m.2 t j q
variable {m m' : Mm} {i : Nat} {f : Nat → Int32}
theorem Fr.refl (i : Nat) (m : Mm) : Fr i m m := fun _ _ _ _ => ⟨rfl, rfl⟩
theorem Fr.trans {m'' : Mm} (h : Fr i m m') (h2 : Fr i m' m'') : Fr i m m'' := fun t j q hn => ⟨(h2 t j q hn).1.trans (h t j q hn).1, (h2 t j q hn).2.trans (h t j q hn).2⟩
theorem Fr.sI (m : Mm) {t j : Nat} (q : Nat) (v : Int32) (h : own t j = i) : Fr i m (sI m t j q v) := by
  intro t' j' q' hn
  refine ⟨?_, rfl⟩
  show (if t' = t ∧ j' = j ∧ q' = q then v else _) = _
  rw [if_neg]
  rintro ⟨rfl, rfl, -⟩
  exact hn h
theorem Fr.sR (m : Mm) {t j : Nat} (q : Nat) (v : Nat) (h : own t j = i) : Fr i m (sR m t j q v) := by
  intro t' j' q' hn
  refine ⟨rfl, ?_⟩
  show (if t' = t ∧ j' = j ∧ q' = q then v else _) = _
  rw [if_neg]
  rintro ⟨rfl, rfl, -⟩
  exact hn h
theorem own1 (i : Nat) : own 1 i = i := rfl
theorem own2 (i : Nat) : own 2 i = i := rfl
theorem own7 (i : Nat) : own 7 i = i := rfl
theorem own8 (i : Nat) : own 8 i = i := rfl
theorem own3 {r : Nat} (hi : 1 ≤ i) (h : 16 * (i - 1) < r ∧ r ≤ 16 * i) : own 3 r = i := by
  show (r - 1) / 16 + 1 = i
  omega
theorem own4 {r : Nat} (hi : 1 ≤ i) (h : 12 * (i - 1) < r ∧ r ≤ 12 * i) : own 4 r = i := by
  show (r - 1) / 12 + 1 = i
  omega
theorem own5 {c : Nat} (hi : 1 ≤ i) (h : c < 5) : own 5 (5 * (i - 1) + c + 1) = i := by
  show (5 * (i - 1) + c + 1 - 1) / 5 + 1 = i
  omega
theorem own6 {c : Nat} (hi : 1 ≤ i) (h : c < 6) : own 6 (6 * (i - 1) + c + 1) = i := by
  show (6 * (i - 1) + c + 1 - 1) / 6 + 1 = i
  omega
theorem RSp.frame {k : Nat} (h : RSp m k) (e2 : ∀ t j q, own t j = k → m'.2 t j q = m.2 t j q) : RSp m' k := by
  unfold RSp at *
  simp only [fun q => e2 7 k q (own7 k), fun q => e2 8 k q (own8 k)]
  exact h
theorem RS.frame {k : Nat} {g : Nat → Int32} (h : RS m k g) (hk : 1 ≤ k) (hm : mo g ≤ 16) (hr : mr g ≤ 12) (e : ∀ t j q, own t j = k → m'.1 t j q = m.1 t j q ∧ m'.2 t j q = m.2 t j q) : RS m' k g := by
  obtain ⟨h1, h2, h3, h4, h5, h6, h7⟩ := h
  refine ⟨fun q hq => ?_, fun q hq => ?_, fun c hc => ?_, fun c hc q hq => ?_, fun x hx q hq => ?_, fun x hx q hq => ?_, h7.frame (fun t j q ho => (e t j q ho).2)⟩
  · rw [(e 1 k q (own1 k)).1]; exact h1 q hq
  · rw [(e 2 k q (own2 k)).1]; exact h2 q hq
  · rw [(e 5 _ 0 (own5 hk hc)).1, (e 5 _ 1 (own5 hk hc)).1]; exact h3 c hc
  · rw [(e 6 _ q (own6 hk hc)).1]; exact h4 c hc q hq
  · rw [(e 7 k x (own7 k)).2, (e 3 _ q (own3 hk (h7.1 x (by omega)))).1]; exact h5 x hx q hq
  · rw [(e 8 k x (own8 k)).2, (e 4 _ q (own4 hk (h7.2.2.1 x (by omega)))).1]; exact h6 x hx q hq
/-! the row changed at one place -/
theorem RSs.up {J : Nat} (v : Int32) (h : RSs m i f) (hJ : ¬ J = 0 ∧ ¬ J = 1 ∧ ¬ J = 2 ∧ ¬ J = 68 ∧ ¬ J = 117) : RSs m i (up f J v) := by
  intro q hq
  rw [h q hq, up_ne]
  have : q = 0 ∨ q = 1 ∨ q = 2 ∨ q = 3 ∨ q = 4 := by omega
  rcases this with rfl | rfl | rfl | rfl | rfl <;> (unfold six; simp; omega)
theorem RSm.up {J : Nat} (v : Int32) (h : RSm m i f) (hJ : J < 3 ∨ 9 < J) : RSm m i (up f J v) := by
  intro q hq
  rw [h q hq, up_ne]
  have : q = 0 ∨ q = 1 ∨ q = 2 ∨ q = 3 ∨ q = 4 ∨ q = 5 ∨ q = 6 := by omega
  rcases this with rfl | rfl | rfl | rfl | rfl | rfl | rfl <;> (unfold mix; simp; omega)
theorem RSc.up {J : Nat} (v : Int32) (h : RSc m i f) (hJ : J < 10 ∨ 19 < J) : RSc m i (up f J v) := by
  intro c hc
  rw [up_ne _ _ (by omega), up_ne _ _ (by omega)]
  exact h c hc
theorem kix_rng {k q : Nat} (hk : k < 6) (hq : q < 8) : 20 ≤ kix k q ∧ kix k q ≤ 67 := by
  unfold kix
  split
  · omega
  · split <;> omega
theorem kix_inj {k q k' q' : Nat} (hk : k < 6) (hq : q < 8) (hk' : k' < 6) (hq' : q' < 8) (h : kix k q = kix k' q') : k = k' ∧ q = q' := by
  unfold kix at h
  split at h <;> split at h <;> (try split at h) <;> (try split at h) <;> omega
theorem RSk.up {J : Nat} (v : Int32) (h : RSk m i f) (hJ : J < 20 ∨ 67 < J) : RSk m i (up f J v) := by
  intro k hk q hq
  have := kix_rng hk hq
  rw [up_ne _ _ (by omega)]
  exact h k hk q hq
theorem RSe.up {J : Nat} (v : Int32) (h : RSe m i f) (hJ : ¬ J = 0 ∧ J < 117) : RSe m i (up f J v) := by
  intro e he q hq
  rw [mo_up _ _ (by omega)] at he
  rw [h e he q hq]
  unfold ev
  rw [en_up _ _ (by omega), up_ne _ _ (by omega)]
theorem RSr.up {J : Nat} (v : Int32) (h : RSr m i f) (h12 : mr f ≤ 12) (hJ : J < 68 ∨ 116 < J) : RSr m i (up f J v) := by
  intro r hr q hq
  rw [mr_up _ _ (by omega)] at hr
  rw [h r hr q hq, rc_up _ _ (by omega)]
theorem mix_rng {q : Nat} (hq : q < 7) : 3 ≤ mix q ∧ mix q ≤ 9 := by
  unfold mix
  split
  · omega
  · split
    · omega
    · split <;> omega
theorem mix_inj {q q' : Nat} (hq : q < 7) (hq' : q' < 7) (h : mix q = mix q') : q = q' := by
  have : q = 0 ∨ q = 1 ∨ q = 2 ∨ q = 3 ∨ q = 4 ∨ q = 5 ∨ q = 6 := by omega
  have : q' = 0 ∨ q' = 1 ∨ q' = 2 ∨ q' = 3 ∨ q' = 4 ∨ q' = 5 ∨ q' = 6 := by omega
  unfold mix at h
  split at h <;> split at h <;> (try split at h) <;> (try split at h) <;> (try split at h) <;> (try split at h) <;> omega
/-- money -/
theorem RS.pm (h : RS m i f) (h12 : mr f ≤ 12) {q : Nat} (hq : q < 7) (v : Int32) : RS (sI m 2 i q v) i (up f (mix q) v) := by
  have hx := mix_rng hq
  obtain ⟨h1, h2, h3, h4, h5, h6, h7⟩ := h
  refine ⟨h1.up v (by omega), fun q' hq' => ?_, h3.up v (by omega), h4.up v (by omega), h5.up v (by omega), h6.up v h12 (by omega), h7⟩
  show (if 2 = 2 ∧ i = i ∧ q' = q then v else m.1 2 i q') = _
  by_cases e : q' = q
  · subst e
    rw [if_pos ⟨rfl, rfl, rfl⟩, up_eq]
  · rw [if_neg (fun z => e z.2.2), up_ne _ _ (fun z => e (mix_inj hq' hq z))]
    exact h2 q' hq'
/-- seals put -/
theorem RS.ps (h : RS m i f) (h12 : mr f ≤ 12) (v : Int32) : RS (sI m 1 i 3 v) i (up f 2 v) := by
  obtain ⟨h1, h2, h3, h4, h5, h6, h7⟩ := h
  refine ⟨fun q' hq' => ?_, h2.up v (by omega), h3.up v (by omega), h4.up v (by omega), h5.up v (by omega), h6.up v h12 (by omega), h7⟩
  show (if 1 = 1 ∧ i = i ∧ q' = 3 then v else m.1 1 i q') = _
  by_cases e : q' = 3
  · subst e
    rw [if_pos ⟨rfl, rfl, rfl⟩]
    exact (up_eq f 2 v).symm
  · rw [if_neg (fun z => e z.2.2), h1 q' hq', up_ne]
    have : q' = 0 ∨ q' = 1 ∨ q' = 2 ∨ q' = 4 := by omega
    rcases this with rfl | rfl | rfl | rfl <;> decide
/-- kinds -/
theorem RS.pk (h : RS m i f) (h12 : mr f ≤ 12) {k q : Nat} (hk : k < 6) (hq : q < 8) (v : Int32) : RS (sI m 6 (6 * (i - 1) + k + 1) q v) i (up f (kix k q) v) := by
  have hx := kix_rng hk hq
  obtain ⟨h1, h2, h3, h4, h5, h6, h7⟩ := h
  refine ⟨h1.up v (by omega), h2.up v (by omega), h3.up v (by omega), fun k' hk' q' hq' => ?_, h5.up v (by omega), h6.up v h12 (by omega), h7⟩
  show (if 6 = 6 ∧ 6 * (i - 1) + k' + 1 = 6 * (i - 1) + k + 1 ∧ q' = q then v else m.1 6 (6 * (i - 1) + k' + 1) q') = _
  by_cases e : k' = k ∧ q' = q
  · obtain ⟨rfl, rfl⟩ := e
    rw [if_pos ⟨rfl, rfl, rfl⟩, up_eq]
  · rw [if_neg (fun z => e ⟨by omega, z.2.2⟩), up_ne _ _ (fun z => e (kix_inj hk' hq' hk hq z))]
    exact h4 k' hk' q' hq'
theorem sI_at (m : Mm) (t j q : Nat) (v : Int32) : (sI m t j q v).1 t j q = v := if_pos ⟨rfl, rfl, rfl⟩
theorem sI_ne {m : Mm} {t j q t' j' q' : Nat} {v : Int32} (h : ¬ (t' = t ∧ j' = j ∧ q' = q)) : (sI m t j q v).1 t' j' q' = m.1 t' j' q' := if_neg h
/-- a chamber's seal -/
theorem RS.pc0 (h : RS m i f) (h12 : mr f ≤ 12) {c : Nat} (hc : c < 5) (v : Int32) : RS (sI m 5 (5 * (i - 1) + c + 1) 0 (slc v)) i (up f (10 + c) v) := by
  obtain ⟨h1, h2, h3, h4, h5, h6, h7⟩ := h
  refine ⟨h1.up v (by omega), h2.up v (by omega), fun c' hc' => ⟨?_, ?_⟩, h4.up v (by omega), h5.up v (by omega), h6.up v h12 (by omega), h7⟩
  · by_cases e : c' = c
    · subst e
      rw [sI_at, up_eq]
    · rw [sI_ne (fun z => e (by omega)), up_ne _ _ (by omega)]
      exact (h3 c' hc').1
  · rw [sI_ne (fun z => absurd z.2.2 (by decide)), up_ne _ _ (by omega)]
    exact (h3 c' hc').2
/-- whether it is broken -/
theorem RS.pc1 (h : RS m i f) (h12 : mr f ≤ 12) {c : Nat} (hc : c < 5) (v : Int32) : RS (sI m 5 (5 * (i - 1) + c + 1) 1 v) i (up f (15 + c) v) := by
  obtain ⟨h1, h2, h3, h4, h5, h6, h7⟩ := h
  refine ⟨h1.up v (by omega), h2.up v (by omega), fun c' hc' => ⟨?_, ?_⟩, h4.up v (by omega), h5.up v (by omega), h6.up v h12 (by omega), h7⟩
  · rw [sI_ne (fun z => absurd z.2.2 (by decide)), up_ne _ _ (by omega)]
    exact (h3 c' hc').1
  · by_cases e : c' = c
    · subst e
      rw [sI_at, up_eq]
    · rw [sI_ne (fun z => e (by omega)), up_ne _ _ (by omega)]
      exact (h3 c' hc').2
def cv (f : Nat → Int32) (q : Nat) (v : Int32) : Int32 := if q = 5 ∨ q = 6 then f 0 - v else v
/-- a field of an entry that is there -/
theorem RS.pe (h : RS m i f) (h12 : mr f ≤ 12) (h16 : mo f ≤ 16) {e q : Nat} (he : e < mo f) (hq : q < 8) (v : Int32) : RS (sI m 3 (m.2 7 i e) q (cv f q v)) i (up f (118 + 8 * e + q) v) := by
  obtain ⟨h1, h2, h3, h4, h5, h6, h7⟩ := h
  refine ⟨h1.up v (by omega), h2.up v (by omega), h3.up v (by omega), h4.up v (by omega), fun e' he' q' hq' => ?_, h6.up v h12 (by omega), h7⟩
  rw [mo_up _ _ (by omega)] at he'
  show (sI m 3 (m.2 7 i e) q (cv f q v)).1 3 (m.2 7 i e') q' = _
  by_cases z : e' = e ∧ q' = q
  · obtain ⟨rfl, rfl⟩ := z
    rw [sI_at]
    unfold ev cv
    rw [en_up_e, up_ne f v (show ¬ 0 = 118 + 8 * e' + q' by omega)]
  · rw [sI_ne (fun y => z ⟨h7.2.1 e' e (by omega) (by omega) y.2.1, y.2.2⟩), h5 e' he' q' hq']
    unfold ev
    rw [en_up _ _ (by omega), up_ne f v (show ¬ 0 = 118 + 8 * e + q by omega)]
/-- a field of a receipt that is there -/
theorem RS.pr (h : RS m i f) (h12 : mr f ≤ 12) {r q : Nat} (hr : r < mr f) (hq : q < 4) (v : Int32) : RS (sI m 4 (m.2 8 i r) q v) i (up f (69 + 4 * r + q) v) := by
  obtain ⟨h1, h2, h3, h4, h5, h6, h7⟩ := h
  refine ⟨h1.up v (by omega), h2.up v (by omega), h3.up v (by omega), h4.up v (by omega), ?_, ?_, h7⟩
  · intro e' he' q' hq'
    rw [mo_up _ _ (by omega)] at he'
    show m.1 3 (m.2 7 i e') q' = _
    rw [h5 e' he' q' hq']
    unfold ev
    rw [en_up _ _ (by omega), up_ne f v (show ¬ 0 = 69 + 4 * r + q by omega)]
  · intro r' hr' q' hq'
    rw [mr_up _ _ (by omega)] at hr'
    show (sI m 4 (m.2 8 i r) q v).1 4 (m.2 8 i r') q' = _
    by_cases z : r' = r ∧ q' = q
    · obtain ⟨rfl, rfl⟩ := z
      rw [sI_at]
      exact (up_eq f (69 + 4 * r' + q') v).symm
    · rw [sI_ne (fun y => z ⟨h7.2.2.2 r' r (by omega) (by omega) y.2.1, y.2.2⟩), rc_up _ _ (by omega)]
      exact h6 r' hr' q' hq'
end SEM7

