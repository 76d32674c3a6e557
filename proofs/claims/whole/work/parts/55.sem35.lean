section SEM35
variable {m M m' : Mm} {T : Nat → Int32} {p n k F a s : Nat} {x : Int32} {w : Nat → Int32} {Q : Int32 → Mm → Prop}
theorem jc_eta (h2 : m.1 17 1 2 = x) (h4 : m.1 17 1 4 = nI k) (h19 : ∀ j, m.1 19 1 j = w j) (h3 : m.2 17 1 3 = F) : jc m x F k w = m := by
  refine Prod.ext ?_ ?_
  · funext t i j
    show (if t = 17 ∧ i = 1 ∧ j = 2 then x else if t = 17 ∧ i = 1 ∧ j = 4 then nI k else if t = 19 ∧ i = 1 then w j else m.1 t i j) = _
    by_cases a : t = 17 ∧ i = 1 ∧ j = 2
    · rw [if_pos a, a.1, a.2.1, a.2.2, h2]
    · rw [if_neg a]
      by_cases b : t = 17 ∧ i = 1 ∧ j = 4
      · rw [if_pos b, b.1, b.2.1, b.2.2, h4]
      · rw [if_neg b]
        by_cases c : t = 19 ∧ i = 1
        · rw [if_pos c, c.1, c.2, h19]
        · rw [if_neg c]
  · funext t i j
    show (if t = 17 ∧ i = 1 ∧ j = 3 then F else m.2 t i j) = _
    by_cases a : t = 17 ∧ i = 1 ∧ j = 3
    · rw [if_pos a, a.1, a.2.1, a.2.2, h3]
    · rw [if_neg a]
theorem c_last (hT : CT m T n) {y : Nat} (hy : y < n) (Q : Int32 → Prop) : w_X4_isLastOfLine (nI y) m Q ↔ if n ≤ y + 1 ∨ T (y + 1) = 59 then Q 1 else Q 0 := by
  obtain ⟨t1, t2, t3⟩ := hT
  unfold w_X4_isLastOfLine
  rw [t1, nI_1]
  by_cases h : n ≤ y + 1
  · have hle : nI n ≤ nI (y + 1) := (le_nI (by omega) (by omega)).mpr h
    simp only [hle, h, true_or, not_true_eq_false, not_false_eq_true, false_implies, true_implies, true_and, and_true, forall_eq, if_true, if_false, reduceIte]
  · have hle : ¬ nI n ≤ nI (y + 1) := fun z => h ((le_nI (by omega) (by omega)).mp z)
    have hv : vp_in (nI (y + 1)) 60 := vp_in_nI (by omega) (by decide)
    have ht : (nI (y + 1)).toNatClampNeg = y + 1 := rs_tn (by omega)
    rw [ht, t3 (y + 1) (by omega)]
    by_cases h59 : T (y + 1) = 59
    · simp only [hle, h, h59, hv, or_true, not_true_eq_false, not_false_eq_true, false_implies, true_implies, true_and, and_true, forall_eq, if_true, if_false, reduceIte]
    · simp only [hle, h, h59, hv, false_or, not_true_eq_false, not_false_eq_true, false_implies, true_implies, true_and, and_true, forall_eq, if_true, if_false, reduceIte]
/-- related while the class's saving rests -/
def RR (a s : Nat) (m M : Mm) : Prop := Rel a s (sI m 12 1 5 0) M ∧ m.1 12 1 5 = 1
theorem un_1 (m : Mm) {t j q : Nat} (h : ¬ t = 12) : (sI m 12 1 5 0).1 t j q = m.1 t j q := sI_ne (fun z => h z.1)
theorem RR.rs (h : RR a s m M) : RS m 1 (M.1 32 1) := h.1.rs.frame (by decide) h.1.inv.mo16 h.1.inv.mr12 (fun t j q ho => ⟨(un_1 m (fun z => by rw [z, own0 (by decide)] at ho; omega)).symm, rfl⟩)
theorem RR.step {g : Nat → Int32} {s' : Nat} (h : RR a s m M) (hF : Fr 1 m m') (hR : RS m' 1 g) (hI : Inv a s' g) (hs : s ≤ s') : RR a s' m' (st M g) := by
  have h5 : m'.1 12 1 5 = 1 := by rw [(hF 12 1 5 (by decide)).1]; exact h.2
  refine ⟨h.1.step (fun t j q ho => ?_) (hR.frame (by decide) hI.mo16 hI.mr12 (fun t j q ho => ⟨un_1 m' (fun z => by rw [z, own0 (by decide)] at ho; omega), rfl⟩)) hI (Nat.le_refl _) hs, h5⟩
  refine ⟨?_, (hF t j q ho).2⟩
  show (if t = 12 ∧ j = 1 ∧ q = 5 then (0 : Int32) else m'.1 t j q) = if t = 12 ∧ j = 1 ∧ q = 5 then (0 : Int32) else m.1 t j q
  rw [(hF t j q ho).1]
theorem RR.jrn (h : RR a s m M) (x : Int32) (F k : Nat) (w : Nat → Int32) : RR a s (jc m x F k w) M := by
  refine ⟨h.1.oth (fun t i j ht => ?_) (fun t i j ht => (jc_r m x F k w (by omega) : (jc m x F k w).2 t i j = m.2 t i j)), by rw [jc_o _ _ _ _ _ (by decide) (by decide)]; exact h.2⟩
  show (if t = 12 ∧ i = 1 ∧ j = 5 then (0 : Int32) else (jc m x F k w).1 t i j) = if t = 12 ∧ i = 1 ∧ j = 5 then (0 : Int32) else m.1 t i j
  rw [jc_o _ _ _ _ _ (by omega) (by omega)]
theorem RR.jvm (h : RR a s m M) (c : Nat → Int32) : RR a s m (jv M c) := ⟨h.1.jvm c, h.2⟩
theorem st_jv (M : Mm) (c g : Nat → Int32) : st (jv M c) g = jv (st M g) c := by
  refine Mm_ext (fun t i j => ?_) rfl
  show (if t = 32 ∧ i = 1 then g j else if t = 30 ∧ i = 1 ∧ 9 ≤ j ∧ j ≤ 15 then c j else M.1 t i j) = if t = 30 ∧ i = 1 ∧ 9 ≤ j ∧ j ≤ 15 then c j else if t = 32 ∧ i = 1 then g j else M.1 t i j
  by_cases h : t = 32 ∧ i = 1
  · rw [if_pos h, if_neg (by omega), if_pos h]
  · rw [if_neg h, if_neg h]
theorem TM.st (h : TM M T n) (g : Nat → Int32) : TM (st M g) T n := by
  obtain ⟨h1, h2, h3⟩ := h
  exact ⟨by rw [st_ne _ _ (by decide)]; exact h1, h2, fun j hj => by rw [st_ne _ _ (by decide)]; exact h3 j hj⟩
theorem CT.fr (h : CT m T n) (hF : Fr 1 m m') : CT m' T n := by
  obtain ⟨h1, h2, h3⟩ := h
  exact ⟨by rw [(hF 17 1 1 (by decide)).1]; exact h1, h2, fun j hj => by rw [(hF 18 1 j (by decide)).1]; exact h3 j hj⟩
theorem lts_ne {y : Int32} (h : ¬ fm y = 0) : lts y ≠ [] := by
  obtain ⟨s0, r0, hl⟩ := fL_ne (fm_ok y h)
  unfold lts
  rw [hl]
  simp
/-- the end of the class's run -/
theorem c_runE (hT : CT m T n) {cnt y : Int32} {fl0 : Int32} (hfl : nI n ≤ y ∨ ¬ fl0 = 0) (f : Nat) (hQ : Q cnt (sI (sI m 12 1 5 0) 17 1 1 0)) : itr (α := Int32 × Int32 × Int32 × Mm) (fun K a => w_X9_run_B53 Q (fun z0 z1 z2 z3 => K (z0, z1, z2, z3)) a.1 a.2.1 a.2.2.1 a.2.2.2) (f + 1) (cnt, fl0, y, m) := by
  show w_X9_run_B53 Q (fun z0 z1 z2 z3 => itr (α := Int32 × Int32 × Int32 × Mm) (fun K a => w_X9_run_B53 Q (fun z0 z1 z2 z3 => K (z0, z1, z2, z3)) a.1 a.2.1 a.2.2.1 a.2.2.2) (f) (z0, z1, z2, z3)) cnt fl0 y m
  generalize (fun (z0 z1 z2 : Int32) (z3 : Mm) => itr (α := Int32 × Int32 × Int32 × Mm) (fun K a => w_X9_run_B53 Q (fun z0 z1 z2 z3 => K (z0, z1, z2, z3)) a.1 a.2.1 a.2.2.1 a.2.2.2) (f) (z0, z1, z2, z3)) = KK
  unfold w_X9_run_B53 w_X4_wipe
  rw [hT.1]
  simp only [forall_eq]
  by_cases hle : nI n ≤ y
  · exact ⟨fun _ => hQ, fun z => absurd hle z⟩
  · have h0 : ¬ fl0 = 0 := by
      rcases hfl with h | h
      · exact absurd h hle
      · exact h
    exact ⟨fun z => absurd z hle, fun _ => ⟨fun _ => hQ, fun z => absurd z h0⟩⟩
/-- the reference does a line, and goes on -/
theorem m_rline (hM : TM M T n) {c : Nat → Int32} (h9 : c 9 = nI p) (hlt : p < n) (hs : ¬ fm (T p) = 0) (hok : (fl T n (lts (T p)) (p + 1)).2.2 = true) (Qm : Int32 → Mm → Prop) (KK : Int32 → Int32 → Mm → Prop) (hgo : ∀ c', after (up c 9 (nI (p + 1))) c' (fl T n (lts (T p)) (p + 1)) → w_X10_does (T p) (jv M c') (fun r m35 => (r = 0 → w_X10_reads_J107 Qm KK 0 m35) ∧ (¬ r = 0 → w_X10_reads_J107 Qm KK 1 m35))) : w_X10_reads_B19 Qm KK 1 1 (jv M c) := by
  obtain ⟨t1, t2, t3⟩ := hM.jv c
  have e9 : (jv M c).1 30 1 9 = nI p := by rw [jv_in _ _ (by decide), h9]
  have hne : ¬ nI p = nI n := fun z => by have := (nI_eq (by omega) (by omega)).mp z; omega
  have hv : vp_in (nI p) 60 := vp_in_nI (by omega) (by decide)
  have ht : (nI p).toNatClampNeg = p := rs_tn (by omega)
  unfold w_X10_reads_B19 w_X10_reads_J106
  simp only [z10, e9, t1, hne, hv, ht, t3 p hlt, m_isSign, hs, nI_1, jv_sI M c (show 9 ≤ 9 ∧ 9 ≤ 15 by decide), not_true_eq_false, not_false_eq_true, false_implies, true_implies, true_and, and_true, forall_eq, if_true, if_false, reduceIte]
  refine m_line hM (up_eq _ _ _) (by omega) _ hs _ (fun c' ha => ?_)
  rw [hok]
  exact ⟨fun _ => hgo c' ha, fun z => absurd z z10⟩
theorem m_rend (hM : TM M T n) {c : Nat → Int32} (f : Nat) (y : Int32) (Qm : Int32 → Mm → Prop) (hq : ∀ z c', c' 15 = c 15 → Qm z (jv M c')) : itr (α := Int32 × Int32 × Mm) (fun K a => w_X10_reads_B19 Qm (fun z0 z1 z2 => K (z0, z1, z2)) a.1 a.2.1 a.2.2) (f + 1) (y, 0, jv M c) := by
  show w_X10_reads_B19 Qm (fun z0 z1 z2 => itr (α := Int32 × Int32 × Mm) (fun K a => w_X10_reads_B19 Qm (fun z0 z1 z2 => K (z0, z1, z2)) a.1 a.2.1 a.2.2) (f) (z0, z1, z2)) y 0 (jv M c)
  generalize (fun (z0 z1 : Int32) (z2 : Mm) => itr (α := Int32 × Int32 × Mm) (fun K a => w_X10_reads_B19 Qm (fun z0 z1 z2 => K (z0, z1, z2)) a.1 a.2.1 a.2.2) (f) (z0, z1, z2)) = KK
  unfold w_X10_reads_B19
  simp only [jv_sI M _ (show 9 ≤ 14 ∧ 14 ≤ 15 by decide), not_true_eq_false, not_false_eq_true, false_implies, true_implies, true_and, and_true, forall_eq, if_true, if_false, reduceIte]
  exact hq _ _ (up_ne _ _ (by decide))
end SEM35
