section SEM10
variable {m m' : Mm} {i a s : Nat} {f : Nat → Int32}
theorem sR_at (m : Mm) (t j q v : Nat) : (sR m t j q v).2 t j q = v := if_pos ⟨rfl, rfl, rfl⟩
theorem sR_ne {m : Mm} {t j q t' j' q' v : Nat} (h : ¬ (t' = t ∧ j' = j ∧ q' = q)) : (sR m t j q v).2 t' j' q' = m.2 t' j' q' := if_neg h
/-- a part is gone -/
theorem c_losePart (hR : RS m i f) (h12 : mr f ≤ 12) (h16 : mo f ≤ 16) {e : Nat} (he : e < mo f) (h0 : 0 < en f e 2) (hi : 1 ≤ i) (w : Int32) (Q : Mm → Prop) (hq : ∀ m', m'.2 = m.2 → Fr i m m' → RS m' i (partG f e w) → Q m') : w_X2_losePart (m.2 7 i e) w m Q := by
  have hn0 : ¬ en f e 2 = 0 := fun z => by rw [z] at h0; exact absurd h0 (by decide)
  have hown : own 3 (m.2 7 i e) = i := own3 hi (hR.2.2.2.2.2.2.1 e (by omega))
  unfold w_X2_losePart w_X2_shareOf
  rw [hR.e2 he, hR.e3 he]
  simp only [h0, hn0, forall_eq, not_true_eq_false, not_false_eq_true, false_implies, true_implies, true_and, and_true, forall_eq, if_true, if_false, reduceIte]
  refine hq _ rfl (Fr.trans (Fr.sI m _ _ hown) (Fr.sI _ _ _ hown)) ?_
  have h1 := hR.pe h12 h16 he (q := 3) (by decide) (en f e 3 - en f e 3 * w / en f e 2)
  have h2 := h1.pe (by rw [mr_up _ _ (by omega)]; exact h12) (by rw [mo_up _ _ (by omega)]; exact h16) (e := e) (by rw [mo_up _ _ (by omega)]; exact he) (q := 2) (by decide) (en f e 2 - w)
  have e2 : (sI m 3 (m.2 7 i e) 3 (en f e 3 - en f e 3 * w / en f e 2)).1 3 (m.2 7 i e) 2 = en f e 2 := by
    rw [sI_ne (fun z => absurd z.2.2 (by decide))]
    exact hR.e2 he
  rw [e2]
  exact h2
def cm (m : Mm) (i : Nat) (h : Nat → Nat) : Mm := (m.1, fun t j q => if t = 7 ∧ j = i then h q else m.2 t j q)
def upN (h : Nat → Nat) (q v : Nat) : Nat → Nat := fun k => if k = q then v else h k
theorem cm_sR (m : Mm) (i : Nat) (h : Nat → Nat) (q v : Nat) : sR (cm m i h) 7 i q v = cm m i (upN h q v) := by
  unfold cm sR u3 upN
  refine Prod.ext rfl (funext fun t => funext fun j => funext fun k => ?_)
  show (if t = 7 ∧ j = i ∧ k = q then v else if t = 7 ∧ j = i then h k else m.2 t j k) = if t = 7 ∧ j = i then (if k = q then v else h k) else m.2 t j k
  by_cases h1 : t = 7 ∧ j = i
  · rw [if_pos h1, if_pos h1]
    by_cases h2 : k = q
    · rw [if_pos h2, if_pos ⟨h1.1, h1.2, h2⟩]
    · rw [if_neg h2, if_neg (fun z => h2 z.2.2)]
  · rw [if_neg h1, if_neg h1, if_neg (fun z => h1 ⟨z.1, z.2.1⟩)]
theorem cm_self (m : Mm) (i : Nat) : cm m i (m.2 7 i) = m := by
  unfold cm
  refine Prod.ext rfl (funext fun t => funext fun j => funext fun k => ?_)
  show (if t = 7 ∧ j = i then m.2 7 i k else m.2 t j k) = _
  split
  · rename_i h; rw [h.1, h.2]
  · rfl
theorem cm_7 (m : Mm) (i : Nat) (h : Nat → Nat) (q : Nat) : (cm m i h).2 7 i q = h q := if_pos ⟨rfl, rfl⟩
theorem cm_ne (m : Mm) (i : Nat) (h : Nat → Nat) {t j q : Nat} (ht : ¬ (t = 7 ∧ j = i)) : (cm m i h).2 t j q = m.2 t j q := if_neg ht
/-- the order of the row when the one at e goes to place j -/
def cl (e j p : Nat) : Nat := if j ≤ e then p else if p < e then p else if p < j then p + 1 else if p = j then e else p
theorem cl_inj {e j p q : Nat} (h : cl e j p = cl e j q) : p = q := by
  unfold cl at h
  split at h
  · exact h
  · split at h <;> split at h <;> (try split at h) <;> (try split at h) <;> (try split at h) <;> (try split at h) <;> omega
theorem cl_lt {e j p n : Nat} (he : e < n) (hj : j < n) (hp : p < n) : cl e j p < n := by
  unfold cl
  split
  · exact hp
  · split
    · exact hp
    · split
      · omega
      · split <;> omega
def clG (i r : Nat) (j : Nat) (m : Mm) : Mm := if m.2 7 i j = r then sR (sR m 7 i j (m.2 7 i (j + 1))) 7 i (j + 1) r else m
theorem cl_eq (hp : ∀ j k, j < 16 → k < 16 → m.2 7 i j = m.2 7 i k → j = k) {e : Nat} (he : e < 16) : ∀ j, j < 16 → fo (clG i (m.2 7 i e)) j m = cm m i (fun p => m.2 7 i (cl e j p)) := by
  intro j
  induction j with
  | zero =>
    intro _
    have : (fun p => m.2 7 i (cl e 0 p)) = m.2 7 i := by
      funext p
      unfold cl
      rw [if_pos (by omega)]
    rw [this, cm_self]
    rfl
  | succ j ih =>
    intro hj
    show clG i (m.2 7 i e) j (fo (clG i (m.2 7 i e)) j m) = _
    rw [ih (by omega)]
    unfold clG
    rw [cm_7, cm_7]
    by_cases h : m.2 7 i (cl e j j) = m.2 7 i e
    · have h1 : cl e j j = e := hp _ _ (cl_lt he (by omega) (by omega)) he h
      rw [if_pos h, cm_sR, cm_sR]
      congr 1
      funext p
      unfold upN
      have hje : e ≤ j := by
        unfold cl at h1
        split at h1
        · omega
        · omega
      by_cases h2 : p = j + 1
      · subst h2
        rw [if_pos rfl]
        have : cl e (j + 1) (j + 1) = e := by
          unfold cl
          rw [if_neg (by omega), if_neg (by omega), if_neg (by omega), if_pos rfl]
        rw [this]
      · rw [if_neg h2]
        by_cases h3 : p = j
        · subst h3
          rw [if_pos rfl]
          congr 1
          unfold cl
          by_cases h4 : p ≤ e
          · rw [if_pos h4, if_neg (by omega), if_neg (by omega), if_pos (by omega)]
          · rw [if_neg h4, if_neg (by omega), if_neg (by omega), if_neg (by omega), if_neg (by omega), if_neg (by omega), if_pos (by omega)]
        · rw [if_neg h3]
          show m.2 7 i (cl e j p) = m.2 7 i (cl e (j + 1) p)
          refine congrArg (m.2 7 i) ?_
          unfold cl
          repeat' split
          all_goals omega
    · rw [if_neg h]
      congr 1
      funext p
      congr 1
      have hje : j < e := by
        rcases Nat.lt_or_ge j e with z | z
        · exact z
        · exfalso
          apply h
          refine congrArg (m.2 7 i) ?_
          unfold cl
          by_cases h4 : j ≤ e
          · rw [if_pos h4]; omega
          · rw [if_neg h4, if_neg (by omega), if_neg (by omega), if_pos rfl]
      unfold cl
      rw [if_pos (by omega), if_pos (by omega)]
theorem RS.close (h : RS m i f) (h12 : mr f ≤ 12) (ho : rng (f 117) 16) {e : Nat} (he : e < mo f) : RS (sI (cm m i (fun p => m.2 7 i (cl e (mo f - 1) p))) 1 i 1 (f 117 - 1)) i (closeF f e) := by
  have h16 : mo f ≤ 16 := ho.2
  have hmo : mo (closeF f e) = mo f - 1 := by
    unfold mo closeF
    rw [if_pos rfl, ho.1, show (1 : Int32) = nI 1 from rfl, pk_sub (by unfold mo at he; omega), rs_tn (by unfold mo at *; omega), rs_tn (by unfold mo at *; omega)]
  have hlo : ∀ k, k < 117 → closeF f e k = f k := fun k hk => by
    unfold closeF
    rw [if_neg (by omega), if_neg (by omega)]
  obtain ⟨h1, h2, h3, h4, h5, h6, h7⟩ := h
  refine ⟨fun q hq => ?_, fun q hq => ?_, fun c hc => ?_, fun k hk q hq => ?_, fun p hp q hq => ?_, fun r hr q hq => ?_, ?_, ?_, ?_, ?_⟩
  · by_cases z : q = 1
    · subst z
      rw [sI_at]
      show _ = closeF f e 117
      unfold closeF
      rw [if_pos rfl]
    · rw [sI_ne (fun y => z y.2.2)]
      show m.1 1 i q = _
      rw [h1 q hq, hlo]
      have : q = 0 ∨ q = 2 ∨ q = 3 ∨ q = 4 := by omega
      rcases this with rfl | rfl | rfl | rfl <;> decide
  · show m.1 2 i q = _
    have := mix_rng hq
    rw [h2 q hq, hlo _ (by omega)]
  · show m.1 5 _ 0 = _ ∧ m.1 5 _ 1 = _
    rw [hlo _ (by omega), hlo _ (by omega)]
    exact h3 c hc
  · show m.1 6 _ q = _
    have := kix_rng hk hq
    rw [hlo _ (by omega)]
    exact h4 k hk q hq
  · rw [hmo] at hp
    show m.1 3 ((cm m i (fun p => m.2 7 i (cl e (mo f - 1) p))).2 7 i p) q = _
    rw [cm_7]
    have hcl : cl e (mo f - 1) p = if p < e then p else p + 1 := by
      unfold cl
      by_cases z : mo f - 1 ≤ e
      · rw [if_pos z, if_pos (by omega)]
      · rw [if_neg z]
        by_cases y : p < e
        · rw [if_pos y, if_pos y]
        · rw [if_neg y, if_neg y, if_pos hp]
    have hx : cl e (mo f - 1) p < mo f := by rw [hcl]; split <;> omega
    rw [h5 _ hx q hq]
    have hen : ∀ q, q < 8 → en (closeF f e) p q = en f (cl e (mo f - 1) p) q := by
      intro q hq
      rw [hcl]
      unfold en closeF
      rw [if_neg (by omega)]
      by_cases y : p < e
      · rw [if_neg (by omega), if_pos y]
      · rw [if_pos (by omega), if_neg y]
        exact congrArg f (by omega)
    unfold ev
    rw [hen q hq, hlo 0 (by omega)]
  · have hmr : mr (closeF f e) = mr f := by
      unfold mr
      rw [hlo _ (by omega)]
    rw [hmr] at hr
    show m.1 4 (m.2 8 i r) q = _
    rw [h6 r hr q hq]
    unfold rc
    rw [hlo _ (by omega)]
  · intro j hj
    show 16 * (i - 1) < (cm m i (fun p => m.2 7 i (cl e (mo f - 1) p))).2 7 i j ∧ (cm m i (fun p => m.2 7 i (cl e (mo f - 1) p))).2 7 i j ≤ 16 * i
    rw [cm_7]
    exact h7.1 _ (cl_lt (by omega) (by omega) hj)
  · intro j k hj hk hh
    have hh : (cm m i (fun p => m.2 7 i (cl e (mo f - 1) p))).2 7 i j = (cm m i (fun p => m.2 7 i (cl e (mo f - 1) p))).2 7 i k := hh
    rw [cm_7, cm_7] at hh
    exact cl_inj (h7.2.1 _ _ (cl_lt (by omega) (by omega) hj) (cl_lt (by omega) (by omega) hk) hh)
  · exact h7.2.2.1
  · exact h7.2.2.2
theorem Fr.cm (m : Mm) (i : Nat) (h : Nat → Nat) : Fr i m (cm m i h) := fun t j q hn => ⟨rfl, cm_ne m i h (fun z => hn (by rw [z.1, z.2]; rfl))⟩
theorem c_closeIfEmpty (hR : RS m i f) (h12 : mr f ≤ 12) (ho : rng (f 117) 16) (hi : 1 ≤ i ∧ i ≤ 9) {e : Nat} (he : e < mo f) (Q : Mm → Prop) (hq1 : en f e 2 ≤ 0 → ∀ m', m'.1 3 = m.1 3 → Fr i m m' → RS m' i (closeF f e) → Q m') (hq2 : ¬ en f e 2 ≤ 0 → Q m) : w_X8_closeIfEmpty i (m.2 7 i e) m Q := by
  have h16 : mo f ≤ 16 := ho.2
  unfold w_X8_closeIfEmpty
  rw [hR.e2 he]
  refine ⟨fun hz => ?_, hq2⟩
  have hp := hR.2.2.2.2.2.2.2.1
  have hopn := hR.opn
  have hfin := hq1 hz (sI (cm m i (fun p => m.2 7 i (cl e (mo f - 1) p))) 1 i 1 (f 117 - 1)) rfl ((Fr.cm m i _).trans (Fr.sI _ _ _ (own1 i))) (hR.close h12 ho he)
  have hce := fun j hj => cl_eq (m := m) (i := i) hp (show e < 16 by omega) j hj
  refine (itr_for (α := Int32 × Mm) _ (fun j z => (nI j, z)) (mo f - 1) (clG i (m.2 7 i e)) m (Q (sI (cm m i (fun p => m.2 7 i (cl e (mo f - 1) p))) 1 i 1 (f 117 - 1))) (fun K j hj => ?_) (fun K => ?_)).mpr hfin
  · show w_X8_closeIfEmpty_B10 i (m.2 7 i e) Q (fun z0 z1 => K (z0, z1)) (nI j) (fo (clG i (m.2 7 i e)) j m) ↔ K (nI (j + 1), clG i (m.2 7 i e) j (fo (clG i (m.2 7 i e)) j m))
    rw [hce j (by omega)]
    have hle : ((cm m i (fun p => m.2 7 i (cl e j p))).1 1 i 1 ≤ nI (j + 1)) = False := by
      show (m.1 1 i 1 ≤ nI (j + 1)) = False
      rw [hopn]
      exact mo_lt ho (by omega)
    have hv1 : vp_in (nI j) 16 := vp_in_nI (by omega) (by decide)
    have hv2 : vp_in (nI (j + 1)) 16 := vp_in_nI (by omega) (by decide)
    have ht1 : (nI j).toNatClampNeg = j := rs_tn (by omega)
    have ht2 : (nI (j + 1)).toNatClampNeg = j + 1 := rs_tn (by omega)
    have ok1 : ok 3 (m.2 7 i (cl e j j)) := hR.oke hi (cl_lt (by omega) (by omega) (by omega))
    have ok2 : ok 3 (m.2 7 i (cl e j (j + 1))) := hR.oke hi (cl_lt (by omega) (by omega) (by omega))
    unfold clG
    by_cases h : m.2 7 i (cl e j j) = m.2 7 i e
    · have ok1' : ok 3 (m.2 7 i e) := h ▸ ok1
      simp only [w_X8_closeIfEmpty_B10, nI_1, hle, hv1, hv2, ht1, ht2, cm_7, ok1', ok2, h, not_true_eq_false, not_false_eq_true, false_implies, true_implies, true_and, and_true, forall_eq, if_true, if_false, reduceIte]
    · simp only [w_X8_closeIfEmpty_B10, nI_1, hle, hv1, ht1, cm_7, ok1, h, not_true_eq_false, not_false_eq_true, false_implies, true_implies, true_and, and_true, forall_eq, if_true, if_false, reduceIte]
  · show w_X8_closeIfEmpty_B10 i (m.2 7 i e) Q (fun z0 z1 => K (z0, z1)) (nI (mo f - 1)) (fo (clG i (m.2 7 i e)) (mo f - 1) m) ↔ _
    rw [hce _ (by omega)]
    have e1 : (cm m i (fun p => m.2 7 i (cl e (mo f - 1) p))).1 1 i 1 = f 117 := hopn
    have hle : (f 117 ≤ nI (mo f - 1 + 1)) = True := by
      rw [show mo f - 1 + 1 = mo f by omega]
      exact mo_le ho
    simp only [w_X8_closeIfEmpty_B10, nI_1, e1, hle, not_true_eq_false, not_false_eq_true, false_implies, true_implies, true_and, and_true, forall_eq, if_true, if_false, reduceIte]
/-! a new entry -/
theorem mkF_lo (f : Nat → Int32) (kd w v c : Int32) {k : Nat} (h : k < 117) (h1 : ¬ k = 1) : mkF f kd w v c k = f k := by
  unfold mkF
  rw [up_ne _ _ h1, up_ne _ _ (by omega), up_ne _ _ (by omega), up_ne _ _ (by omega), up_ne _ _ (by omega), up_ne _ _ (by omega), up_ne _ _ (by omega), up_ne _ _ (by omega), up_ne _ _ (by omega), up_ne _ _ (by omega)]
theorem mkF_117 (f : Nat → Int32) (kd w v c : Int32) : mkF f kd w v c 117 = f 117 + 1 := by
  unfold mkF
  rw [up_ne _ _ (by decide), up_eq]
theorem mkF_1 (f : Nat → Int32) (kd w v c : Int32) : mkF f kd w v c 1 = f 1 + 1 := by
  unfold mkF
  rw [up_eq]
theorem mkF_en (f : Nat → Int32) (kd w v c : Int32) {e q : Nat} (hq : q < 8) (h : ¬ e = mo f) : en (mkF f kd w v c) e q = en f e q := by
  unfold mkF en
  rw [up_ne _ _ (by omega), up_ne _ _ (by omega), up_ne _ _ (by omega), up_ne _ _ (by omega), up_ne _ _ (by omega), up_ne _ _ (by omega), up_ne _ _ (by omega), up_ne _ _ (by omega), up_ne _ _ (by omega), up_ne _ _ (by omega)]
def mkV (f : Nat → Int32) (kd w v c : Int32) (q : Nat) : Int32 := if q = 0 then f 1 else if q = 1 then kd else if q = 2 then w else if q = 3 then v else if q = 4 then c else if q = 7 then 1 else 0
theorem mkF_new (f : Nat → Int32) (kd w v c : Int32) {q : Nat} (hq : q < 8) : en (mkF f kd w v c) (mo f) q = mkV f kd w v c q := by
  unfold mkF en mkV
  have : q = 0 ∨ q = 1 ∨ q = 2 ∨ q = 3 ∨ q = 4 ∨ q = 5 ∨ q = 6 ∨ q = 7 := by omega
  rcases this with rfl | rfl | rfl | rfl | rfl | rfl | rfl | rfl <;> (rw [up_ne _ _ (by omega), up_ne _ _ (by omega)] ; simp [up])
theorem mkF_mo {f : Nat → Int32} (ho : rng (f 117) 16) (kd w v c : Int32) : mo (mkF f kd w v c) = mo f + 1 := by
  have h := ho.2
  unfold mo at *
  rw [mkF_117, ho.1, nI_1, rs_tn (by omega), rs_tn (by omega)]
theorem RS.mk (h : RS m i f) (h12 : mr f ≤ 12) (ho : rng (f 117) 16) (hn : mo f < 16) {kd w v c : Int32} (e2 : m'.2 = m.2) (e3 : ∀ r q, ¬ r = m.2 7 i (mo f) → m'.1 3 r q = m.1 3 r q) (e4 : ∀ q, q < 8 → m'.1 3 (m.2 7 i (mo f)) q = if q = 5 ∨ q = 6 then f 0 else mkV f kd w v c q) (e5 : m'.1 1 i 1 = f 117 + 1 ∧ m'.1 1 i 2 = f 1 + 1) (e6 : ∀ q, ¬ q = 1 → ¬ q = 2 → m'.1 1 i q = m.1 1 i q) (e7 : ∀ t j q, ¬ t = 1 → ¬ t = 3 → m'.1 t j q = m.1 t j q) : RS m' i (mkF f kd w v c) := by
  obtain ⟨h1, h2, h3, h4, h5, h6, h7⟩ := h
  refine ⟨fun q hq => ?_, fun q hq => ?_, fun c' hc => ?_, fun k hk q hq => ?_, fun p hp q hq => ?_, fun r hr q hq => ?_, ?_⟩
  · by_cases z1 : q = 1
    · subst z1
      rw [e5.1]
      exact (mkF_117 f kd w v c).symm
    · by_cases z2 : q = 2
      · subst z2
        rw [e5.2]
        exact (mkF_1 f kd w v c).symm
      · rw [e6 q z1 z2, h1 q hq]
        have : q = 0 ∨ q = 3 ∨ q = 4 := by omega
        rcases this with rfl | rfl | rfl <;> exact (mkF_lo f kd w v c (by decide) (by decide)).symm
  · have := mix_rng hq
    rw [e7 2 i q (by decide) (by decide), h2 q hq, mkF_lo _ _ _ _ _ (by omega) (by omega)]
  · rw [e7 5 _ 0 (by decide) (by decide), e7 5 _ 1 (by decide) (by decide), mkF_lo _ _ _ _ _ (by omega) (by omega), mkF_lo _ _ _ _ _ (by omega) (by omega)]
    exact h3 c' hc
  · have := kix_rng hk hq
    rw [e7 6 _ q (by decide) (by decide), mkF_lo _ _ _ _ _ (by omega) (by omega)]
    exact h4 k hk q hq
  · rw [mkF_mo ho] at hp
    rw [e2]
    unfold ev
    rw [mkF_lo f kd w v c (k := 0) (by decide) (by decide)]
    by_cases z : p = mo f
    · subst z
      rw [e4 q hq, mkF_new f kd w v c hq]
      by_cases y : q = 5 ∨ q = 6
      · rw [if_pos y, if_pos y]
        have : mkV f kd w v c q = 0 := by
          unfold mkV
          rcases y with rfl | rfl <;> rfl
        rw [this, Int32.sub_zero]
      · rw [if_neg y, if_neg y]
    · rw [e3 _ _ (fun y => z (h7.2.1 _ _ (by omega) (by omega) y)), mkF_en f kd w v c hq z]
      exact h5 p (by omega) q hq
  · have : mr (mkF f kd w v c) = mr f := by
      unfold mr
      rw [mkF_lo _ _ _ _ _ (by decide) (by decide)]
    rw [this] at hr
    rw [e2, e7 4 _ q (by decide) (by decide), h6 r hr q hq]
    unfold rc
    rw [mkF_lo _ _ _ _ _ (by omega) (by omega)]
  · unfold RSp
    rw [e2]
    exact h7
end SEM10

