section SEM11
variable {m m' : Mm} {i a s : Nat} {f : Nat → Int32}
theorem sI_1 (m : Mm) (t j q t' j' q' : Nat) (v : Int32) : (sI m t j q v).1 t' j' q' = if t' = t ∧ j' = j ∧ q' = q then v else m.1 t' j' q' := rfl
theorem sI_2 (m : Mm) (t j q : Nat) (v : Int32) : (sI m t j q v).2 = m.2 := rfl
theorem sR_1 (m : Mm) (t j q v : Nat) : (sR m t j q v).1 = m.1 := rfl
def c8 (m : Mm) (i : Nat) (h : Nat → Nat) : Mm := (m.1, fun t j q => if t = 8 ∧ j = i then h q else m.2 t j q)
theorem c8_sR (m : Mm) (i : Nat) (h : Nat → Nat) (q v : Nat) : sR (c8 m i h) 8 i q v = c8 m i (upN h q v) := by
  unfold c8 sR u3 upN
  refine Prod.ext rfl (funext fun t => funext fun j => funext fun k => ?_)
  show (if t = 8 ∧ j = i ∧ k = q then v else if t = 8 ∧ j = i then h k else m.2 t j k) = if t = 8 ∧ j = i then (if k = q then v else h k) else m.2 t j k
  by_cases h1 : t = 8 ∧ j = i
  · rw [if_pos h1, if_pos h1]
    by_cases h2 : k = q
    · rw [if_pos h2, if_pos ⟨h1.1, h1.2, h2⟩]
    · rw [if_neg h2, if_neg (fun z => h2 z.2.2)]
  · rw [if_neg h1, if_neg h1, if_neg (fun z => h1 ⟨z.1, z.2.1⟩)]
theorem c8_self (m : Mm) (i : Nat) : c8 m i (m.2 8 i) = m := by
  unfold c8
  refine Prod.ext rfl (funext fun t => funext fun j => funext fun k => ?_)
  show (if t = 8 ∧ j = i then m.2 8 i k else m.2 t j k) = _
  split
  · rename_i h; rw [h.1, h.2]
  · rfl
theorem c8_8 (m : Mm) (i : Nat) (h : Nat → Nat) (q : Nat) : (c8 m i h).2 8 i q = h q := if_pos ⟨rfl, rfl⟩
theorem c8_ne (m : Mm) (i : Nat) (h : Nat → Nat) {t j q : Nat} (ht : ¬ (t = 8 ∧ j = i)) : (c8 m i h).2 t j q = m.2 t j q := if_neg ht
theorem Fr.c8 (m : Mm) (i : Nat) (h : Nat → Nat) : Fr i m (c8 m i h) := fun t j q hn => ⟨rfl, c8_ne m i h (fun z => hn (by rw [z.1, z.2]; rfl))⟩
def rr (j p : Nat) : Nat := if 11 < p + j ∧ p ≤ 11 then p - 1 else p
def rrG (i : Nat) (j : Nat) (m : Mm) : Mm := sR m 8 i (11 - j) (m.2 8 i (10 - j))
theorem rr_eq (m : Mm) (i : Nat) : ∀ j, j ≤ 11 → fo (rrG i) j m = c8 m i (fun p => m.2 8 i (rr j p)) := by
  intro j
  induction j with
  | zero =>
    intro _
    have : (fun p => m.2 8 i (rr 0 p)) = m.2 8 i := by
      funext p
      unfold rr
      rw [if_neg (by omega)]
    rw [this, c8_self]
    rfl
  | succ j ih =>
    intro hj
    show rrG i j (fo (rrG i) j m) = _
    rw [ih (by omega)]
    unfold rrG
    rw [c8_8, c8_sR]
    congr 1
    funext p
    unfold upN
    by_cases h : p = 11 - j
    · rw [if_pos h]
      refine congrArg (m.2 8 i) ?_
      unfold rr
      rw [if_neg (by omega), if_pos (by omega)]
      omega
    · rw [if_neg h]
      show m.2 8 i (rr j p) = m.2 8 i (rr (j + 1) p)
      refine congrArg (m.2 8 i) ?_
      unfold rr
      by_cases h2 : 11 < p + j ∧ p ≤ 11
      · rw [if_pos h2, if_pos (by omega)]
      · rw [if_neg h2, if_neg (by omega)]
def rcM (m : Mm) (i : Nat) (n : Int32) : Mm := sI (c8 m i (upN (fun p => m.2 8 i (rr 11 p)) 0 (m.2 8 i 11))) 1 i 4 n
theorem c_addReceipt (hR : RS m i f) (hr : rng (f 68) 12) (hi : 1 ≤ i ∧ i ≤ 9) (Q : Nat → Mm → Prop) (hq : Q (m.2 8 i 11) (rcM m i (nI (mr1 f)))) : w_X8_addReceipt i m Q := by
  unfold w_X8_addReceipt
  have h12 : mr f ≤ 12 := hr.2
  refine (itr_for (α := Int32 × Mm) _ (fun j z => (nI (11 - j), z)) 11 (rrG i) m (Q (m.2 8 i 11) (rcM m i (nI (mr1 f)))) (fun K j hj => ?_) (fun K => ?_)).mpr hq
  · show w_X8_addReceipt_B11 i m Q (fun z0 z1 => K (z0, z1)) (nI (11 - j)) (fo (rrG i) j m) ↔ K (nI (11 - (j + 1)), rrG i j (fo (rrG i) j m))
    rw [rr_eq m i j (by omega)]
    have hle : ¬ nI (11 - j) ≤ 0 := nI_nle (by omega) (by omega)
    have h1 : nI (11 - j) - 1 = nI (10 - j) := by
      rw [show 11 - j = (10 - j) + 1 by omega, nI_pred]
    have h2 : nI (11 - j) + (-1) = nI (11 - (j + 1)) := by
      rw [show 11 - j = (10 - j) + 1 by omega, pk_m1]
      congr 1
      omega
    have hv1 : vp_in (nI (11 - j)) 12 := vp_in_nI (by omega) (by decide)
    have hv2 : vp_in (nI (10 - j)) 12 := vp_in_nI (by omega) (by decide)
    have ht1 : (nI (11 - j)).toNatClampNeg = 11 - j := rs_tn (by omega)
    have ht2 : (nI (10 - j)).toNatClampNeg = 10 - j := rs_tn (by omega)
    have ok1 : ok 4 (m.2 8 i (rr j (10 - j))) := hR.okr hi (by unfold rr; split <;> omega)
    simp only [w_X8_addReceipt_B11, hle, h1, h2, hv1, hv2, ht1, ht2, c8_8, ok1, rrG, not_true_eq_false, not_false_eq_true, false_implies, true_implies, true_and, and_true, forall_eq, if_true, if_false, reduceIte]
  · show w_X8_addReceipt_B11 i m Q (fun z0 z1 => K (z0, z1)) (nI 0) (fo (rrG i) 11 m) ↔ _
    rw [rr_eq m i 11 (Nat.le_refl _)]
    have hle : nI 0 ≤ 0 := by decide
    have ok1 : ok 4 (m.2 8 i 11) := hR.okr hi (by decide)
    have hrec : (c8 m i (upN (fun p => m.2 8 i (rr 11 p)) 0 (m.2 8 i 11))).1 1 i 4 = f 68 := hR.recs
    have hn : (if f 68 + 1 < 12 then f 68 + 1 else 12) = nI (mr1 f) := by
      rw [hr.1, nI_1, show (12 : Int32) = nI 12 from rfl]
      show (if nI (mr f + 1) < nI 12 then nI (mr f + 1) else nI 12) = _
      unfold mr1
      by_cases z : mr f + 1 < 12
      · rw [if_pos ((nI_ltI (by omega) (by decide)).mpr z), if_pos (by omega)]
      · rw [if_neg (fun q => z ((nI_ltI (by omega) (by decide)).mp q))]
        by_cases y : mr f < 12
        · rw [if_pos y]
          congr 1
          omega
        · rw [if_neg y]
          congr 1
          omega
    simp only [w_X8_addReceipt_B11, hle, ok1, c8_sR, hrec, hn, not_true_eq_false, not_false_eq_true, false_implies, true_implies, true_and, and_true, forall_eq, if_true, if_false, reduceIte]
    rfl
def flV (f : Nat → Int32) (kd w d : Int32) (q : Nat) : Int32 := if q = 0 then kd else if q = 1 then w else if q = 2 then d else f 0
theorem files_mr (f : Nat → Int32) (h12 : mr f ≤ 12) (kd w d : Int32) : mr (filesF f kd w d) = mr1 f := by
  unfold mr
  have : filesF f kd w d 68 = nI (mr1 f) := by
    unfold filesF
    rw [if_pos rfl]
  rw [this, rs_tn]
  unfold mr1
  split <;> omega
theorem RS.fl (h : RS m i f) (h12 : mr f ≤ 12) {kd w d : Int32} (e2 : ∀ t j q, ¬ (t = 8 ∧ j = i) → m'.2 t j q = m.2 t j q) (e8 : m'.2 8 i 0 = m.2 8 i 11) (e8' : ∀ j, 1 ≤ j → j < 12 → m'.2 8 i j = m.2 8 i (j - 1)) (e1 : m'.1 1 i 4 = nI (mr1 f)) (e1' : ∀ q, ¬ q = 4 → m'.1 1 i q = m.1 1 i q) (e4 : ∀ q, q < 4 → m'.1 4 (m.2 8 i 11) q = flV f kd w d q) (e4' : ∀ r q, ¬ r = m.2 8 i 11 → m'.1 4 r q = m.1 4 r q) (e7 : ∀ t j q, ¬ t = 1 → ¬ t = 4 → m'.1 t j q = m.1 t j q) : RS m' i (filesF f kd w d) := by
  have hmr := files_mr f h12 kd w d
  have h1r : mr1 f ≤ 12 := by unfold mr1; split <;> omega
  have h1s : mr1 f ≤ mr f + 1 := by unfold mr1; split <;> omega
  have hhi := fun k hk => files_hi f h12 (kd := kd) (w := w) (d := d) (k := k) hk
  obtain ⟨h1, h2, h3, h4, h5, h6, h7⟩ := h
  refine ⟨fun q hq => ?_, fun q hq => ?_, fun c' hc => ?_, fun k hk q hq => ?_, fun p hp q hq => ?_, fun r hr q hq => ?_, ?_, ?_, ?_, ?_⟩
  · by_cases z : q = 4
    · subst z
      rw [e1]
      show _ = filesF f kd w d 68
      unfold filesF
      rw [if_pos rfl]
    · rw [e1' q z, h1 q hq, hhi]
      have : q = 0 ∨ q = 1 ∨ q = 2 ∨ q = 3 := by omega
      rcases this with rfl | rfl | rfl | rfl <;> decide
  · have := mix_rng hq
    rw [e7 2 i q (by decide) (by decide), h2 q hq, hhi _ (by omega)]
  · rw [e7 5 _ 0 (by decide) (by decide), e7 5 _ 1 (by decide) (by decide), hhi _ (by omega), hhi _ (by omega)]
    exact h3 c' hc
  · have := kix_rng hk hq
    rw [e7 6 _ q (by decide) (by decide), hhi _ (by omega)]
    exact h4 k hk q hq
  · have : mo (filesF f kd w d) = mo f := by
      unfold mo
      rw [hhi _ (by omega)]
    rw [this] at hp
    rw [e2 7 i p (fun z => absurd z.1 (by decide)), e7 3 _ q (by decide) (by decide), h5 p hp q hq]
    unfold ev
    rw [en_files f h12, hhi 0 (by omega)]
  · rw [hmr] at hr
    by_cases z : r = 0
    · subst z
      rw [e8, e4 q hq]
      have : q = 0 ∨ q = 1 ∨ q = 2 ∨ q = 3 := by omega
      rcases this with rfl | rfl | rfl | rfl <;> (unfold rc filesF flV; simp)
    · have hne : ¬ m.2 8 i (r - 1) = m.2 8 i 11 := fun y => by
        have := h7.2.2.2 (r - 1) 11 (by omega) (by omega) y
        omega
      rw [e8' r (by omega) (by omega), e4' _ _ hne, h6 (r - 1) (by omega) q hq]
      unfold rc filesF
      rw [if_neg (by omega), if_neg (by omega), if_neg (by omega), if_neg (by omega), if_neg (by omega), if_pos (by omega)]
      exact congrArg f (by omega)
  · intro j hj
    rw [e2 7 i j (fun z => absurd z.1 (by decide))]
    exact h7.1 j hj
  · intro j k hj hk
    rw [e2 7 i j (fun z => absurd z.1 (by decide)), e2 7 i k (fun z => absurd z.1 (by decide))]
    exact h7.2.1 j k hj hk
  · intro j hj
    by_cases z : j = 0
    · subst z
      rw [e8]
      exact h7.2.2.1 11 (by omega)
    · rw [e8' j (by omega) hj]
      exact h7.2.2.1 (j - 1) (by omega)
  · intro j k hj hk hh
    have key : ∀ j, j < 12 → m'.2 8 i j = m.2 8 i (if j = 0 then 11 else j - 1) := by
      intro j hj
      by_cases z : j = 0
      · rw [if_pos z, z]; exact e8
      · rw [if_neg z]; exact e8' j (by omega) hj
    rw [key j hj, key k hk] at hh
    have := h7.2.2.2 _ _ (by split <;> omega) (by split <;> omega) hh
    split at this <;> split at this <;> omega
/-! goods come -/
theorem mk_congr {f g : Nat → Int32} (kd w v c : Int32) (h1 : g 1 = f 1) (h117 : g 117 = f 117) {k : Nat} (hk : g k = f k) : mkF g kd w v c k = mkF f kd w v c k := by
  have hm : mo g = mo f := by unfold mo; rw [h117]
  unfold mkF up
  rw [hm, h1, h117, hk]
theorem mk_tot (f : Nat → Int32) (kd w v c : Int32) {k q : Nat} (hk : k < 6) (hq : q < 6) (x : Int32) : totF (mkF f kd w v c) k q x = mkF (totF f k q x) kd w v c := by
  funext j
  unfold totF
  by_cases h : j = 32 + 6 * k + q
  · subst h
    rw [up_eq, mkF_lo _ _ _ _ _ (by omega) (by omega), mkF_lo _ _ _ _ _ (by omega) (by omega), up_eq]
  · rw [up_ne _ _ h]
    exact (mk_congr kd w v c (up_ne _ _ (by omega)) (up_ne _ _ (by omega)) (up_ne _ _ h)).symm
theorem lt16 {f : Nat → Int32} (ho : rng (f 117) 16) (h : ¬ 16 ≤ f 117) : mo f < 16 := by
  have h1 : mo f ≤ 16 := ho.2
  rw [show f 117 = nI (mo f) from ho.1, show (16 : Int32) = nI 16 from rfl, nI_leI (by decide) (by omega)] at h
  omega
theorem whyE0 {k : Nat} {w v c : Int32} (h : whyE f k w v c = 0) : f 4 ≤ 0 ∧ f (10 + c.toNatClampNeg) ≤ 0 ∧ w ≤ roomF f c ∧ ¬ 16 ≤ f 117 ∧ ¬ 60 ≤ f 1 ∧ stakeF f + dutyF f k v w 0 ≤ f 5 := by
  unfold whyE at h
  split at h
  · split at h
    · split at h
      · split at h
        · exact absurd h (by decide)
        · split at h
          · exact absurd h (by decide)
          · split at h
            · exact ⟨by assumption, by assumption, by assumption, by assumption, by assumption, by assumption⟩
            · exact absurd h (by decide)
      · exact absurd h (by decide)
    · exact absurd h (by decide)
  · exact absurd h (by decide)
variable {S : Mm → Prop} {Q : Int32 → Mm → Prop}
theorem d_bringIn (hR : RS m 1 f) (hI : Inv a s f) (hsv : ∀ Q' : Mm → Prop, (∀ m1, S m1 → Q' m1) → w_X3_save 1 m Q') (hS : ∀ m1, S m1 → RS m1 1 f) (k c : Nat) (w v : Int32) (hk : k < 6) (hc : c < 5) (hg : gds (nI k) w v (nI c))
    (h3 : ¬ whyE f k w v (nI c) = 0 → Q (-3) m) (h0 : whyE f k w v (nI c) = 0 → ∀ m1 m', S m1 → Fr 1 m1 m' → RS m' 1 (enterF f k w v (nI c)) → Q (f 1) m') : w_X1_bringIn (nI k) w v (nI c) m Q := by
  unfold w_X1_bringIn
  simp only [c_goods, hg, c_whyE hR hI i1 hk hc, z10, false_and, or_false, not_true_eq_false, not_false_eq_true, false_implies, true_implies, true_and, and_true, if_true, if_false, reduceIte]
  refine ⟨fun hw => ?_, h3⟩
  refine hsv _ (fun m8 h8 => ?_)
  have hR8 := hS m8 h8
  have hn : mo f < 16 := lt16 hI.opn (whyE0 hw).2.2.2.1
  have hv : vp_in (f 117) 16 := by rw [mo_nI hI.opn]; exact vp_in_nI hn (by decide)
  have hv6 : vp_in (nI k) 6 := vp_in_nI hk (by decide)
  have htk : (nI k).toNatClampNeg = k := rs_tn (by omega)
  have hox : own 3 (m8.2 7 1 (mo f)) = 1 := own3 (by decide) (hR8.2.2.2.2.2.2.1 _ hn)
  have hok : ok 3 (m8.2 7 1 (mo f)) := hR8.oke i1 hn
  have hday := hR8.day
  have hopn := hR8.opn
  have hmade := hR8.made
  have hmk := fun (z : Mm) => hR8.mk (m' := z) (kd := nI k) (w := w) (v := v) (c := nI c) hI.mr12 hI.opn hn
  unfold w_X8_addEntry
  rw [hopn, hmade]
  simp only [show (f 117).toNatClampNeg = mo f from rfl]
  refine ⟨hv, hok, ?_⟩
  generalize hr : m8.2 7 1 (mo f) = r at *
  intro m3 e3 m4 e4 m5 e5
  have a4 : m3.1 1 1 1 = f 117 := by rw [e3]; exact hopn
  rw [a4] at e4
  have a5 : m4.1 1 1 2 = f 1 := by rw [e4, e3]; exact hmade
  rw [a5] at e5
  refine ⟨hok, ?_⟩
  intro m12 e12 m13 e13 m14 e14 m15 e15 m16 e16 m17 e17 m18 e18
  have a16 : m15.1 1 1 0 = f 0 := by rw [e15, e14, e13, e12, e5, e4, e3]; exact hday
  rw [a16] at e16
  have a17 : m16.1 1 1 0 = f 0 := by rw [e16]; exact a16
  rw [a17] at e17
  refine ⟨hv6, ?_⟩
  rw [htk]
  intro m20 e20
  have hz : m18 = sI (sI (sI (sI (sI (sI (sI (sI (sI (sI m8 3 r 0 (f 1)) 1 1 1 (f 117 + 1)) 1 1 2 (f 1 + 1)) 3 r 1 (nI k)) 3 r 2 w) 3 r 3 v) 3 r 4 (nI c)) 3 r 5 (f 0)) 3 r 6 (f 0)) 3 r 7 1 := by
    rw [e18, e17, e16, e15, e14, e13, e12, e5, e4, e3]
  have hR18 : RS m18 1 (mkF f (nI k) w v (nI c)) := by
    refine hmk m18 ?_ ?_ ?_ ?_ ?_ ?_
    · rw [hz]; rfl
    · intro r' q hne
      rw [hz]
      simp [sI_1, hne]
    · intro q hq
      rw [hz]
      have : q = 0 ∨ q = 1 ∨ q = 2 ∨ q = 3 ∨ q = 4 ∨ q = 5 ∨ q = 6 ∨ q = 7 := by omega
      rcases this with rfl | rfl | rfl | rfl | rfl | rfl | rfl | rfl <;> simp [sI_1, mkV]
    · rw [hz]
      simp [sI_1]
    · intro q hq1 hq2
      rw [hz]
      simp [sI_1, hq1, hq2]
    · intro t j q ht1 ht3
      rw [hz]
      simp [sI_1, ht1, ht3]
  have hF18 : Fr 1 m8 m18 := by
    rw [hz]
    exact (((((((((Fr.sI m8 _ _ hox).trans (Fr.sI _ _ _ (own1 1))).trans (Fr.sI _ _ _ (own1 1))).trans (Fr.sI _ _ _ hox)).trans (Fr.sI _ _ _ hox)).trans (Fr.sI _ _ _ hox)).trans (Fr.sI _ _ _ hox)).trans (Fr.sI _ _ _ hox)).trans (Fr.sI _ _ _ hox)).trans (Fr.sI _ _ _ hox)
  have hk2 := hR18.k2 hk
  rw [hk2] at e20
  have hmr : mr (mkF f (nI k) w v (nI c)) ≤ 12 := by
    unfold mr
    rw [mkF_lo _ _ _ _ _ (by decide) (by decide)]
    exact hI.mr12
  have hfin := hR18.pk hmr hk (q := 2) (by decide) (mkF f (nI k) w v (nI c) (30 + 6 * k + 2) + w)
  have hkx : kix k 2 = 32 + 6 * k + 0 := by unfold kix; simp; omega
  have hkx2 : 30 + 6 * k + 2 = 32 + 6 * k + 0 := by omega
  rw [hkx, hkx2] at hfin
  rw [hkx2] at e20
  rw [← e20] at hfin
  have hfin2 : RS m20 1 (enterF f k w v (nI c)) := by
    unfold enterF
    rw [← mk_tot f (nI k) w v (nI c) hk (show 0 < 6 by decide) w]
    exact hfin
  have hQ := h0 hw m8 m20 h8 (hF18.trans (by rw [e20]; exact Fr.sI _ _ _ (own6 (by decide) hk))) hfin2
  have hnum : m20.1 3 r 0 = f 1 := by
    rw [e20, hz]
    simp [sI_1]
  rw [hnum]
  exact hQ
end SEM11

