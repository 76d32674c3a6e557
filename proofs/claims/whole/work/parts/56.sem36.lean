section SEM36
variable {T : Nat → Int32} {n a : Nat} {Q : Int32 → Mm → Prop}
def rBody (n : Nat) (Q : Int32 → Mm → Prop) (cnt y : Nat) (m25 : Mm) : Prop := w_X4_isLastOfLine (nI y) m25 (fun r_26 => ((r_26 = 0 → ∀ x_29 : Int32, x_29 = nI y + 1 → (fun (z0 z1 z2 : Int32) (z3 : Mm) => itr (α := Int32 × Int32 × Int32 × Mm) (fun K a => w_X9_run_B53 Q (fun z0 z1 z2 z3 => K (z0, z1, z2, z3)) a.1 a.2.1 a.2.2.1 a.2.2.2) (n - y) (z0, z1, z2, z3)) (nI cnt) 0 x_29 m25) ∧ (¬ r_26 = 0 → w_X1_carryOutLine (m25.1 17 1 2) m25 (fun r_30 m31 => ((0 ≤ r_30 → w_X9_run_J125 (nI cnt) (nI y) m31 (fun (z0 z1 z2 : Int32) (z3 : Mm) => itr (α := Int32 × Int32 × Int32 × Mm) (fun K a => w_X9_run_B53 Q (fun z0 z1 z2 z3 => K (z0, z1, z2, z3)) a.1 a.2.1 a.2.2.1 a.2.2.2) (n - y) (z0, z1, z2, z3)) 0) ∧ (¬ 0 ≤ r_30 → w_X9_run_J125 (nI cnt) (nI y) m31 (fun (z0 z1 z2 : Int32) (z3 : Mm) => itr (α := Int32 × Int32 × Int32 × Mm) (fun K a => w_X9_run_B53 Q (fun z0 z1 z2 z3 => K (z0, z1, z2, z3)) a.1 a.2.1 a.2.2.1 a.2.2.2) (n - y) (z0, z1, z2, z3)) 1))))))
theorem txp_1 {fu p : Nat} (h : (txp T n (fu + 1) p).2 = true) : p < n ∧ ¬ fm (T p) = 0 ∧ (fl T n (lts (T p)) (p + 1)).2.2 = true ∧ ((fl T n (lts (T p)) (p + 1)).1 < n → T (fl T n (lts (T p)) (p + 1)).1 = 59 ∧ (txp T n fu ((fl T n (lts (T p)) (p + 1)).1 + 1)).2 = true) := by
  unfold txp at h
  by_cases h1 : p < n ∧ ¬ fm (T p) = 0
  · rw [if_pos h1] at h
    by_cases h2 : (fl T n (lts (T p)) (p + 1)).2.2 = true
    · rw [if_pos h2] at h
      refine ⟨h1.1, h1.2, h2, fun h3 => ?_⟩
      rw [if_pos h3] at h
      by_cases h4 : T (fl T n (lts (T p)) (p + 1)).1 = 59
      · rw [if_pos h4] at h
        exact ⟨h4, h⟩
      · rw [if_neg h4] at h; cases h
    · rw [if_neg h2] at h; cases h
  · rw [if_neg h1] at h; cases h
theorem cvs_c {f g : Nat → Int32} {vs : List Nat} (e : ∀ j, 10 ≤ j → j ≤ 13 → f j = g j) (h : cvs g vs) : cvs f vs := by
  rcases vs with _ | ⟨x, _ | ⟨y, _ | ⟨z, _ | ⟨w, _ | ⟨q, r⟩⟩⟩⟩⟩
  · exact h
  · exact (e 10 (by decide) (by decide)).trans h
  · exact ⟨(e 11 (by decide) (by decide)).trans h.1, (e 12 (by decide) (by decide)).trans h.2⟩
  · exact h
  · exact ⟨(e 11 (by decide) (by decide)).trans h.1, (e 12 (by decide) (by decide)).trans h.2.1, (e 13 (by decide) (by decide)).trans h.2.2.1, (e 10 (by decide) (by decide)).trans h.2.2.2⟩
  · exact h
theorem c_runA (ha : 99999 ≤ a) : ∀ fu p s cnt m M x w, p ≤ n → n < p + fu → (txp T n fu p).2 = true → RR a s m M → CT m T n → TM M T n → w 0 = -1 → s + fu < 1000000 →
    (∀ r m' M' s', s' ≤ s + fu → RR a s' m' M' → CT m' T n → TM M' T n → M'.1 30 1 0 = M.1 30 1 0 → (∀ Qm : Int32 → Mm → Prop, (∀ z c', c' 15 = r → Qm z (jv M' c')) → ∀ c, c 9 = nI p → c 14 = 0 → c 15 = nI cnt → itr (α := Int32 × Int32 × Mm) (fun K a => w_X10_reads_B19 Qm (fun z0 z1 z2 => K (z0, z1, z2)) a.1 a.2.1 a.2.2) (fu + 1) (1, 1, jv M c)) → Q r (sI (sI m' 12 1 5 0) 17 1 1 0)) →
    itr (α := Int32 × Int32 × Int32 × Mm) (fun K a => w_X9_run_B53 Q (fun z0 z1 z2 z3 => K (z0, z1, z2, z3)) a.1 a.2.1 a.2.2.1 a.2.2.2) (n - p + 1) (nI cnt, 0, nI p, jc m x 0 0 w) := by
  intro fu
  induction fu with
  | zero => intro p s cnt m M x w hp hk; omega
  | succ fu ih =>
    intro p s cnt m M x w hp hk hwh hRR hC hM hw hs hfin
    obtain ⟨hlt, hfm, hok, hnext⟩ := txp_1 hwh
    have hF := fm_ok _ hfm
    obtain ⟨s0, r0, hl⟩ := fL_ne hF
    have hdr : (fL (fm (T p))).drop 0 = s0 :: r0 := hl
    have hlts : lts (T p) = s0 :: r0 := hl
    obtain ⟨l1, l2, l3⟩ := F_len hF
    have hn60 := hC.2.1
    have hStp : StpT m T n (fun _ _ => False) (fun y m' => itr (α := Int32 × Int32 × Int32 × Mm) (fun K a => w_X9_run_B53 Q (fun z0 z1 z2 z3 => K (z0, z1, z2, z3)) a.1 a.2.1 a.2.2.1 a.2.2.2) (n - y + 1) (nI cnt, 0, nI y, m')) (fun y m' => rBody n Q cnt y m') (fun y _ m' => rBody n Q cnt y m') := by
      refine ⟨fun y x F k w hy hR => ?_, fun y x F k w hy h59 hL => ?_, fun y x F k w h => h, fun y x F k w h => h.elim⟩
      · obtain ⟨u1, u2, u3⟩ := hC.jc x F k w
        have hle : ¬ nI n ≤ nI y := fun z => by have := (le_nI (by omega) (by omega)).mp z; omega
        have hv : vp_in (nI y) 60 := vp_in_nI (by omega) (by decide)
        have ht : (nI y).toNatClampNeg = y := rs_tn (by omega)
        show w_X9_run_B53 Q (fun (z0 z1 z2 : Int32) (z3 : Mm) => itr (α := Int32 × Int32 × Int32 × Mm) (fun K a => w_X9_run_B53 Q (fun z0 z1 z2 z3 => K (z0, z1, z2, z3)) a.1 a.2.1 a.2.2.1 a.2.2.2) (n - y) (z0, z1, z2, z3)) (nI cnt) 0 (nI y) (jc m x F k w)
        have hR : w_X4_reads (T y) (jc m x F k w) (fun _ m25 => rBody n Q cnt y m25) := hR
        unfold rBody at hR
        generalize (fun (z0 z1 z2 : Int32) (z3 : Mm) => itr (α := Int32 × Int32 × Int32 × Mm) (fun K a => w_X9_run_B53 Q (fun z0 z1 z2 z3 => K (z0, z1, z2, z3)) a.1 a.2.1 a.2.2.1 a.2.2.2) (n - y) (z0, z1, z2, z3)) = KK at hR ⊢
        unfold w_X9_run_B53
        rw [u1, ht, u3 y hy]
        exact ⟨fun z => absurd z hle, fun _ => ⟨fun z => absurd rfl z, fun _ => ⟨hv, hR⟩⟩⟩
      · show rBody n Q cnt y (jc m x F k w)
        unfold rBody
        rw [c_last (hC.jc x F k w) (by omega), if_neg (fun z => z.elim (fun z => by omega) h59)]
        refine ⟨fun _ => ?_, fun z => absurd rfl z⟩
        intro x29 e29
        rw [e29, nI_1]
        have e : n - y = n - (y + 1) + 1 := by omega
        show itr (α := Int32 × Int32 × Int32 × Mm) (fun K a => w_X9_run_B53 Q (fun z0 z1 z2 z3 => K (z0, z1, z2, z3)) a.1 a.2.1 a.2.2.1 a.2.2.2) (n - y) (nI cnt, 0, nI (y + 1), jc m x F k w)
        rw [e]
        exact hL
    -- the first number of the line has a digit
    have hdig : 48 ≤ T (p + 1) ∧ T (p + 1) ≤ 57 ∧ p + 1 < n := by
      rw [hlts] at hok
      cases hz : (nf T n s0 (p + 1)).2 with
      | none => rw [fl_none hz] at hok; cases hok
      | some v =>
        have hg := nv_gt hz
        have hd := nv_dig hg
        have hr := (nf_ok (T := T) (s := s0) (p := p + 1) (n := n) (by omega)).2.1
        have hg : p + 1 < (nf T n s0 (p + 1)).1 := hg
        exact ⟨hd.1, hd.2, by omega⟩
    have hbd := fl_bd (T := T) (n := n) (lts (T p)) (p + 1) (by omega) (lts_ne hfm) hok
    have hr := fl_rng (T := T) (n := n) (lts (T p)) (p + 1) (by omega)
    refine hStp.1 p x 0 0 w hlt ?_
    rw [c_letter, if_neg hfm]
    show rBody n Q cnt p (jc m (T p) (fm (T p)) 0 w)
    refine hStp.2.1 p _ _ _ _ hdig.2.2 (dig59 ⟨hdig.1, hdig.2.1⟩) ?_
    rw [hlts] at hbd hr hnext hok
    refine c_ln hStp hF r0 s0 0 (p + 1) w hdr (by omega) hw hok (fun w' v hw1 hw2 hw3 hw4 hw5 => ?_)
    show rBody n Q cnt ((fl T n (s0 :: r0) (p + 1)).1 - 1) (jc m (T p) (fm (T p)) ((fL (fm (T p))).length - 1) w')
    have hml : ∀ (c : Nat → Int32) (Qm : Int32 → Mm → Prop) (KM : Int32 → Int32 → Mm → Prop), c 9 = nI p → (∀ c', after (up c 9 (nI (p + 1))) c' (fl T n (s0 :: r0) (p + 1)) → w_X10_does (T p) (jv M c') (fun r m35 => (r = 0 → w_X10_reads_J107 Qm KM 0 m35) ∧ (¬ r = 0 → w_X10_reads_J107 Qm KM 1 m35))) → w_X10_reads_B19 Qm KM 1 1 (jv M c) := fun c Qm KM h9 hgo => by
      refine m_rline hM h9 hlt hfm (by rw [hlts]; exact hok) Qm KM (fun c' ha => hgo c' ?_)
      rw [hlts] at ha
      exact ha
    generalize hX : fl T n (s0 :: r0) (p + 1) = X at *
    have e1 : X.1 - 1 + 1 = X.1 := by omega
    have hlast : n ≤ X.1 ∨ T X.1 = 59 := by
      by_cases h3 : X.1 < n
      · exact Or.inr (hnext h3).1
      · exact Or.inl (by omega)
    have hCj := hC.jc (T p) (fm (T p)) ((fL (fm (T p))).length - 1) w'
    have hRj := hRR.jrn (T p) (fm (T p)) ((fL (fm (T p))).length - 1) w'
    unfold rBody
    rw [c_last hCj (by omega), e1, if_pos hlast, jc_2]
    refine ⟨fun z => absurd z z10, fun _ => ?_⟩
    have hj2 := jc_2 m (T p) (fm (T p)) ((fL (fm (T p))).length - 1) w'
    have hj4 := jc_4 m (T p) (fm (T p)) ((fL (fm (T p))).length - 1) w'
    have hj19 := jc_19 m (T p) (fm (T p)) ((fL (fm (T p))).length - 1) w'
    have hj3 := jc_3 m (T p) (fm (T p)) ((fL (fm (T p))).length - 1) w'
    generalize jc m (T p) (fm (T p)) ((fL (fm (T p))).length - 1) w' = mj at *
    refine E_run (f := M.1 32 1) hRj.rs hRj.1.inv ha (show s + 1 < 1000000 by omega) hRj.2 (T p) hfm X.2.1 (by rw [hlts]; exact hbd.1) (fun j hj => by rw [hlts] at hj ⊢; exact hbd.2 j hj) (fun j hj => ?_) ?_ ?_
    · rw [hlts] at hj
      rw [hj19 j]
      have := hw2 j hj
      rw [Nat.zero_add] at this
      exact this
    · -- the line is done
      intro r m' g hr0 hFr hR' hI' hdoes
      refine ⟨fun _ => ?_, fun z => absurd hr0 z⟩
      have hC' := hCj.fr hFr
      have hRR' : RR a (s + 1) m' (st M g) := hRj.step hFr hR' hI' (by omega)
      unfold w_X9_run_J125
      refine ⟨fun _ => ?_, fun z => absurd rfl z⟩
      intro x34 e34 x35 e35
      rw [e34, e35, nI_1, nI_1, e1]
      -- the reference, up to the line's end
      have hrm : ∀ (c : Nat → Int32) (Qm : Int32 → Mm → Prop) (KM : Int32 → Int32 → Mm → Prop), c 9 = nI p → c 14 = 0 → c 15 = nI cnt → (∀ c', c' 9 = nI X.1 → c' 14 = 0 → c' 15 = nI (cnt + 1) → (if X.1 < n then KM 1 1 (jv (st M g) (up c' 9 (nI (X.1 + 1)))) else KM 1 0 (jv (st M g) c'))) → w_X10_reads_B19 Qm KM 1 1 (jv M c) := fun c Qm KM h9 h14 h15 hKM => by
        refine hml c Qm KM h9 (fun c' hac => ?_)
        refine hdoes (jv M c') (by
          funext j
          exact jv_out _ _ (by omega)) ?_ _ ?_
        · have hcv := hac.2.2 hok
          have e : ∀ j, 10 ≤ j → j ≤ 13 → (jv M c').1 30 1 j = c' j := fun j h1 h2 => jv_in _ _ (by omega)
          exact cvs_c e hcv
        · refine ⟨fun z => absurd z z10, fun _ => ?_⟩
          rw [st_jv, m_tail (hM.st g) hac.1 hr.2 (Or.inr rfl)]
          have q15 : c' 15 + 1 = nI (cnt + 1) := by rw [hac.2.1 15 (by decide), up_ne _ _ (by decide), h15]; exact nI_1 cnt
          have q14 : c' 14 = 0 := by rw [hac.2.1 14 (by decide), up_ne _ _ (by decide), h14]
          have hK := hKM (up c' 15 (c' 15 + 1)) (by rw [up_ne _ _ (by decide)]; exact hac.1) (by rw [up_ne _ _ (by decide)]; exact q14) (by rw [up_eq]; exact q15)
          by_cases h3 : X.1 < n
          · rw [if_pos h3] at hK ⊢
            rw [if_pos (hnext h3).1]
            exact hK
          · rw [if_neg h3] at hK ⊢
            exact hK
      by_cases h3 : X.1 < n
      · obtain ⟨h59, hwh'⟩ := hnext h3
        obtain ⟨fu', hfu⟩ : ∃ q, fu = q + 1 := by
          cases fu with
          | zero => cases hwh'
          | succ q => exact ⟨q, rfl⟩
        have hnx' : X.1 + 1 < n ∧ ¬ fm (T (X.1 + 1)) = 0 := by
          rw [hfu] at hwh'
          obtain ⟨q1, q2, _⟩ := txp_1 hwh'
          exact ⟨q1, q2⟩
        have h59' : ¬ T (X.1 + 1) = 59 := fun z => hnx'.2 (by rw [z]; decide)
        -- the sign between two lines
        have heta : jc m' (T p) (fm (T p)) ((fL (fm (T p))).length - 1) w' = m' := jc_eta (by rw [(hFr 17 1 2 (by decide)).1]; exact hj2) (by rw [(hFr 17 1 4 (by decide)).1]; exact hj4) (fun j => by rw [(hFr 19 1 j (by decide)).1]; exact hj19 j) (by rw [(hFr 17 1 3 (by decide)).2]; exact hj3)
        have e2 : n - (X.1 - 1) = n - X.1 + 1 := by omega
        show itr (α := Int32 × Int32 × Int32 × Mm) (fun K a => w_X9_run_B53 Q (fun z0 z1 z2 z3 => K (z0, z1, z2, z3)) a.1 a.2.1 a.2.2.1 a.2.2.2) (n - (X.1 - 1)) (nI (cnt + 1), 0, nI X.1, m')
        rw [e2]
        have hv9 := (hw4 v rfl).2
        have hne : ¬ w' ((fL (fm (T p))).length - 1) = -1 := by rw [hw3]; exact nI_nm1 (by omega)
        have hg8 : gD (fm (T p)) ((fL (fm (T p))).length - 1 + 1) = 8 := gD_out (by omega)
        obtain ⟨u1, u2, u3⟩ := id hC'
        have hle : ¬ nI n ≤ nI X.1 := fun z => by have := (le_nI (by omega) (by omega)).mp z; omega
        have hv : vp_in (nI X.1) 60 := vp_in_nI (by omega) (by decide)
        have ht : (nI X.1).toNatClampNeg = X.1 := rs_tn (by omega)
        have hgoal : w_X4_reads (T X.1) m' (fun _ m25 => rBody n Q (cnt + 1) X.1 m25) := by
          rw [← heta, c_nodig hF (by omega) (by rw [h59]; decide), if_neg hne, hg8, if_pos (show T X.1 = sgn 8 from h59), if_pos h59]
          have hC2 := hC'.jc (T p) 0 0 (up w' 0 (-1))
          show rBody n Q (cnt + 1) X.1 (jc m' (T p) 0 0 (up w' 0 (-1)))
          unfold rBody
          rw [c_last hC2 h3, if_neg (fun z => z.elim (fun z => by omega) h59')]
          refine ⟨fun _ => ?_, fun z => absurd rfl z⟩
          intro x29 e29
          rw [e29, nI_1]
          have e : n - X.1 = n - (X.1 + 1) + 1 := by omega
          show itr (α := Int32 × Int32 × Int32 × Mm) (fun K a => w_X9_run_B53 Q (fun z0 z1 z2 z3 => K (z0, z1, z2, z3)) a.1 a.2.1 a.2.2.1 a.2.2.2) (n - X.1) (nI (cnt + 1), 0, nI (X.1 + 1), jc m' (T p) 0 0 (up w' 0 (-1)))
          rw [e]
          refine ih (X.1 + 1) (s + 1) (cnt + 1) m' (st M g) (T p) (up w' 0 (-1)) (by omega) (by omega) hwh' hRR' hC' (hM.st g) (up_eq _ _ _) (by omega) (fun r m'' M' s' h1 h2 h3' h4 h40 h5 => hfin r m'' M' s' (by omega) h2 h3' h4 (h40.trans (by rw [st_ne _ _ (by decide)])) (fun Qm hq c h9 h14 h15 => ?_))
          have h5' := h5 Qm hq
          show w_X10_reads_B19 Qm (fun z0 z1 z2 => itr (α := Int32 × Int32 × Mm) (fun K a => w_X10_reads_B19 Qm (fun z0 z1 z2 => K (z0, z1, z2)) a.1 a.2.1 a.2.2) (fu + 1) (z0, z1, z2)) 1 1 (jv M c)
          have h5' : ∀ c, c 9 = nI (X.1 + 1) → c 14 = 0 → c 15 = nI (cnt + 1) → (fun z0 z1 z2 => itr (α := Int32 × Int32 × Mm) (fun K a => w_X10_reads_B19 Qm (fun z0 z1 z2 => K (z0, z1, z2)) a.1 a.2.1 a.2.2) (fu + 1) (z0, z1, z2)) 1 1 (jv (st M g) c) := h5'
          generalize (fun (z0 z1 : Int32) (z2 : Mm) => itr (α := Int32 × Int32 × Mm) (fun K a => w_X10_reads_B19 Qm (fun z0 z1 z2 => K (z0, z1, z2)) a.1 a.2.1 a.2.2) (fu + 1) (z0, z1, z2)) = KM at h5' ⊢
          refine hrm c Qm KM h9 h14 h15 (fun c' q9 q14 q15 => ?_)
          rw [if_pos h3]
          exact h5' _ (up_eq _ _ _) (by rw [up_ne _ _ (by decide)]; exact q14) (by rw [up_ne _ _ (by decide)]; exact q15)
        show w_X9_run_B53 Q (fun (z0 z1 z2 : Int32) (z3 : Mm) => itr (α := Int32 × Int32 × Int32 × Mm) (fun K a => w_X9_run_B53 Q (fun z0 z1 z2 z3 => K (z0, z1, z2, z3)) a.1 a.2.1 a.2.2.1 a.2.2.2) (n - X.1) (z0, z1, z2, z3)) (nI (cnt + 1)) 0 (nI X.1) m'
        unfold rBody at hgoal
        generalize (fun (z0 z1 z2 : Int32) (z3 : Mm) => itr (α := Int32 × Int32 × Int32 × Mm) (fun K a => w_X9_run_B53 Q (fun z0 z1 z2 z3 => K (z0, z1, z2, z3)) a.1 a.2.1 a.2.2.1 a.2.2.2) (n - X.1) (z0, z1, z2, z3)) = KK at hgoal ⊢
        unfold w_X9_run_B53
        rw [u1, ht, u3 X.1 h3]
        exact ⟨fun z => absurd z hle, fun _ => ⟨fun z => absurd rfl z, fun _ => ⟨hv, hgoal⟩⟩⟩
      · have hXn : X.1 = n := by omega
        have e2 : n - (X.1 - 1) = 0 + 1 := by omega
        show itr (α := Int32 × Int32 × Int32 × Mm) (fun K a => w_X9_run_B53 Q (fun z0 z1 z2 z3 => K (z0, z1, z2, z3)) a.1 a.2.1 a.2.2.1 a.2.2.2) (n - (X.1 - 1)) (nI (cnt + 1), 0, nI X.1, m')
        rw [e2, hXn]
        refine c_runE hC' (Or.inl (Int32.le_refl _)) 0 (hfin _ m' (st M g) (s + 1) (by omega) hRR' hC' (hM.st g) (by rw [st_ne _ _ (by decide)]) (fun Qm hq c h9 h14 h15 => ?_))
        show w_X10_reads_B19 Qm (fun z0 z1 z2 => itr (α := Int32 × Int32 × Mm) (fun K a => w_X10_reads_B19 Qm (fun z0 z1 z2 => K (z0, z1, z2)) a.1 a.2.1 a.2.2) (fu + 1) (z0, z1, z2)) 1 1 (jv M c)
        have hend : ∀ c', c' 15 = nI (cnt + 1) → (fun z0 z1 z2 => itr (α := Int32 × Int32 × Mm) (fun K a => w_X10_reads_B19 Qm (fun z0 z1 z2 => K (z0, z1, z2)) a.1 a.2.1 a.2.2) (fu + 1) (z0, z1, z2)) 1 0 (jv (st M g) c') := fun c' q15 => m_rend (hM.st g) fu 1 Qm (fun z c'' hc'' => hq z c'' (hc''.trans q15))
        generalize (fun (z0 z1 : Int32) (z2 : Mm) => itr (α := Int32 × Int32 × Mm) (fun K a => w_X10_reads_B19 Qm (fun z0 z1 z2 => K (z0, z1, z2)) a.1 a.2.1 a.2.2) (fu + 1) (z0, z1, z2)) = KM at hend ⊢
        refine hrm c Qm KM h9 h14 h15 (fun c' q9 q14 q15 => ?_)
        rw [if_neg h3]
        exact hend c' q15
    · -- the line is not done
      intro r hr0 hdoes
      refine ⟨fun z => absurd z hr0, fun _ => ?_⟩
      unfold w_X9_run_J125
      refine ⟨fun z => absurd z z10, fun _ => ?_⟩
      intro x36 e36 x37 e37
      rw [e36, e37, Int32.add_zero]
      have e2 : n - (X.1 - 1) = (n - X.1) + 1 := by omega
      show itr (α := Int32 × Int32 × Int32 × Mm) (fun K a => w_X9_run_B53 Q (fun z0 z1 z2 z3 => K (z0, z1, z2, z3)) a.1 a.2.1 a.2.2.1 a.2.2.2) (n - (X.1 - 1)) (nI cnt, 1, nI (X.1 - 1) + 1, mj)
      rw [e2]
      refine c_runE hCj (Or.inr z10) _ (hfin _ mj M s (by omega) hRj hCj hM rfl (fun Qm hq c h9 h14 h15 => ?_))
      show w_X10_reads_B19 Qm (fun z0 z1 z2 => itr (α := Int32 × Int32 × Mm) (fun K a => w_X10_reads_B19 Qm (fun z0 z1 z2 => K (z0, z1, z2)) a.1 a.2.1 a.2.2) (fu + 1) (z0, z1, z2)) 1 1 (jv M c)
      have hend : ∀ c', c' 15 = nI cnt → (fun z0 z1 z2 => itr (α := Int32 × Int32 × Mm) (fun K a => w_X10_reads_B19 Qm (fun z0 z1 z2 => K (z0, z1, z2)) a.1 a.2.1 a.2.2) (fu + 1) (z0, z1, z2)) 0 0 (jv M c') := fun c' q15 => m_rend hM fu 0 Qm (fun z c'' hc'' => hq z c'' (hc''.trans q15))
      have hcont : X.1 < n → ∀ c', c' 9 = nI (X.1 + 1) → c' 14 = 0 → c' 15 = nI cnt → (fun z0 z1 z2 => itr (α := Int32 × Int32 × Mm) (fun K a => w_X10_reads_B19 Qm (fun z0 z1 z2 => K (z0, z1, z2)) a.1 a.2.1 a.2.2) (fu + 1) (z0, z1, z2)) 0 1 (jv M c') := fun h3 c' q9 q14 q15 => m_r0 hM Qm fu (X.1 + 1) c' (by omega) (by omega) q9 q14 (fun c'' w9 w14 w15 => hq _ c'' (w15.trans q15))
      generalize (fun (z0 z1 : Int32) (z2 : Mm) => itr (α := Int32 × Int32 × Mm) (fun K a => w_X10_reads_B19 Qm (fun z0 z1 z2 => K (z0, z1, z2)) a.1 a.2.1 a.2.2) (fu + 1) (z0, z1, z2)) = KM at hend hcont ⊢
      refine hml c Qm KM h9 (fun c' hac => ?_)
      refine hdoes (jv M c') (by
        funext j
        exact jv_out _ _ (by omega)) ?_ _ ?_
      · have hcv := hac.2.2 hok
        have e : ∀ j, 10 ≤ j → j ≤ 13 → (jv M c').1 30 1 j = c' j := fun j h1 h2 => jv_in _ _ (by omega)
        exact cvs_c e hcv
      · refine ⟨fun _ => ?_, fun z => absurd rfl z⟩
        rw [m_tail hM hac.1 hr.2 (Or.inl rfl)]
        have q15 : c' 15 + 0 = nI cnt := by rw [Int32.add_zero, hac.2.1 15 (by decide), up_ne _ _ (by decide), h15]
        have q14 : c' 14 = 0 := by rw [hac.2.1 14 (by decide), up_ne _ _ (by decide), h14]
        by_cases h3 : X.1 < n
        · rw [if_pos h3, if_pos (hnext h3).1]
          exact hcont h3 _ (up_eq _ _ _) (by rw [up_ne _ _ (by decide), up_ne _ _ (by decide)]; exact q14) (by rw [up_ne _ _ (by decide), up_eq]; exact q15)
        · rw [if_neg h3]
          exact hend _ (by rw [up_eq]; exact q15)
end SEM36
