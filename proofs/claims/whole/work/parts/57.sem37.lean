section SEM37
variable {m mc mm M : Mm} {T : Nat → Int32} {n a s : Nat} {K : Mm → Mm → Prop}
theorem Rel.clear (h : Rel a s mc mm) : Rel a s (sI mc 17 1 1 0) (sI mm 30 1 2 0) := by
  obtain ⟨hR, hI, ⟨g1, g2, g3, g4, g5, g6⟩, hp0, j1, j2, j3⟩ := h
  have hfr : ∀ {z : Nat} {y : Nat → Int32}, RS mc z y → 1 ≤ z → mo y ≤ 16 → mr y ≤ 12 → RS (sI mc 17 1 1 0) z y := fun hx h1 h16 h12 => hx.frame h1 h16 h12 (fun t j q ho => ⟨sI_ne (fun z => by rw [z.1, own0 (by decide)] at ho; omega), rfl⟩)
  have e0 : (sI mc 17 1 1 0).1 17 1 1 = 0 := sI_at _ _ _ _ _
  have e12 : ∀ t j q, ¬ t = 17 → (sI mc 17 1 1 0).1 t j q = mc.1 t j q := fun t j q ht => sI_ne (fun z => ht z.1)
  refine ⟨hfr hR (by decide) hI.mo16 hI.mr12, hI, ⟨?_, ?_, ?_, fun k hk => ?_, fun k hk => ?_, fun z h1 h2 => g6 z h1 h2⟩, ?_, ?_, ?_, fun j hj => ?_⟩
  · rw [e12 _ _ _ (by decide)]; exact g1
  · rw [e12 _ _ _ (by decide)]; exact g2
  · rw [e12 _ _ _ (by decide), ref_ne (by decide)]; exact g3
  · rw [e12 _ _ _ (by decide)] at hk
    rw [e12 _ _ _ (by decide)]
    obtain ⟨w1, w2⟩ := g4 k hk
    exact ⟨hfr w1 (by omega) w2.mo16 w2.mr12, w2⟩
  · rw [e12 _ _ _ (by decide)]
    obtain ⟨w1, w2, w3⟩ := g5 k hk
    exact ⟨w1, w2, fun y => ⟨hfr (w3 y).1 (by omega) (w3 y).2.mo16 (w3 y).2.mr12, (w3 y).2⟩⟩
  · rw [e12 _ _ _ (by decide)]; exact hp0
  · rw [e0]; exact ref_ref
  · rw [e0]; exact rng_of (n := 0) (by decide) (by decide)
  · rw [e0] at hj
    exact absurd hj (Nat.not_lt_zero _)
theorem sv0_jv (mm : Mm) (c : Nat → Int32) : sv0 (jv mm c) = jv (sv0 mm) c := by
  have e5 : (sI (jv mm c) 30 1 0 0).1 30 1 5 = mm.1 30 1 5 := by rw [ref_ne (by decide), jv_out _ _ (by decide)]
  have e5' : (sI mm 30 1 0 0).1 30 1 5 = mm.1 30 1 5 := ref_ne (by decide)
  have e32 : (sI (jv mm c) 30 1 0 0).1 32 1 = (sI mm 30 1 0 0).1 32 1 := by
    funext j
    rw [sI_ne (fun z => absurd z.1 (by decide)), sI_ne (fun z => absurd z.1 (by decide)), jv_out _ _ (by omega)]
  have e33 : (sI (jv mm c) 30 1 0 0).1 33 1 = (sI mm 30 1 0 0).1 33 1 := by
    funext j
    rw [sI_ne (fun z => absurd z.1 (by decide)), sI_ne (fun z => absurd z.1 (by decide)), jv_out _ _ (by omega)]
  have eN : svN (sI (jv mm c) 30 1 0 0) = svN (sI mm 30 1 0 0) := by unfold svN; rw [e5, e5']
  have eS : svS (sI (jv mm c) 30 1 0 0) = svS (sI mm 30 1 0 0) := by unfold svS; rw [e5, e5', e32, e33]
  unfold sv0 svM
  rw [eN, eS]
  refine Mm_ext (fun t i j => ?_) rfl
  show (if t = 30 ∧ i = 1 ∧ j = 5 then svN (sI mm 30 1 0 0) else if t = 33 ∧ i = 1 then svS (sI mm 30 1 0 0) j else if t = 30 ∧ i = 1 ∧ j = 0 then 0 else if t = 30 ∧ i = 1 ∧ 9 ≤ j ∧ j ≤ 15 then c j else mm.1 t i j) = if t = 30 ∧ i = 1 ∧ 9 ≤ j ∧ j ≤ 15 then c j else if t = 30 ∧ i = 1 ∧ j = 5 then svN (sI mm 30 1 0 0) else if t = 33 ∧ i = 1 then svS (sI mm 30 1 0 0) j else if t = 30 ∧ i = 1 ∧ j = 0 then 0 else mm.1 t i j
  by_cases h : t = 30 ∧ i = 1 ∧ 9 ≤ j ∧ j ≤ 15
  · rw [if_pos h, if_neg (by omega), if_neg (by omega), if_neg (by omega), if_pos h]
  · rw [if_neg h, if_neg h]
theorem m_readsA (M : Mm) (c : Nat → Int32) (Qm : Int32 → Mm → Prop) (f : Nat) (h : ∀ c', c' 9 = 0 → c' 14 = 0 → c' 15 = 0 → itr (α := Int32 × Int32 × Mm) (fun K a => w_X10_reads_B19 Qm (fun z0 z1 z2 => K (z0, z1, z2)) a.1 a.2.1 a.2.2) f (1, 1, jv M c')) : w_X10_reads 1 (jv M c) Qm := by
  unfold w_X10_reads
  simp only [forall_eq]
  rw [jv_sI _ _ (by decide), jv_sI _ _ (by decide), jv_sI _ _ (by decide)]
  exact ⟨f, h _ (by rw [up_ne _ _ (by decide), up_ne _ _ (by decide), up_eq]) (up_eq _ _ _) (by rw [up_ne _ _ (by decide), up_eq])⟩
theorem J_run (h : Hy a s mc mm K) : w_X9_run mc (fun r m1 => jq (w_X10_run mm) (K m1) r) (fun k0 m1 => oK [2] k0 ∧ jx (w_X10_run mm) (K m1) (xB k0)) := by
  obtain ⟨n, hC, hM⟩ := h.1.txt
  generalize hT : mc.1 18 1 = T at hC hM
  unfold w_X9_run
  refine c_isComplete hC _ (fun x F k w => ?_)
  have h' : Hy a s (jc mc x F k w) mm K := ⟨h.1.jrn x F k w, h.2⟩
  have hn60 := hC.2.1
  cases hw : (txp T n (n + 1) 0).2 with
  | false =>
    refine ⟨fun z => absurd rfl z, fun _ => ?_⟩
    refine ⟨by unfold oK; decide, ?_⟩
    unfold jx w_X10_run
    refine m_reads0 hM _ (fun c' h14 => ?_)
    rw [hw] at h14
    have e14 : (jv mm c').1 30 1 14 = 0 := by rw [jv_in _ _ (by decide)]; exact h14
    refine ⟨fun _ => ?_, fun z => absurd e14 z⟩
    unfold w_X10_run_J19
    rw [m_ref1]
    exact ⟨fun z => absurd z z10, fun _ => ⟨ref_ref, h.2.2.2 _ _ (((h'.1.jvm c').ref 1).mono (by omega) (by omega) h.2.2.1)⟩⟩
  | true =>
    refine ⟨fun _ => ?_, fun z => absurd z z10⟩
    refine h'.sv _ (fun m5 hm => ?_)
    intro m6 e6
    rw [c_start0]
    have hR5 := hm.1
    have p5 : m5.1 12 1 5 = 0 := hR5.2.2.2.1
    have hRR : RR a s m6 (sv0 mm) := by
      refine ⟨hR5.oth (fun t i j _ => ?_) (fun t i j _ => by rw [e6]; rfl), by rw [e6]; exact sI_at _ _ _ _ _⟩
      rw [e6]
      show (if t = 12 ∧ i = 1 ∧ j = 5 then (0 : Int32) else if t = 12 ∧ i = 1 ∧ j = 5 then 1 else m5.1 t i j) = _
      by_cases z : t = 12 ∧ i = 1 ∧ j = 5
      · rw [if_pos z, z.1, z.2.1, z.2.2, p5]
      · rw [if_neg z, if_neg z]
    obtain ⟨t1, t2, t3⟩ := hM
    have q2 : (sv0 mm).1 30 1 2 = nI n := by
      show (svM (sI mm 30 1 0 0)).1 30 1 2 = nI n
      rw [svM_30 _ (by decide), ref_ne (by decide)]
      exact t1
    have q0 : (sv0 mm).1 30 1 0 = 0 := by
      show (svM (sI mm 30 1 0 0)).1 30 1 0 = 0
      rw [svM_30 _ (by decide)]
      exact ref_ref
    have q31 : (sv0 mm).1 31 1 = mm.1 31 1 := by
      show (svM (sI mm 30 1 0 0)).1 31 1 = mm.1 31 1
      rw [svM_31]
      rfl
    have hM0 : TM (sv0 mm) T n := ⟨q2, t2, fun j hj => by rw [q31]; exact t3 j hj⟩
    have hC6 : CT m6 T n := by
      obtain ⟨_, _, _, _, j1, j2, j3⟩ := hR5
      have e17 : m5.1 17 1 1 = nI n := by rw [← j1]; exact q2
      have e18 : ∀ j, j < n → m5.1 18 1 j = T j := fun j hj => by
        rw [← j3 j (by rw [e17, rs_tn (by omega)]; exact hj), q31]
        exact t3 j hj
      exact ⟨by rw [e6, sI_ne (fun z => absurd z.1 (by decide))]; exact e17, t2, fun j hj => by rw [e6, sI_ne (fun z => absurd z.1 (by decide))]; exact e18 j hj⟩
    refine ⟨n - 0 + 1, ?_⟩
    refine c_runA h.2.1 (n + 1) 0 s 0 m6 (sv0 mm) _ _ (Nat.zero_le _) (by omega) hw hRR hC6 hM0 (up_eq _ _ _) (by have := h.2.2.1.2; omega) (fun r m' M' s' hs' hRR' hC' hM' h0 hev => ?_)
    unfold jq w_X10_run
    refine m_reads0 ⟨t1, t2, t3⟩ _ (fun c' h14 => ?_)
    rw [hw] at h14
    have e14 : ¬ (jv mm c').1 30 1 14 = 0 := by
      rw [jv_in _ _ (by decide), h14]
      decide
    refine ⟨fun z => absurd z e14, fun _ => ?_⟩
    unfold w_X10_run_J19
    rw [m_ref0]
    refine ⟨fun _ => ?_, fun z => absurd rfl z⟩
    have hrn : rng ((sI (jv mm c') 30 1 0 0).1 30 1 5) 6 := by
      have h1 := ((h'.1.jvm c').ref 0).2.2.1
      rw [h1.2.2.1]
      exact h1.2.1
    rw [m_saves hrn]
    show w_X10_reads 1 (sv0 (jv mm c')) _
    rw [sv0_jv]
    refine m_readsA (sv0 mm) c' _ (n + 1 + 1) (fun c'' d9 d14 d15 => hev _ (fun z c3 e15 => ?_) c'' d9 d14 d15)
    intro m11 e11
    have k15 : m11.1 30 1 15 = r := by rw [e11, sI_ne (fun z => absurd z.2.2 (by decide)), jv_in _ _ (by decide), e15]
    refine ⟨?_, k15, ?_⟩
    · rw [e11, sI_ne (fun z => absurd z.2.2 (by decide)), jv_out _ _ (by decide), h0, q0]
    · rw [e11]
      exact h.2.2.2 _ _ (((hRR'.1.jvm c3).clear).mono (by omega) (by omega) h.2.2.1)
end SEM37
