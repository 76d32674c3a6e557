section PS0
variable {a s : Nat} {mc mm m1 : Mm}
abbrev Fn : Type := Nat → Int32
/-- a warehouse as it is: now, how many states are saved, those, the two snapshots -/
abbrev PS : Type := Fn × Nat × (Nat → Fn) × (Nat → Option Fn)
def Agr (mm : Mm) (u : PS) : Prop :=
  mm.1 32 1 = u.1 ∧ mm.1 30 1 5 = nI u.2.1 ∧ u.2.1 ≤ 6 ∧ (∀ k, k < u.2.1 → ∀ j, j < 246 → sv mm k j = u.2.2.1 k j) ∧
  (∀ k, k < 2 → (u.2.2.2 k = none → mm.1 35 1 k = 0) ∧ (∀ f, u.2.2.2 k = some f → ¬ mm.1 35 1 k = 0 ∧ ∀ j, j < 246 → kp mm k j = f j)) ∧ mm.1 30 1 2 = 0
/-- a deed: what was now is saved, g is now -/
def svP (u : PS) (g : Fn) : PS :=
  if u.2.1 = 6 then (g, 6, fun k => if k = 5 then u.1 else u.2.2.1 (k + 1), u.2.2.2)
  else (g, u.2.1 + 1, fun k => if k = u.2.1 then u.1 else u.2.2.1 k, u.2.2.2)
theorem svP_now (u : PS) (g : Fn) : (svP u g).1 = g := by unfold svP; split <;> rfl
theorem svP_kp (u : PS) (g : Fn) : (svP u g).2.2.2 = u.2.2.2 := by unfold svP; split <;> rfl
theorem svP_pos (u : PS) (g : Fn) : 1 ≤ (svP u g).2.1 := by
  unfold svP
  split
  · show 1 ≤ 6; omega
  · exact Nat.succ_le_succ (Nat.zero_le _)
theorem svP_last (u : PS) (g : Fn) : (svP u g).2.2.1 ((svP u g).2.1 - 1) = u.1 := by
  unfold svP
  split
  · rfl
  · show (if u.2.1 + 1 - 1 = u.2.1 then u.1 else _) = _
    rw [if_pos (Nat.add_sub_cancel _ _)]
/-- undone -/
def unP (u : PS) : PS := (u.2.2.1 (u.2.1 - 1), u.2.1 - 1, u.2.2.1, u.2.2.2)
/-- a snapshot -/
def kpP (u : PS) (c : Nat) : PS := (u.1, u.2.1, u.2.2.1, fun k => if k = c then some u.1 else u.2.2.2 k)
theorem nI_inj {x y : Nat} (hx : x < 100) (hy : y < 100) : nI x = nI y ↔ x = y := nI_eq (by omega) (by omega)
theorem Agr.sv0 {u : PS} (h : Agr mm u) : (svM (sI mm 30 1 0 0)).1 30 1 5 = nI (svP u u.1).2.1 ∧ (∀ k, k < (svP u u.1).2.1 → ∀ j, j < 246 → sv (svM (sI mm 30 1 0 0)) k j = (svP u u.1).2.2.1 k j) := by
  obtain ⟨h1, h2, h3, h4, -, -⟩ := h
  have e5 : (sI mm 30 1 0 0).1 30 1 5 = nI u.2.1 := by rw [ref_ne (by decide)]; exact h2
  have e32 : (sI mm 30 1 0 0).1 32 1 = u.1 := h1
  have e33 : (sI mm 30 1 0 0).1 33 1 = mm.1 33 1 := rfl
  by_cases h6 : u.2.1 = 6
  · have q : (sI mm 30 1 0 0).1 30 1 5 = 6 := by rw [e5, h6]; rfl
    have eP : svP u u.1 = (u.1, 6, fun k => if k = 5 then u.1 else u.2.2.1 (k + 1), u.2.2.2) := if_pos h6
    rw [eP]
    refine ⟨?_, fun k hk j hj => ?_⟩
    · rw [svM_5]
      unfold svN
      rw [if_pos q]
      rfl
    · rw [sv_svM]
      unfold svS
      rw [if_pos q, e32, e33]
      show _ = (if k = 5 then u.1 else u.2.2.1 (k + 1)) j
      have hk : k < 6 := hk
      by_cases k5 : k = 5
      · subst k5
        rw [if_pos rfl, ckF_in (by omega)]
        exact congrArg u.1 (by omega)
      · rw [if_neg k5, ckF_out (by omega)]
        unfold shF6
        rw [if_pos (by omega), ← h4 (k + 1) (by omega) j hj]
        exact congrArg (mm.1 33 1) (by omega)
  · have q : ¬ (sI mm 30 1 0 0).1 30 1 5 = 6 := by
      rw [e5]
      exact fun z => h6 ((nI_inj (by omega) (by omega)).mp z)
    have eP : svP u u.1 = (u.1, u.2.1 + 1, fun k => if k = u.2.1 then u.1 else u.2.2.1 k, u.2.2.2) := if_neg h6
    rw [eP]
    refine ⟨?_, fun k hk j hj => ?_⟩
    · rw [svM_5]
      unfold svN
      rw [if_neg q, e5, nI_1]
    · rw [sv_svM]
      unfold svS
      rw [if_neg q, e32, e33, e5, rs_tn (by omega)]
      show _ = (if k = u.2.1 then u.1 else u.2.2.1 k) j
      have hk : k < u.2.1 + 1 := hk
      by_cases k5 : k = u.2.1
      · rw [if_pos k5, k5, ckF_in (by omega)]
        exact congrArg u.1 (by omega)
      · rw [if_neg k5, ckF_out (by omega), ← h4 k (by omega) j hj]
        rfl
theorem svP_g (u : PS) (g : Fn) : svP u g = (g, (svP u u.1).2) := by unfold svP; split <;> rfl
/-- behind a deed -/
theorem Agr.deed {u : PS} (h : Agr mm u) (g : Fn) : Agr (st (svM (sI mm 30 1 0 0)) g) (svP u g) := by
  have h0 := h.sv0
  rw [svP_g]
  obtain ⟨-, -, h3, -, h5, h6⟩ := h
  refine ⟨rfl, ?_, ?_, fun k hk j hj => ?_, fun k hk => ?_, ?_⟩
  · rw [st_ne _ _ (by decide)]; exact h0.1
  · show (svP u u.1).2.1 ≤ 6
    unfold svP
    split
    · exact Nat.le_refl _
    · show u.2.1 + 1 ≤ 6
      omega
  · have e := h0.2 k hk j hj
    unfold sv at e ⊢
    rw [st_ne _ _ (by decide)]
    exact e
  · have hk1 := h5 k hk
    have e1 : (st (svM (sI mm 30 1 0 0)) g).1 35 1 k = mm.1 35 1 k := by rw [st_ne _ _ (by decide), svM_35]; rfl
    have e2 : ∀ j, kp (st (svM (sI mm 30 1 0 0)) g) k j = kp mm k j := fun j => by unfold kp; rw [st_ne _ _ (by decide), svM_34]; rfl
    have e3 : (svP u u.1).2.2.2 = u.2.2.2 := svP_kp u u.1
    show ((svP u u.1).2.2.2 k = none → _) ∧ ∀ f, (svP u u.1).2.2.2 k = some f → _
    rw [e3, e1]
    exact ⟨hk1.1, fun f hf => ⟨(hk1.2 f hf).1, fun j hj => by rw [e2]; exact (hk1.2 f hf).2 j hj⟩⟩
  · rw [st_ne _ _ (by decide), svM_30 _ (by decide), ref_ne (by decide)]
    exact h6
theorem Rel.now {g : Fn} (h : Rel a s mc mm) (hg : ∀ j, j < 246 → g j = mm.1 32 1 j) : Rel a s mc (st mm g) :=
  h.step (fun _ _ _ _ => ⟨rfl, rfl⟩) (h.rs.c246 h.inv.mo16 h.inv.mr12 hg) (h.inv.c246 hg) (Nat.le_refl _) (Nat.le_refl _)
/-- the ghost of a warehouse after k deeds at most -/
def RelN (k : Nat) (mc : Mm) (u : PS) : Prop := ∃ mm, Rel (99999 + 400000 * k) (64 * k) mc mm ∧ Agr mm u
theorem RelN.mono {k k' : Nat} {u : PS} (h : RelN k mc u) (hk : k ≤ k') (hb : k' ≤ 2400) : RelN k' mc u := by
  obtain ⟨mm, h1, h2⟩ := h
  exact ⟨mm, h1.mono (by omega) (by omega) ⟨by omega, by omega⟩, h2⟩
theorem RelN.inv {k : Nat} {u : PS} (h : RelN k mc u) : Inv (99999 + 400000 * k) (64 * k) u.1 := by
  obtain ⟨mm, h1, h2⟩ := h
  rw [← h2.1]
  exact h1.inv
theorem RelN.rs {k : Nat} {u : PS} (h : RelN k mc u) : RS mc 1 u.1 := by
  obtain ⟨mm, h1, h2⟩ := h
  rw [← h2.1]
  exact h1.rs
end PS0
