section SETUP
def decO (n : Nat) : Nat × Nat :=
  if n = 0 then (0, 1)
  else if 47 ≤ n ∧ n ≤ 50 then (n - 35, 1)
  else if 419 ≤ n ∧ n ≤ 422 then (n - 403, 1)
  else
    let i := if n < 47 then 1 else (n - 51) / 46 + 2
    let r := if n < 47 then n - 1 else (n - 51) % 46
    if r = 0 then (1, i) else if r = 1 then (2, i) else if r < 7 then (r + 5, i)
    else if r < 23 then (3, 16 * (i - 1) + (r - 7) + 1)
    else if r < 35 then (4, 12 * (i - 1) + (r - 23) + 1)
    else if r < 40 then (5, 5 * (i - 1) + (r - 35) + 1)
    else (6, 6 * (i - 1) + (r - 40) + 1)
theorem off_all : (List.range 20).all (fun t => (List.range 145).all (fun i => !(decide (1 ≤ i ∧ i ≤ cnt t)) || (decide (decO (offC t i) = (t, i)) && Nat.blt (offC t i) 423))) = true := by decide +kernel
theorem offC_ok {t i : Nat} (h : GC t i) : decO (offC t i) = (t, i) ∧ offC t i < 423 := by
  have h1 : ∀ t, t < 20 → cnt t ≤ 144 := by decide
  have h2 : 1 ≤ i ∧ i ≤ cnt t := h.2
  have h3 := h1 t h.1
  have h4 := List.all_eq_true.mp (List.all_eq_true.mp off_all t (List.mem_range.mpr h.1)) i (List.mem_range.mpr (by omega))
  rw [decide_eq_true h2] at h4
  simp only [Bool.not_true, Bool.false_or, Bool.and_eq_true, decide_eq_true_eq, Nat.blt_eq] at h4
  exact h4
def aC (N : Nat) : Nat → Prop := fun q => N ≤ q ∧ q < N + 423
def aL (N : Nat) : Nat → Prop := fun q => N ≤ q
def adL (N : Nat) (sA : Nat → Nat) (t i : Nat) : Nat := if t = 20 then sA i else N + offC t i
theorem adL_c {N : Nat} {sA : Nat → Nat} {t i : Nat} (h : GC t i) : adL N sA t i = N + offC t i := by
  unfold adL
  rw [if_neg (by have := h.1; omega)]
theorem ax_C (N : Nat) (sA : Nat → Nat) : Ax (adL N sA) GC (aC N) := by
  refine ⟨fun t i h => ?_, fun t i t' i' h h' e => ?_⟩
  · rw [adL_c h]
    have := (offC_ok h).2
    exact ⟨by omega, by omega⟩
  · rw [adL_c h, adL_c h'] at e
    have e2 : offC t i = offC t' i' := by omega
    have e3 := (offC_ok h).1
    rw [e2, (offC_ok h').1] at e3
    exact ⟨(congrArg Prod.fst e3).symm, (congrArg Prod.snd e3).symm⟩
/-- the two warehouses, one behind the other -/
def bG (N : Nat) (b : Bool) : Nat := if b = true then N else N + 423
def adG (N : Nat) (sA : Nat → Nat) (b : Bool) : Nat → Nat → Nat := adL (bG N b) sA
def aG (N : Nat) (b : Bool) : Nat → Prop := aC (bG N b)
theorem AG_L (N : Nat) (sA : Nat → Nat) : AG (adG N sA) (aG N) := by
  refine ⟨fun b => ax_C (bG N b) sA, fun b b' q hne h1 h2 => ?_⟩
  have h3 : bG N b ≤ q ∧ q < bG N b + 423 := h1
  have h4 : bG N b' ≤ q ∧ q < bG N b' + 423 := h2
  have e1 : bG N true = N := rfl
  have e2 : bG N false = N + 423 := rfl
  cases b <;> cases b' <;> first | exact hne rfl | omega
theorem aG_L (N : Nat) (q : Nat) (h : AU (aG N) q) : aL N q := by
  obtain ⟨b, h3⟩ := h
  have h4 : bG N b ≤ q ∧ q < bG N b + 423 := h3
  have e1 : bG N true = N := rfl
  have e2 : bG N false = N + 423 := rfl
  show N ≤ q
  cases b <;> omega
variable {s : State} {args : Array Value}
def nLst : List Cond := flatC (Jvm.Cond.and given_1 narrow_1)
theorem arrO {C : String} (h : (Cond.arrayOver (.object C)).before args s = true) : ∃ cA : ClassId, ArrOfT s cA (.object C) ∧ va_RA s cA (.object C) := by
  obtain ⟨comp, c, k, h1, h2, h3, h4, h5⟩ := Cond.arrayOver_spec h
  exact ⟨c, fun n z => ⟨(fun k q => by cases q), k, h3, comp, h4⟩, k, comp, h3, h4, h1, h5⟩
theorem arrP {ty : FieldType} (h : (Cond.arrayClass ty).before args s = true) : ∃ cA : ClassId, ArrOfT s cA ty ∧ s.vm.findClass ("[" ++ ty.toString) = some cA := by
  obtain ⟨c, k, comp, h1, h2, h3⟩ := Cond.arrayClass_spec h
  exact ⟨c, fun n z => ⟨(fun k q => by cases q), k, h2, comp, h3⟩, h1⟩
theorem tgh (hts : ∀ w ∈ lw_tbl, w.before args s = true) : ∀ w ∈ TG, w.before args s = true := fun w h => hts w (List.mem_filter.mp h).1
theorem clsK (hts : ∀ w ∈ lw_tbl, w.before args s = true) (c : Nat) : ∃ d : ClassId × (Nat → Nat), ∀ q : vw_C, vwCl[c]? = some q → u_Kn s q.1 q.2.1 q.2.2 d.1 d.2 := by
  match c with
  | 0 =>
    obtain ⟨c0, i0, k0⟩ := u_known (C := RX0) (T := TX0) (N := 2) (n := 2) (tgh hts) inTX0 (hts _ (List.mem_append_right _ (tb_1 161 rfl)))
    exact ⟨(c0, i0), fun q hq => by cases hq; exact k0⟩
  | 1 =>
    obtain ⟨c0, i0, k0⟩ := u_known (C := RX1) (T := TX1) (N := 2) (n := 2) (tgh hts) inTX1 (hts _ (List.mem_append_right _ (tb_2 70 rfl)))
    exact ⟨(c0, i0), fun q hq => by cases hq; exact k0⟩
  | 2 =>
    obtain ⟨c0, i0, k0⟩ := u_known (C := RX2) (T := TX2) (N := 8) (n := 8) (tgh hts) inTX2 (hts _ (List.mem_append_right _ (tb_1 80 rfl)))
    exact ⟨(c0, i0), fun q hq => by cases hq; exact k0⟩
  | 3 =>
    obtain ⟨c0, i0, k0⟩ := u_known (C := RX3) (T := TX3) (N := 6) (n := 6) (tgh hts) inTX3 (hts _ (List.mem_append_right _ (tb_2 37 rfl)))
    exact ⟨(c0, i0), fun q hq => by cases hq; exact k0⟩
  | 4 =>
    obtain ⟨c0, i0, k0⟩ := u_known (C := RX4) (T := TX4) (N := 6) (n := 6) (tgh hts) inTX4 (hts _ (List.mem_append_right _ (tb_2 83 rfl)))
    exact ⟨(c0, i0), fun q hq => by cases hq; exact k0⟩
  | 5 =>
    obtain ⟨c0, i0, k0⟩ := u_known (C := RX5) (T := TX5) (N := 8) (n := 8) (tgh hts) inTX5 (hts _ (List.mem_append_right _ (tb_1 177 rfl)))
    exact ⟨(c0, i0), fun q hq => by cases hq; exact k0⟩
  | 6 =>
    obtain ⟨c0, i0, k0⟩ := u_known (C := RX6) (T := TX6) (N := 7) (n := 7) (tgh hts) inTX6 (hts _ (List.mem_append_right _ (tb_1 33 rfl)))
    exact ⟨(c0, i0), fun q hq => by cases hq; exact k0⟩
  | 7 =>
    obtain ⟨c0, i0, k0⟩ := u_known (C := RX7) (T := TX7) (N := 4) (n := 4) (tgh hts) inTX7 (hts _ (List.mem_append_right _ (tb_1 133 rfl)))
    exact ⟨(c0, i0), fun q hq => by cases hq; exact k0⟩
  | 8 =>
    obtain ⟨c0, i0, k0⟩ := u_known (C := RX8) (T := TX8) (N := 11) (n := 11) (tgh hts) inTX8 (hts _ (List.mem_append_right _ (tb_1 27 rfl)))
    exact ⟨(c0, i0), fun q hq => by cases hq; exact k0⟩
  | 9 =>
    obtain ⟨c0, i0, k0⟩ := u_known (C := RX9) (T := TX9) (N := 4) (n := 4) (tgh hts) inTX9 (hts _ (List.mem_append_right _ (tb_1 19 rfl)))
    exact ⟨(c0, i0), fun q hq => by cases hq; exact k0⟩
  | k + 10 => exact ⟨(0, fun _ => 0), fun q hq => by simp at hq⟩
set_option maxRecDepth 100000 in
theorem nfK (hts : ∀ w ∈ lw_tbl, w.before args s = true) : ∀ w ∈ nestF, va_Nw (.fieldLinkNest w.1 w.2.1 w.2.2.1 w.2.2.2.1 w.2.2.2.2 "BondWarehouse") s :=
  (List.forall_mem_cons.mpr ⟨va_Nw.of rfl (hts _ (List.mem_append_right _ (tb_1 39 rfl))), (List.forall_mem_cons.mpr ⟨va_Nw.of rfl (hts _ (List.mem_append_right _ (tb_1 40 rfl))), (List.forall_mem_cons.mpr ⟨va_Nw.of rfl (hts _ (List.mem_append_right _ (tb_1 41 rfl))), (List.forall_mem_cons.mpr ⟨va_Nw.of rfl (hts _ (List.mem_append_right _ (tb_1 43 rfl))), (List.forall_mem_cons.mpr ⟨va_Nw.of rfl (hts _ (List.mem_append_right _ (tb_1 44 rfl))), (List.forall_mem_cons.mpr ⟨va_Nw.of rfl (hts _ (List.mem_append_right _ (tb_1 45 rfl))), (List.forall_mem_cons.mpr ⟨va_Nw.of rfl (hts _ (List.mem_append_right _ (tb_1 47 rfl))), (List.forall_mem_cons.mpr ⟨va_Nw.of rfl (hts _ (List.mem_append_right _ (tb_1 48 rfl))), (List.forall_mem_cons.mpr ⟨va_Nw.of rfl (hts _ (List.mem_append_right _ (tb_1 50 rfl))), (List.forall_mem_cons.mpr ⟨va_Nw.of rfl (hts _ (List.mem_append_right _ (tb_1 52 rfl))), (List.forall_mem_cons.mpr ⟨va_Nw.of rfl (hts _ (List.mem_append_right _ (tb_1 54 rfl))), (List.forall_mem_cons.mpr ⟨va_Nw.of rfl (hts _ (List.mem_append_right _ (tb_1 56 rfl))), (List.forall_mem_cons.mpr ⟨va_Nw.of rfl (hts _ (List.mem_append_right _ (tb_1 86 rfl))), (List.forall_mem_cons.mpr ⟨va_Nw.of rfl (hts _ (List.mem_append_right _ (tb_1 87 rfl))), (List.forall_mem_cons.mpr ⟨va_Nw.of rfl (hts _ (List.mem_append_right _ (tb_1 88 rfl))), (List.forall_mem_cons.mpr ⟨va_Nw.of rfl (hts _ (List.mem_append_right _ (tb_1 90 rfl))), (List.forall_mem_cons.mpr ⟨va_Nw.of rfl (hts _ (List.mem_append_right _ (tb_1 91 rfl))), (List.forall_mem_cons.mpr ⟨va_Nw.of rfl (hts _ (List.mem_append_right _ (tb_1 92 rfl))), (List.forall_mem_cons.mpr ⟨va_Nw.of rfl (hts _ (List.mem_append_right _ (tb_1 94 rfl))), (List.forall_mem_cons.mpr ⟨va_Nw.of rfl (hts _ (List.mem_append_right _ (tb_1 95 rfl))), (List.forall_mem_cons.mpr ⟨va_Nw.of rfl (hts _ (List.mem_append_right _ (tb_1 96 rfl))), (List.forall_mem_cons.mpr ⟨va_Nw.of rfl (hts _ (List.mem_append_right _ (tb_1 98 rfl))), (List.forall_mem_cons.mpr ⟨va_Nw.of rfl (hts _ (List.mem_append_right _ (tb_1 99 rfl))), (List.forall_mem_cons.mpr ⟨va_Nw.of rfl (hts _ (List.mem_append_right _ (tb_1 100 rfl))), (List.forall_mem_cons.mpr ⟨va_Nw.of rfl (hts _ (List.mem_append_right _ (tb_1 102 rfl))), (List.forall_mem_cons.mpr ⟨va_Nw.of rfl (hts _ (List.mem_append_right _ (tb_1 103 rfl))), (List.forall_mem_cons.mpr ⟨va_Nw.of rfl (hts _ (List.mem_append_right _ (tb_1 104 rfl))), (List.forall_mem_cons.mpr ⟨va_Nw.of rfl (hts _ (List.mem_append_right _ (tb_1 106 rfl))), (List.forall_mem_cons.mpr ⟨va_Nw.of rfl (hts _ (List.mem_append_right _ (tb_1 107 rfl))), (List.forall_mem_cons.mpr ⟨va_Nw.of rfl (hts _ (List.mem_append_right _ (tb_1 109 rfl))), (List.forall_mem_cons.mpr ⟨va_Nw.of rfl (hts _ (List.mem_append_right _ (tb_1 110 rfl))), (List.forall_mem_cons.mpr ⟨va_Nw.of rfl (hts _ (List.mem_append_right _ (tb_1 112 rfl))), (List.forall_mem_cons.mpr ⟨va_Nw.of rfl (hts _ (List.mem_append_right _ (tb_1 113 rfl))), (List.forall_mem_cons.mpr ⟨va_Nw.of rfl (hts _ (List.mem_append_right _ (tb_1 114 rfl))), (List.forall_mem_cons.mpr ⟨va_Nw.of rfl (hts _ (List.mem_append_right _ (tb_1 139 rfl))), (List.forall_mem_cons.mpr ⟨va_Nw.of rfl (hts _ (List.mem_append_right _ (tb_1 140 rfl))), (List.forall_mem_cons.mpr ⟨va_Nw.of rfl (hts _ (List.mem_append_right _ (tb_1 142 rfl))), (List.forall_mem_cons.mpr ⟨va_Nw.of rfl (hts _ (List.mem_append_right _ (tb_1 143 rfl))), (List.forall_mem_cons.mpr ⟨va_Nw.of rfl (hts _ (List.mem_append_right _ (tb_1 144 rfl))), (List.forall_mem_cons.mpr ⟨va_Nw.of rfl (hts _ (List.mem_append_right _ (tb_1 146 rfl))), (List.forall_mem_cons.mpr ⟨va_Nw.of rfl (hts _ (List.mem_append_right _ (tb_1 147 rfl))), (List.forall_mem_cons.mpr ⟨va_Nw.of rfl (hts _ (List.mem_append_right _ (tb_1 149 rfl))), (List.forall_mem_cons.mpr ⟨va_Nw.of rfl (hts _ (List.mem_append_right _ (tb_1 150 rfl))), (List.forall_mem_cons.mpr ⟨va_Nw.of rfl (hts _ (List.mem_append_right _ (tb_1 151 rfl))), (List.forall_mem_cons.mpr ⟨va_Nw.of rfl (hts _ (List.mem_append_right _ (tb_1 167 rfl))), (List.forall_mem_cons.mpr ⟨va_Nw.of rfl (hts _ (List.mem_append_right _ (tb_1 168 rfl))), (List.forall_mem_cons.mpr ⟨va_Nw.of rfl (hts _ (List.mem_append_right _ (tb_1 170 rfl))), (List.forall_mem_cons.mpr ⟨va_Nw.of rfl (hts _ (List.mem_append_right _ (tb_1 171 rfl))), (List.forall_mem_cons.mpr ⟨va_Nw.of rfl (hts _ (List.mem_append_right _ (tb_1 178 rfl))), (List.forall_mem_cons.mpr ⟨va_Nw.of rfl (hts _ (List.mem_append_right _ (tb_1 180 rfl))), (List.forall_mem_cons.mpr ⟨va_Nw.of rfl (hts _ (List.mem_append_right _ (tb_1 187 rfl))), (List.forall_mem_cons.mpr ⟨va_Nw.of rfl (hts _ (List.mem_append_right _ (tb_1 188 rfl))), (List.forall_mem_cons.mpr ⟨va_Nw.of rfl (hts _ (List.mem_append_right _ (tb_1 190 rfl))), (List.forall_mem_cons.mpr ⟨va_Nw.of rfl (hts _ (List.mem_append_right _ (tb_1 191 rfl))), (List.forall_mem_cons.mpr ⟨va_Nw.of rfl (hts _ (List.mem_append_right _ (tb_1 193 rfl))), (List.forall_mem_cons.mpr ⟨va_Nw.of rfl (hts _ (List.mem_append_right _ (tb_1 194 rfl))), (List.forall_mem_cons.mpr ⟨va_Nw.of rfl (hts _ (List.mem_append_right _ (tb_1 196 rfl))), (List.forall_mem_cons.mpr ⟨va_Nw.of rfl (hts _ (List.mem_append_right _ (tb_1 197 rfl))), (List.forall_mem_cons.mpr ⟨va_Nw.of rfl (hts _ (List.mem_append_right _ (tb_1 199 rfl))), (List.forall_mem_cons.mpr ⟨va_Nw.of rfl (hts _ (List.mem_append_right _ (tb_1 200 rfl))), (List.forall_mem_cons.mpr ⟨va_Nw.of rfl (hts _ (List.mem_append_right _ (tb_1 202 rfl))), (List.forall_mem_cons.mpr ⟨va_Nw.of rfl (hts _ (List.mem_append_right _ (tb_1 203 rfl))), (List.forall_mem_cons.mpr ⟨va_Nw.of rfl (hts _ (List.mem_append_right _ (tb_1 205 rfl))), (List.forall_mem_cons.mpr ⟨va_Nw.of rfl (hts _ (List.mem_append_right _ (tb_1 206 rfl))), (List.forall_mem_cons.mpr ⟨va_Nw.of rfl (hts _ (List.mem_append_right _ (tb_1 208 rfl))), (List.forall_mem_cons.mpr ⟨va_Nw.of rfl (hts _ (List.mem_append_right _ (tb_1 209 rfl))), (List.forall_mem_cons.mpr ⟨va_Nw.of rfl (hts _ (List.mem_append_right _ (tb_1 228 rfl))), (List.forall_mem_cons.mpr ⟨va_Nw.of rfl (hts _ (List.mem_append_right _ (tb_1 229 rfl))), (List.forall_mem_cons.mpr ⟨va_Nw.of rfl (hts _ (List.mem_append_right _ (tb_1 231 rfl))), (List.forall_mem_cons.mpr ⟨va_Nw.of rfl (hts _ (List.mem_append_right _ (tb_1 232 rfl))), (List.forall_mem_cons.mpr ⟨va_Nw.of rfl (hts _ (List.mem_append_right _ (tb_1 234 rfl))), (List.forall_mem_cons.mpr ⟨va_Nw.of rfl (hts _ (List.mem_append_right _ (tb_1 236 rfl))), (List.forall_mem_cons.mpr ⟨va_Nw.of rfl (hts _ (List.mem_append_right _ (tb_1 238 rfl))), (List.forall_mem_cons.mpr ⟨va_Nw.of rfl (hts _ (List.mem_append_right _ (tb_2 0 rfl))), (List.forall_mem_cons.mpr ⟨va_Nw.of rfl (hts _ (List.mem_append_right _ (tb_2 1 rfl))), (List.forall_mem_cons.mpr ⟨va_Nw.of rfl (hts _ (List.mem_append_right _ (tb_2 3 rfl))), (List.forall_mem_cons.mpr ⟨va_Nw.of rfl (hts _ (List.mem_append_right _ (tb_2 4 rfl))), (List.forall_mem_cons.mpr ⟨va_Nw.of rfl (hts _ (List.mem_append_right _ (tb_2 7 rfl))), (List.forall_mem_cons.mpr ⟨va_Nw.of rfl (hts _ (List.mem_append_right _ (tb_2 8 rfl))), (List.forall_mem_cons.mpr ⟨va_Nw.of rfl (hts _ (List.mem_append_right _ (tb_2 10 rfl))), (List.forall_mem_cons.mpr ⟨va_Nw.of rfl (hts _ (List.mem_append_right _ (tb_2 11 rfl))), (List.forall_mem_cons.mpr ⟨va_Nw.of rfl (hts _ (List.mem_append_right _ (tb_2 48 rfl))), (List.forall_mem_cons.mpr ⟨va_Nw.of rfl (hts _ (List.mem_append_right _ (tb_2 50 rfl))), (List.forall_mem_cons.mpr ⟨va_Nw.of rfl (hts _ (List.mem_append_right _ (tb_2 52 rfl))), (List.forall_mem_cons.mpr ⟨va_Nw.of rfl (hts _ (List.mem_append_right _ (tb_2 54 rfl))), (List.forall_mem_cons.mpr ⟨va_Nw.of rfl (hts _ (List.mem_append_right _ (tb_2 89 rfl))), (List.forall_mem_cons.mpr ⟨va_Nw.of rfl (hts _ (List.mem_append_right _ (tb_2 91 rfl))), (List.forall_mem_cons.mpr ⟨va_Nw.of rfl (hts _ (List.mem_append_right _ (tb_2 93 rfl))), (List.forall_mem_cons.mpr ⟨va_Nw.of rfl (hts _ (List.mem_append_right _ (tb_2 97 rfl))), (List.forall_mem_cons.mpr ⟨va_Nw.of rfl (hts _ (List.mem_append_right _ (tb_4 29 rfl))), (List.forall_mem_nil _)⟩)⟩)⟩)⟩)⟩)⟩)⟩)⟩)⟩)⟩)⟩)⟩)⟩)⟩)⟩)⟩)⟩)⟩)⟩)⟩)⟩)⟩)⟩)⟩)⟩)⟩)⟩)⟩)⟩)⟩)⟩)⟩)⟩)⟩)⟩)⟩)⟩)⟩)⟩)⟩)⟩)⟩)⟩)⟩)⟩)⟩)⟩)⟩)⟩)⟩)⟩)⟩)⟩)⟩)⟩)⟩)⟩)⟩)⟩)⟩)⟩)⟩)⟩)⟩)⟩)⟩)⟩)⟩)⟩)⟩)⟩)⟩)⟩)⟩)⟩)⟩)⟩)⟩)⟩)⟩)⟩)⟩)⟩)⟩)⟩)⟩)⟩)⟩)⟩)⟩)
set_option maxRecDepth 100000 in
theorem nmK (hts : ∀ w ∈ lw_tbl, w.before args s = true) : ∀ w ∈ nestM, va_Nw (.methodLinkNest w.1 w.2.1 w.2.2 "BondWarehouse") s :=
  (List.forall_mem_cons.mpr ⟨va_Nw.of rfl (hts _ (List.mem_append_right _ (tb_1 28 rfl))), (List.forall_mem_cons.mpr ⟨va_Nw.of rfl (hts _ (List.mem_append_right _ (tb_1 34 rfl))), (List.forall_mem_cons.mpr ⟨va_Nw.of rfl (hts _ (List.mem_append_right _ (tb_1 81 rfl))), (List.forall_mem_cons.mpr ⟨va_Nw.of rfl (hts _ (List.mem_append_right _ (tb_1 134 rfl))), (List.forall_mem_cons.mpr ⟨va_Nw.of rfl (hts _ (List.mem_append_right _ (tb_1 162 rfl))), (List.forall_mem_cons.mpr ⟨va_Nw.of rfl (hts _ (List.mem_append_right _ (tb_1 182 rfl))), (List.forall_mem_cons.mpr ⟨va_Nw.of rfl (hts _ (List.mem_append_right _ (tb_2 38 rfl))), (List.forall_mem_cons.mpr ⟨va_Nw.of rfl (hts _ (List.mem_append_right _ (tb_2 44 rfl))), (List.forall_mem_cons.mpr ⟨va_Nw.of rfl (hts _ (List.mem_append_right _ (tb_2 71 rfl))), (List.forall_mem_cons.mpr ⟨va_Nw.of rfl (hts _ (List.mem_append_right _ (tb_2 84 rfl))), (List.forall_mem_cons.mpr ⟨va_Nw.of rfl (hts _ (List.mem_append_right _ (tb_2 149 rfl))), (List.forall_mem_cons.mpr ⟨va_Nw.of rfl (hts _ (List.mem_append_right _ (tb_2 153 rfl))), (List.forall_mem_cons.mpr ⟨va_Nw.of rfl (hts _ (List.mem_append_right _ (tb_2 159 rfl))), (List.forall_mem_cons.mpr ⟨va_Nw.of rfl (hts _ (List.mem_append_right _ (tb_2 163 rfl))), (List.forall_mem_cons.mpr ⟨va_Nw.of rfl (hts _ (List.mem_append_right _ (tb_2 187 rfl))), (List.forall_mem_cons.mpr ⟨va_Nw.of rfl (hts _ (List.mem_append_right _ (tb_2 191 rfl))), (List.forall_mem_cons.mpr ⟨va_Nw.of rfl (hts _ (List.mem_append_right _ (tb_2 195 rfl))), (List.forall_mem_cons.mpr ⟨va_Nw.of rfl (hts _ (List.mem_append_right _ (tb_2 199 rfl))), (List.forall_mem_cons.mpr ⟨va_Nw.of rfl (hts _ (List.mem_append_right _ (tb_2 203 rfl))), (List.forall_mem_cons.mpr ⟨va_Nw.of rfl (hts _ (List.mem_append_right _ (tb_2 207 rfl))), (List.forall_mem_cons.mpr ⟨va_Nw.of rfl (hts _ (List.mem_append_right _ (tb_2 211 rfl))), (List.forall_mem_cons.mpr ⟨va_Nw.of rfl (hts _ (List.mem_append_right _ (tb_2 215 rfl))), (List.forall_mem_cons.mpr ⟨va_Nw.of rfl (hts _ (List.mem_append_right _ (tb_2 219 rfl))), (List.forall_mem_cons.mpr ⟨va_Nw.of rfl (hts _ (List.mem_append_right _ (tb_3 99 rfl))), (List.forall_mem_cons.mpr ⟨va_Nw.of rfl (hts _ (List.mem_append_right _ (tb_3 103 rfl))), (List.forall_mem_cons.mpr ⟨va_Nw.of rfl (hts _ (List.mem_append_right _ (tb_3 107 rfl))), (List.forall_mem_cons.mpr ⟨va_Nw.of rfl (hts _ (List.mem_append_right _ (tb_3 108 rfl))), (List.forall_mem_cons.mpr ⟨va_Nw.of rfl (hts _ (List.mem_append_right _ (tb_3 120 rfl))), (List.forall_mem_cons.mpr ⟨va_Nw.of rfl (hts _ (List.mem_append_right _ (tb_3 124 rfl))), (List.forall_mem_cons.mpr ⟨va_Nw.of rfl (hts _ (List.mem_append_right _ (tb_3 125 rfl))), (List.forall_mem_cons.mpr ⟨va_Nw.of rfl (hts _ (List.mem_append_right _ (tb_3 129 rfl))), (List.forall_mem_cons.mpr ⟨va_Nw.of rfl (hts _ (List.mem_append_right _ (tb_3 136 rfl))), (List.forall_mem_cons.mpr ⟨va_Nw.of rfl (hts _ (List.mem_append_right _ (tb_3 141 rfl))), (List.forall_mem_cons.mpr ⟨va_Nw.of rfl (hts _ (List.mem_append_right _ (tb_3 153 rfl))), (List.forall_mem_cons.mpr ⟨va_Nw.of rfl (hts _ (List.mem_append_right _ (tb_3 157 rfl))), (List.forall_mem_cons.mpr ⟨va_Nw.of rfl (hts _ (List.mem_append_right _ (tb_3 172 rfl))), (List.forall_mem_cons.mpr ⟨va_Nw.of rfl (hts _ (List.mem_append_right _ (tb_3 176 rfl))), (List.forall_mem_cons.mpr ⟨va_Nw.of rfl (hts _ (List.mem_append_right _ (tb_3 180 rfl))), (List.forall_mem_cons.mpr ⟨va_Nw.of rfl (hts _ (List.mem_append_right _ (tb_3 181 rfl))), (List.forall_mem_cons.mpr ⟨va_Nw.of rfl (hts _ (List.mem_append_right _ (tb_3 185 rfl))), (List.forall_mem_cons.mpr ⟨va_Nw.of rfl (hts _ (List.mem_append_right _ (tb_3 189 rfl))), (List.forall_mem_cons.mpr ⟨va_Nw.of rfl (hts _ (List.mem_append_right _ (tb_3 192 rfl))), (List.forall_mem_cons.mpr ⟨va_Nw.of rfl (hts _ (List.mem_append_right _ (tb_3 203 rfl))), (List.forall_mem_cons.mpr ⟨va_Nw.of rfl (hts _ (List.mem_append_right _ (tb_3 207 rfl))), (List.forall_mem_cons.mpr ⟨va_Nw.of rfl (hts _ (List.mem_append_right _ (tb_3 211 rfl))), (List.forall_mem_cons.mpr ⟨va_Nw.of rfl (hts _ (List.mem_append_right _ (tb_3 219 rfl))), (List.forall_mem_cons.mpr ⟨va_Nw.of rfl (hts _ (List.mem_append_right _ (tb_3 223 rfl))), (List.forall_mem_cons.mpr ⟨va_Nw.of rfl (hts _ (List.mem_append_right _ (tb_3 224 rfl))), (List.forall_mem_cons.mpr ⟨va_Nw.of rfl (hts _ (List.mem_append_right _ (tb_3 225 rfl))), (List.forall_mem_cons.mpr ⟨va_Nw.of rfl (hts _ (List.mem_append_right _ (tb_3 226 rfl))), (List.forall_mem_cons.mpr ⟨va_Nw.of rfl (hts _ (List.mem_append_right _ (tb_3 234 rfl))), (List.forall_mem_cons.mpr ⟨va_Nw.of rfl (hts _ (List.mem_append_right _ (tb_3 238 rfl))), (List.forall_mem_cons.mpr ⟨va_Nw.of rfl (hts _ (List.mem_append_right _ (tb_4 2 rfl))), (List.forall_mem_cons.mpr ⟨va_Nw.of rfl (hts _ (List.mem_append_right _ (tb_4 17 rfl))), (List.forall_mem_cons.mpr ⟨va_Nw.of rfl (hts _ (List.mem_append_right _ (tb_4 21 rfl))), (List.forall_mem_cons.mpr ⟨va_Nw.of rfl (hts _ (List.mem_append_right _ (tb_4 32 rfl))), (List.forall_mem_cons.mpr ⟨va_Nw.of rfl (hts _ (List.mem_append_right _ (tb_4 36 rfl))), (List.forall_mem_cons.mpr ⟨va_Nw.of rfl (hts _ (List.mem_append_right _ (tb_4 48 rfl))), (List.forall_mem_cons.mpr ⟨va_Nw.of rfl (hts _ (List.mem_append_right _ (tb_4 59 rfl))), (List.forall_mem_cons.mpr ⟨va_Nw.of rfl (hts _ (List.mem_append_right _ (tb_4 70 rfl))), (List.forall_mem_cons.mpr ⟨va_Nw.of rfl (hts _ (List.mem_append_right _ (tb_4 81 rfl))), (List.forall_mem_cons.mpr ⟨va_Nw.of rfl (hts _ (List.mem_append_right _ (tb_4 85 rfl))), (List.forall_mem_cons.mpr ⟨va_Nw.of rfl (hts _ (List.mem_append_right _ (tb_4 90 rfl))), (List.forall_mem_cons.mpr ⟨va_Nw.of rfl (hts _ (List.mem_append_right _ (tb_4 102 rfl))), (List.forall_mem_cons.mpr ⟨va_Nw.of rfl (hts _ (List.mem_append_right _ (tb_4 107 rfl))), (List.forall_mem_cons.mpr ⟨va_Nw.of rfl (hts _ (List.mem_append_right _ (tb_4 115 rfl))), (List.forall_mem_cons.mpr ⟨va_Nw.of rfl (hts _ (List.mem_append_right _ (tb_4 126 rfl))), (List.forall_mem_cons.mpr ⟨va_Nw.of rfl (hts _ (List.mem_append_right _ (tb_4 137 rfl))), (List.forall_mem_cons.mpr ⟨va_Nw.of rfl (hts _ (List.mem_append_right _ (tb_4 145 rfl))), (List.forall_mem_cons.mpr ⟨va_Nw.of rfl (hts _ (List.mem_append_right _ (tb_4 165 rfl))), (List.forall_mem_cons.mpr ⟨va_Nw.of rfl (hts _ (List.mem_append_right _ (tb_4 195 rfl))), (List.forall_mem_cons.mpr ⟨va_Nw.of rfl (hts _ (List.mem_append_right _ (tb_4 206 rfl))), (List.forall_mem_cons.mpr ⟨va_Nw.of rfl (hts _ (List.mem_append_right _ (tb_4 214 rfl))), (List.forall_mem_cons.mpr ⟨va_Nw.of rfl (hts _ (List.mem_append_right _ (tb_4 222 rfl))), (List.forall_mem_cons.mpr ⟨va_Nw.of rfl (hts _ (List.mem_append_right _ (tb_5 5 rfl))), (List.forall_mem_cons.mpr ⟨va_Nw.of rfl (hts _ (List.mem_append_right _ (tb_5 16 rfl))), (List.forall_mem_cons.mpr ⟨va_Nw.of rfl (hts _ (List.mem_append_right _ (tb_5 28 rfl))), (List.forall_mem_cons.mpr ⟨va_Nw.of rfl (hts _ (List.mem_append_right _ (tb_5 118 rfl))), (List.forall_mem_cons.mpr ⟨va_Nw.of rfl (hts _ (List.mem_append_right _ (tb_5 136 rfl))), (List.forall_mem_cons.mpr ⟨va_Nw.of rfl (hts _ (List.mem_append_right _ (tb_5 144 rfl))), (List.forall_mem_cons.mpr ⟨va_Nw.of rfl (hts _ (List.mem_append_right _ (tb_5 152 rfl))), (List.forall_mem_cons.mpr ⟨va_Nw.of rfl (hts _ (List.mem_append_right _ (tb_5 160 rfl))), (List.forall_mem_cons.mpr ⟨va_Nw.of rfl (hts _ (List.mem_append_right _ (tb_5 168 rfl))), (List.forall_mem_cons.mpr ⟨va_Nw.of rfl (hts _ (List.mem_append_right _ (tb_5 169 rfl))), (List.forall_mem_cons.mpr ⟨va_Nw.of rfl (hts _ (List.mem_append_right _ (tb_5 177 rfl))), (List.forall_mem_cons.mpr ⟨va_Nw.of rfl (hts _ (List.mem_append_right _ (tb_5 201 rfl))), (List.forall_mem_cons.mpr ⟨va_Nw.of rfl (hts _ (List.mem_append_right _ (tb_5 205 rfl))), (List.forall_mem_cons.mpr ⟨va_Nw.of rfl (hts _ (List.mem_append_right _ (tb_5 213 rfl))), (List.forall_mem_cons.mpr ⟨va_Nw.of rfl (hts _ (List.mem_append_right _ (tb_5 224 rfl))), (List.forall_mem_cons.mpr ⟨va_Nw.of rfl (hts _ (List.mem_append_right _ (tb_5 239 rfl))), (List.forall_mem_cons.mpr ⟨va_Nw.of rfl (hts _ (List.mem_append_right _ (tb_6 10 rfl))), (List.forall_mem_cons.mpr ⟨va_Nw.of rfl (hts _ (List.mem_append_right _ (tb_6 59 rfl))), (List.forall_mem_cons.mpr ⟨va_Nw.of rfl (hts _ (List.mem_append_right _ (tb_6 68 rfl))), (List.forall_mem_cons.mpr ⟨va_Nw.of rfl (hts _ (List.mem_append_right _ (tb_6 69 rfl))), (List.forall_mem_cons.mpr ⟨va_Nw.of rfl (hts _ (List.mem_append_right _ (tb_6 70 rfl))), (List.forall_mem_cons.mpr ⟨va_Nw.of rfl (hts _ (List.mem_append_right _ (tb_6 71 rfl))), (List.forall_mem_cons.mpr ⟨va_Nw.of rfl (hts _ (List.mem_append_right _ (tb_6 75 rfl))), (List.forall_mem_cons.mpr ⟨va_Nw.of rfl (hts _ (List.mem_append_right _ (tb_6 89 rfl))), (List.forall_mem_cons.mpr ⟨va_Nw.of rfl (hts _ (List.mem_append_right _ (tb_6 101 rfl))), (List.forall_mem_cons.mpr ⟨va_Nw.of rfl (hts _ (List.mem_append_right _ (tb_6 116 rfl))), (List.forall_mem_cons.mpr ⟨va_Nw.of rfl (hts _ (List.mem_append_right _ (tb_6 128 rfl))), (List.forall_mem_cons.mpr ⟨va_Nw.of rfl (hts _ (List.mem_append_right _ (tb_6 148 rfl))), (List.forall_mem_cons.mpr ⟨va_Nw.of rfl (hts _ (List.mem_append_right _ (tb_6 157 rfl))), (List.forall_mem_cons.mpr ⟨va_Nw.of rfl (hts _ (List.mem_append_right _ (tb_6 169 rfl))), (List.forall_mem_cons.mpr ⟨va_Nw.of rfl (hts _ (List.mem_append_right _ (tb_6 201 rfl))), (List.forall_mem_cons.mpr ⟨va_Nw.of rfl (hts _ (List.mem_append_right _ (tb_6 206 rfl))), (List.forall_mem_cons.mpr ⟨va_Nw.of rfl (hts _ (List.mem_append_right _ (tb_6 214 rfl))), (List.forall_mem_nil _)⟩)⟩)⟩)⟩)⟩)⟩)⟩)⟩)⟩)⟩)⟩)⟩)⟩)⟩)⟩)⟩)⟩)⟩)⟩)⟩)⟩)⟩)⟩)⟩)⟩)⟩)⟩)⟩)⟩)⟩)⟩)⟩)⟩)⟩)⟩)⟩)⟩)⟩)⟩)⟩)⟩)⟩)⟩)⟩)⟩)⟩)⟩)⟩)⟩)⟩)⟩)⟩)⟩)⟩)⟩)⟩)⟩)⟩)⟩)⟩)⟩)⟩)⟩)⟩)⟩)⟩)⟩)⟩)⟩)⟩)⟩)⟩)⟩)⟩)⟩)⟩)⟩)⟩)⟩)⟩)⟩)⟩)⟩)⟩)⟩)⟩)⟩)⟩)⟩)⟩)⟩)⟩)⟩)⟩)⟩)⟩)⟩)⟩)⟩)⟩)⟩)⟩)⟩)⟩)⟩)⟩)⟩)
theorem arrK (hts : ∀ w ∈ lw_tbl, w.before args s = true) (t : Nat) : ∃ cA : ClassId, ∀ ty, kE t = some ty → ArrOfT s cA ty ∧ va_RA s cA ty := by
  obtain ⟨o0, a0, b0⟩ := arrO (C := "BondWarehouse$Entry") (hts _ (List.mem_append_right _ (tb_1 73 rfl)))
  obtain ⟨o1, a1, b1⟩ := arrO (C := "BondWarehouse$Receipt") (hts _ (List.mem_append_right _ (tb_1 75 rfl)))
  obtain ⟨o2, a2, b2⟩ := arrO (C := "BondWarehouse$Chamber") (hts _ (List.mem_append_right _ (tb_1 77 rfl)))
  obtain ⟨o3, a3, b3⟩ := arrO (C := "BondWarehouse$KindAccount") (hts _ (List.mem_append_right _ (tb_1 79 rfl)))
  obtain ⟨o4, a4, b4⟩ := arrO (C := "BondWarehouse$State") (hts _ (List.mem_append_right _ (tb_2 43 rfl)))
  obtain ⟨p0, e0, f0⟩ := arrP (ty := .int) (hts _ (List.mem_append_right _ (tb_1 132 rfl)))
  obtain ⟨p1, e1, f1⟩ := arrP (ty := .boolean) (hts _ (List.mem_append_right _ (tb_2 68 rfl)))
  cases h : kE t with
  | none => exact ⟨p0, fun ty hh => by cases hh⟩
  | some ty0 =>
    have hm : ty0 = .object "BondWarehouse$Entry" ∨ ty0 = .object "BondWarehouse$Receipt" ∨ ty0 = .object "BondWarehouse$Chamber" ∨ ty0 = .object "BondWarehouse$KindAccount" ∨ ty0 = .object "BondWarehouse$State" ∨ ty0 = .int ∨ ty0 = .boolean := by
      unfold kE at h
      split at h <;> cases h <;> simp
    rcases hm with rfl | rfl | rfl | rfl | rfl | rfl | rfl
    · exact ⟨o0, fun ty hh => by cases hh; exact ⟨a0, b0⟩⟩
    · exact ⟨o1, fun ty hh => by cases hh; exact ⟨a1, b1⟩⟩
    · exact ⟨o2, fun ty hh => by cases hh; exact ⟨a2, b2⟩⟩
    · exact ⟨o3, fun ty hh => by cases hh; exact ⟨a3, b3⟩⟩
    · exact ⟨o4, fun ty hh => by cases hh; exact ⟨a4, b4⟩⟩
    · exact ⟨p0, fun ty hh => by cases hh; exact ⟨e0, f0⟩⟩
    · exact ⟨p1, fun ty hh => by cases hh; exact ⟨e1, f1⟩⟩
theorem KV_start (hts : ∀ w ∈ lw_tbl, w.before args s = true) : ∃ (D : va_G) (cA : Nat → ClassId), KV D cA s := by
  obtain ⟨f, hf⟩ := Classical.axiomOfChoice (clsK (s := s) hts)
  obtain ⟨g, hg⟩ := Classical.axiomOfChoice (arrK (s := s) hts)
  exact ⟨(fun c => (f c).1, fun c => (f c).2), g, ⟨fun c q hq => hf c q hq, fun k q h => by simp at h⟩, hg, nfK hts, nmK hts⟩
theorem nwl (hgv : (Jvm.Cond.and given_1 narrow_1).before args s = true) {w : Cond} (i : Nat) (h : nLst[i]? = some w) : w.before args s = true := flat_of_before _ hgv w (List.mem_of_getElem? h)
theorem KW_start (hts : ∀ w ∈ lw_tbl, w.before args s = true) (hgv : (Jvm.Cond.and given_1 narrow_1).before args s = true) : ∃ (D : va_G) (cA : Nat → ClassId), KW D cA s := by
  obtain ⟨D, cA, h⟩ := KV_start hts
  exact ⟨D, cA, ⟨h, va_Nc.of (args := args) (nwl hgv 123 (by decide +kernel)), va_Nc.of (args := args) (nwl hgv 124 (by decide +kernel)), va_Nc.of (args := args) (nwl hgv 100 (by decide +kernel))⟩⟩
theorem row_1 (hts : ∀ w ∈ lw_tbl, w.before args s = true) (hgv : (Jvm.Cond.and given_1 narrow_1).before args s = true) {A : Nat → Prop} (hA : ∀ q : Nat, q < s.heap.size → ¬ A q) : ∃ t : Nat, va_Z (scls 1) (snm 1) "[I" (.ref t) A s s.heap ∧ va_T .int t (slen 1) (fun j => .int (stv 1 j)) A s s.heap := by
  have hel : ∀ j : Nat, j < 6 → (Term.elem (.static "BondWarehouse" "FIRST_RATES_BY_VALUE" "[I") (.int (Int32.ofNat j))).eval args s none [] s = some (.int (stv 1 j)) := by
    intro j hj
    match j, hj with
    | 0, _ => exact va_eqt (nwl hgv 7 (by decide +kernel))
    | 1, _ => exact va_eqt (nwl hgv 8 (by decide +kernel))
    | 2, _ => exact va_eqt (nwl hgv 9 (by decide +kernel))
    | 3, _ => exact va_eqt (nwl hgv 10 (by decide +kernel))
    | 4, _ => exact va_eqt (nwl hgv 11 (by decide +kernel))
    | 5, _ => exact va_eqt (nwl hgv 12 (by decide +kernel))
    | j + 6, h => exact absurd h (by omega)
  obtain ⟨t, h1, h2⟩ := va_Tof (args := args) (s := s) (tm := .static "BondWarehouse" "FIRST_RATES_BY_VALUE" "[I") (ty := .int) (N := 6) (f := fun j => .int (stv 1 j)) (A := A) (by decide) (nwl hgv 5 (by decide +kernel)) (va_eqt (nwl hgv 6 (by decide +kernel))) hel hA
  exact ⟨t, va_Zof (args := args) (hts _ (List.mem_append_right _ (tb_1 179 rfl))) (hts _ (List.mem_append_right _ (tb_1 1 rfl))) h1 hA, h2⟩
theorem row_2 (hts : ∀ w ∈ lw_tbl, w.before args s = true) (hgv : (Jvm.Cond.and given_1 narrow_1).before args s = true) {A : Nat → Prop} (hA : ∀ q : Nat, q < s.heap.size → ¬ A q) : ∃ t : Nat, va_Z (scls 2) (snm 2) "[I" (.ref t) A s s.heap ∧ va_T .int t (slen 2) (fun j => .int (stv 2 j)) A s s.heap := by
  have hel : ∀ j : Nat, j < 6 → (Term.elem (.static "BondWarehouse" "FIRST_RATES_BY_WEIGHT" "[I") (.int (Int32.ofNat j))).eval args s none [] s = some (.int (stv 2 j)) := by
    intro j hj
    match j, hj with
    | 0, _ => exact va_eqt (nwl hgv 16 (by decide +kernel))
    | 1, _ => exact va_eqt (nwl hgv 17 (by decide +kernel))
    | 2, _ => exact va_eqt (nwl hgv 18 (by decide +kernel))
    | 3, _ => exact va_eqt (nwl hgv 19 (by decide +kernel))
    | 4, _ => exact va_eqt (nwl hgv 20 (by decide +kernel))
    | 5, _ => exact va_eqt (nwl hgv 21 (by decide +kernel))
    | j + 6, h => exact absurd h (by omega)
  obtain ⟨t, h1, h2⟩ := va_Tof (args := args) (s := s) (tm := .static "BondWarehouse" "FIRST_RATES_BY_WEIGHT" "[I") (ty := .int) (N := 6) (f := fun j => .int (stv 2 j)) (A := A) (by decide) (nwl hgv 14 (by decide +kernel)) (va_eqt (nwl hgv 15 (by decide +kernel))) hel hA
  exact ⟨t, va_Zof (args := args) (hts _ (List.mem_append_right _ (tb_1 181 rfl))) (hts _ (List.mem_append_right _ (tb_1 1 rfl))) h1 hA, h2⟩
theorem row_3 (hts : ∀ w ∈ lw_tbl, w.before args s = true) (hgv : (Jvm.Cond.and given_1 narrow_1).before args s = true) {A : Nat → Prop} (hA : ∀ q : Nat, q < s.heap.size → ¬ A q) : ∃ t : Nat, va_Z (scls 3) (snm 3) "[I" (.ref t) A s s.heap ∧ va_T .int t (slen 3) (fun j => .int (stv 3 j)) A s s.heap := by
  have hel : ∀ j : Nat, j < 6 → (Term.elem (.static "BondWarehouse" "WASTE_RATES" "[I") (.int (Int32.ofNat j))).eval args s none [] s = some (.int (stv 3 j)) := by
    intro j hj
    match j, hj with
    | 0, _ => exact va_eqt (nwl hgv 27 (by decide +kernel))
    | 1, _ => exact va_eqt (nwl hgv 28 (by decide +kernel))
    | 2, _ => exact va_eqt (nwl hgv 29 (by decide +kernel))
    | 3, _ => exact va_eqt (nwl hgv 30 (by decide +kernel))
    | 4, _ => exact va_eqt (nwl hgv 31 (by decide +kernel))
    | 5, _ => exact va_eqt (nwl hgv 32 (by decide +kernel))
    | j + 6, h => exact absurd h (by omega)
  obtain ⟨t, h1, h2⟩ := va_Tof (args := args) (s := s) (tm := .static "BondWarehouse" "WASTE_RATES" "[I") (ty := .int) (N := 6) (f := fun j => .int (stv 3 j)) (A := A) (by decide) (nwl hgv 25 (by decide +kernel)) (va_eqt (nwl hgv 26 (by decide +kernel))) hel hA
  exact ⟨t, va_Zof (args := args) (hts _ (List.mem_append_right _ (tb_4 30 rfl))) (hts _ (List.mem_append_right _ (tb_1 1 rfl))) h1 hA, h2⟩
theorem row_4 (hts : ∀ w ∈ lw_tbl, w.before args s = true) (hgv : (Jvm.Cond.and given_1 narrow_1).before args s = true) {A : Nat → Prop} (hA : ∀ q : Nat, q < s.heap.size → ¬ A q) : ∃ t : Nat, va_Z (scls 4) (snm 4) "[I" (.ref t) A s s.heap ∧ va_T .int t (slen 4) (fun j => .int (stv 4 j)) A s s.heap := by
  have hel : ∀ j : Nat, j < 8 → (Term.elem (.static "BondWarehouse$Journal" "LEAST" "[I") (.int (Int32.ofNat j))).eval args s none [] s = some (.int (stv 4 j)) := by
    intro j hj
    match j, hj with
    | 0, _ => exact va_eqt (nwl hgv 70 (by decide +kernel))
    | 1, _ => exact va_eqt (nwl hgv 71 (by decide +kernel))
    | 2, _ => exact va_eqt (nwl hgv 72 (by decide +kernel))
    | 3, _ => exact va_eqt (nwl hgv 73 (by decide +kernel))
    | 4, _ => exact va_eqt (nwl hgv 74 (by decide +kernel))
    | 5, _ => exact va_eqt (nwl hgv 75 (by decide +kernel))
    | 6, _ => exact va_eqt (nwl hgv 76 (by decide +kernel))
    | 7, _ => exact va_eqt (nwl hgv 77 (by decide +kernel))
    | j + 8, h => exact absurd h (by omega)
  obtain ⟨t, h1, h2⟩ := va_Tof (args := args) (s := s) (tm := .static "BondWarehouse$Journal" "LEAST" "[I") (ty := .int) (N := 8) (f := fun j => .int (stv 4 j)) (A := A) (by decide) (nwl hgv 68 (by decide +kernel)) (va_eqt (nwl hgv 69 (by decide +kernel))) hel hA
  exact ⟨t, va_Zof (args := args) (hts _ (List.mem_append_right _ (tb_6 56 rfl))) (hts _ (List.mem_append_right _ (tb_1 10 rfl))) h1 hA, h2⟩
theorem row_5 (hts : ∀ w ∈ lw_tbl, w.before args s = true) (hgv : (Jvm.Cond.and given_1 narrow_1).before args s = true) {A : Nat → Prop} (hA : ∀ q : Nat, q < s.heap.size → ¬ A q) : ∃ t : Nat, va_Z (scls 5) (snm 5) "[I" (.ref t) A s s.heap ∧ va_T .int t (slen 5) (fun j => .int (stv 5 j)) A s s.heap := by
  have hel : ∀ j : Nat, j < 8 → (Term.elem (.static "BondWarehouse$Journal" "MOST" "[I") (.int (Int32.ofNat j))).eval args s none [] s = some (.int (stv 5 j)) := by
    intro j hj
    match j, hj with
    | 0, _ => exact va_eqt (nwl hgv 81 (by decide +kernel))
    | 1, _ => exact va_eqt (nwl hgv 82 (by decide +kernel))
    | 2, _ => exact va_eqt (nwl hgv 83 (by decide +kernel))
    | 3, _ => exact va_eqt (nwl hgv 84 (by decide +kernel))
    | 4, _ => exact va_eqt (nwl hgv 85 (by decide +kernel))
    | 5, _ => exact va_eqt (nwl hgv 86 (by decide +kernel))
    | 6, _ => exact va_eqt (nwl hgv 87 (by decide +kernel))
    | 7, _ => exact va_eqt (nwl hgv 88 (by decide +kernel))
    | j + 8, h => exact absurd h (by omega)
  obtain ⟨t, h1, h2⟩ := va_Tof (args := args) (s := s) (tm := .static "BondWarehouse$Journal" "MOST" "[I") (ty := .int) (N := 8) (f := fun j => .int (stv 5 j)) (A := A) (by decide) (nwl hgv 79 (by decide +kernel)) (va_eqt (nwl hgv 80 (by decide +kernel))) hel hA
  exact ⟨t, va_Zof (args := args) (hts _ (List.mem_append_right _ (tb_6 58 rfl))) (hts _ (List.mem_append_right _ (tb_1 10 rfl))) h1 hA, h2⟩
theorem row_6 (hts : ∀ w ∈ lw_tbl, w.before args s = true) (hgv : (Jvm.Cond.and given_1 narrow_1).before args s = true) {A : Nat → Prop} (hA : ∀ q : Nat, q < s.heap.size → ¬ A q) : ∃ t : Nat, va_Z (scls 6) (snm 6) "[I" (.ref t) A s s.heap ∧ va_T .int t (slen 6) (fun j => .int (stv 6 j)) A s s.heap := by
  have hel : ∀ j : Nat, j < 4 → (Term.elem (.static "BondWarehouse$Journal" "GOODS" "[I") (.int (Int32.ofNat j))).eval args s none [] s = some (.int (stv 6 j)) := by
    intro j hj
    match j, hj with
    | 0, _ => exact va_eqt (nwl hgv 36 (by decide +kernel))
    | 1, _ => exact va_eqt (nwl hgv 37 (by decide +kernel))
    | 2, _ => exact va_eqt (nwl hgv 38 (by decide +kernel))
    | 3, _ => exact va_eqt (nwl hgv 39 (by decide +kernel))
    | j + 4, h => exact absurd h (by omega)
  obtain ⟨t, h1, h2⟩ := va_Tof (args := args) (s := s) (tm := .static "BondWarehouse$Journal" "GOODS" "[I") (ty := .int) (N := 4) (f := fun j => .int (stv 6 j)) (A := A) (by decide) (nwl hgv 34 (by decide +kernel)) (va_eqt (nwl hgv 35 (by decide +kernel))) hel hA
  exact ⟨t, va_Zof (args := args) (hts _ (List.mem_append_right _ (tb_6 34 rfl))) (hts _ (List.mem_append_right _ (tb_1 10 rfl))) h1 hA, h2⟩
theorem row_7 (hts : ∀ w ∈ lw_tbl, w.before args s = true) (hgv : (Jvm.Cond.and given_1 narrow_1).before args s = true) {A : Nat → Prop} (hA : ∀ q : Nat, q < s.heap.size → ¬ A q) : ∃ t : Nat, va_Z (scls 7) (snm 7) "[I" (.ref t) A s s.heap ∧ va_T .int t (slen 7) (fun j => .int (stv 7 j)) A s s.heap := by
  have hel : ∀ j : Nat, j < 2 → (Term.elem (.static "BondWarehouse$Journal" "PART" "[I") (.int (Int32.ofNat j))).eval args s none [] s = some (.int (stv 7 j)) := by
    intro j hj
    match j, hj with
    | 0, _ => exact va_eqt (nwl hgv 43 (by decide +kernel))
    | 1, _ => exact va_eqt (nwl hgv 44 (by decide +kernel))
    | j + 2, h => exact absurd h (by omega)
  obtain ⟨t, h1, h2⟩ := va_Tof (args := args) (s := s) (tm := .static "BondWarehouse$Journal" "PART" "[I") (ty := .int) (N := 2) (f := fun j => .int (stv 7 j)) (A := A) (by decide) (nwl hgv 41 (by decide +kernel)) (va_eqt (nwl hgv 42 (by decide +kernel))) hel hA
  exact ⟨t, va_Zof (args := args) (hts _ (List.mem_append_right _ (tb_6 36 rfl))) (hts _ (List.mem_append_right _ (tb_1 10 rfl))) h1 hA, h2⟩
theorem row_8 (hts : ∀ w ∈ lw_tbl, w.before args s = true) (hgv : (Jvm.Cond.and given_1 narrow_1).before args s = true) {A : Nat → Prop} (hA : ∀ q : Nat, q < s.heap.size → ¬ A q) : ∃ t : Nat, va_Z (scls 8) (snm 8) "[I" (.ref t) A s s.heap ∧ va_T .int t (slen 8) (fun j => .int (stv 8 j)) A s s.heap := by
  have hel : ∀ j : Nat, j < 2 → (Term.elem (.static "BondWarehouse$Journal" "WEIGHING" "[I") (.int (Int32.ofNat j))).eval args s none [] s = some (.int (stv 8 j)) := by
    intro j hj
    match j, hj with
    | 0, _ => exact va_eqt (nwl hgv 48 (by decide +kernel))
    | 1, _ => exact va_eqt (nwl hgv 49 (by decide +kernel))
    | j + 2, h => exact absurd h (by omega)
  obtain ⟨t, h1, h2⟩ := va_Tof (args := args) (s := s) (tm := .static "BondWarehouse$Journal" "WEIGHING" "[I") (ty := .int) (N := 2) (f := fun j => .int (stv 8 j)) (A := A) (by decide) (nwl hgv 46 (by decide +kernel)) (va_eqt (nwl hgv 47 (by decide +kernel))) hel hA
  exact ⟨t, va_Zof (args := args) (hts _ (List.mem_append_right _ (tb_6 38 rfl))) (hts _ (List.mem_append_right _ (tb_1 10 rfl))) h1 hA, h2⟩
theorem row_9 (hts : ∀ w ∈ lw_tbl, w.before args s = true) (hgv : (Jvm.Cond.and given_1 narrow_1).before args s = true) {A : Nat → Prop} (hA : ∀ q : Nat, q < s.heap.size → ¬ A q) : ∃ t : Nat, va_Z (scls 9) (snm 9) "[I" (.ref t) A s s.heap ∧ va_T .int t (slen 9) (fun j => .int (stv 9 j)) A s s.heap := by
  have hel : ∀ j : Nat, j < 2 → (Term.elem (.static "BondWarehouse$Journal" "WAY" "[I") (.int (Int32.ofNat j))).eval args s none [] s = some (.int (stv 9 j)) := by
    intro j hj
    match j, hj with
    | 0, _ => exact va_eqt (nwl hgv 53 (by decide +kernel))
    | 1, _ => exact va_eqt (nwl hgv 54 (by decide +kernel))
    | j + 2, h => exact absurd h (by omega)
  obtain ⟨t, h1, h2⟩ := va_Tof (args := args) (s := s) (tm := .static "BondWarehouse$Journal" "WAY" "[I") (ty := .int) (N := 2) (f := fun j => .int (stv 9 j)) (A := A) (by decide) (nwl hgv 51 (by decide +kernel)) (va_eqt (nwl hgv 52 (by decide +kernel))) hel hA
  exact ⟨t, va_Zof (args := args) (hts _ (List.mem_append_right _ (tb_6 40 rfl))) (hts _ (List.mem_append_right _ (tb_1 10 rfl))) h1 hA, h2⟩
theorem row_10 (hts : ∀ w ∈ lw_tbl, w.before args s = true) (hgv : (Jvm.Cond.and given_1 narrow_1).before args s = true) {A : Nat → Prop} (hA : ∀ q : Nat, q < s.heap.size → ¬ A q) : ∃ t : Nat, va_Z (scls 10) (snm 10) "[I" (.ref t) A s s.heap ∧ va_T .int t (slen 10) (fun j => .int (stv 10 j)) A s s.heap := by
  have hel : ∀ j : Nat, j < 1 → (Term.elem (.static "BondWarehouse$Journal" "SEAL" "[I") (.int (Int32.ofNat j))).eval args s none [] s = some (.int (stv 10 j)) := by
    intro j hj
    match j, hj with
    | 0, _ => exact va_eqt (nwl hgv 58 (by decide +kernel))
    | j + 1, h => exact absurd h (by omega)
  obtain ⟨t, h1, h2⟩ := va_Tof (args := args) (s := s) (tm := .static "BondWarehouse$Journal" "SEAL" "[I") (ty := .int) (N := 1) (f := fun j => .int (stv 10 j)) (A := A) (by decide) (nwl hgv 56 (by decide +kernel)) (va_eqt (nwl hgv 57 (by decide +kernel))) hel hA
  exact ⟨t, va_Zof (args := args) (hts _ (List.mem_append_right _ (tb_6 42 rfl))) (hts _ (List.mem_append_right _ (tb_1 10 rfl))) h1 hA, h2⟩
theorem row_11 (hts : ∀ w ∈ lw_tbl, w.before args s = true) (hgv : (Jvm.Cond.and given_1 narrow_1).before args s = true) {A : Nat → Prop} (hA : ∀ q : Nat, q < s.heap.size → ¬ A q) : ∃ t : Nat, va_Z (scls 11) (snm 11) "[I" (.ref t) A s s.heap ∧ va_T .int t (slen 11) (fun j => .int (stv 11 j)) A s s.heap := by
  have hel : ∀ j : Nat, j < 1 → (Term.elem (.static "BondWarehouse$Journal" "MONEY" "[I") (.int (Int32.ofNat j))).eval args s none [] s = some (.int (stv 11 j)) := by
    intro j hj
    match j, hj with
    | 0, _ => exact va_eqt (nwl hgv 62 (by decide +kernel))
    | j + 1, h => exact absurd h (by omega)
  obtain ⟨t, h1, h2⟩ := va_Tof (args := args) (s := s) (tm := .static "BondWarehouse$Journal" "MONEY" "[I") (ty := .int) (N := 1) (f := fun j => .int (stv 11 j)) (A := A) (by decide) (nwl hgv 60 (by decide +kernel)) (va_eqt (nwl hgv 61 (by decide +kernel))) hel hA
  exact ⟨t, va_Zof (args := args) (hts _ (List.mem_append_right _ (tb_6 44 rfl))) (hts _ (List.mem_append_right _ (tb_1 10 rfl))) h1 hA, h2⟩
theorem row_12 (hts : ∀ w ∈ lw_tbl, w.before args s = true) (hgv : (Jvm.Cond.and given_1 narrow_1).before args s = true) {A : Nat → Prop} (hA : ∀ q : Nat, q < s.heap.size → ¬ A q) : ∃ t : Nat, va_Z (scls 12) (snm 12) "[I" (.ref t) A s s.heap ∧ va_T .int t (slen 12) (fun j => .int (stv 12 j)) A s s.heap := by
  have hel : ∀ j : Nat, j < 1 → (Term.elem (.static "BondWarehouse$Journal" "TIME" "[I") (.int (Int32.ofNat j))).eval args s none [] s = some (.int (stv 12 j)) := by
    intro j hj
    match j, hj with
    | 0, _ => exact va_eqt (nwl hgv 66 (by decide +kernel))
    | j + 1, h => exact absurd h (by omega)
  obtain ⟨t, h1, h2⟩ := va_Tof (args := args) (s := s) (tm := .static "BondWarehouse$Journal" "TIME" "[I") (ty := .int) (N := 1) (f := fun j => .int (stv 12 j)) (A := A) (by decide) (nwl hgv 64 (by decide +kernel)) (va_eqt (nwl hgv 65 (by decide +kernel))) hel hA
  exact ⟨t, va_Zof (args := args) (hts _ (List.mem_append_right _ (tb_6 46 rfl))) (hts _ (List.mem_append_right _ (tb_1 10 rfl))) h1 hA, h2⟩
theorem rowK (hts : ∀ w ∈ lw_tbl, w.before args s = true) (hgv : (Jvm.Cond.and given_1 narrow_1).before args s = true) {A : Nat → Prop} (hA : ∀ q : Nat, q < s.heap.size → ¬ A q) (r : Nat) : ∃ t : Nat, ok 20 r → va_Z (scls r) (snm r) "[I" (.ref t) A s s.heap ∧ va_T .int t (slen r) (fun j => .int (stv r j)) A s s.heap := by
  match r with
  | 0 => exact ⟨0, fun h => absurd h.1 (by decide)⟩
  | 1 => obtain ⟨t, h⟩ := row_1 hts hgv hA; exact ⟨t, fun _ => h⟩
  | 2 => obtain ⟨t, h⟩ := row_2 hts hgv hA; exact ⟨t, fun _ => h⟩
  | 3 => obtain ⟨t, h⟩ := row_3 hts hgv hA; exact ⟨t, fun _ => h⟩
  | 4 => obtain ⟨t, h⟩ := row_4 hts hgv hA; exact ⟨t, fun _ => h⟩
  | 5 => obtain ⟨t, h⟩ := row_5 hts hgv hA; exact ⟨t, fun _ => h⟩
  | 6 => obtain ⟨t, h⟩ := row_6 hts hgv hA; exact ⟨t, fun _ => h⟩
  | 7 => obtain ⟨t, h⟩ := row_7 hts hgv hA; exact ⟨t, fun _ => h⟩
  | 8 => obtain ⟨t, h⟩ := row_8 hts hgv hA; exact ⟨t, fun _ => h⟩
  | 9 => obtain ⟨t, h⟩ := row_9 hts hgv hA; exact ⟨t, fun _ => h⟩
  | 10 => obtain ⟨t, h⟩ := row_10 hts hgv hA; exact ⟨t, fun _ => h⟩
  | 11 => obtain ⟨t, h⟩ := row_11 hts hgv hA; exact ⟨t, fun _ => h⟩
  | 12 => obtain ⟨t, h⟩ := row_12 hts hgv hA; exact ⟨t, fun _ => h⟩
  | r + 13 => exact ⟨0, fun h => absurd (show r + 13 ≤ 12 from h.2) (by omega)⟩
theorem txt_K {own tx : String} {k : Nat} (h1 : (Cond.stringRef own k tx).before args s = true) (h2 : (Cond.exactly (.string own k) "java/lang/String").before args s = true) : ∃ sa, vk_R own k tx sa s := by
  obtain ⟨sa, c9, cell9, k9, h, -⟩ := Cond.exactly_spec h2
  exact ⟨sa, vk_R.of h1 h⟩
theorem txtK (hts : ∀ w ∈ lw_tbl, w.before args s = true) (hgv : (Jvm.Cond.and given_1 narrow_1).before args s = true) : ∀ q ∈ txL, ∃ sa, vk_R "BondWarehouse" q.1 q.2 sa s :=
  (List.forall_mem_cons.mpr ⟨txt_K (args := args) (hts _ (List.mem_append_right _ (tb_4 153 rfl))) (nwl hgv 217 (by decide +kernel)), (List.forall_mem_cons.mpr ⟨txt_K (args := args) (hts _ (List.mem_append_right _ (tb_3 63 rfl))) (nwl hgv 171 (by decide +kernel)), (List.forall_mem_cons.mpr ⟨txt_K (args := args) (hts _ (List.mem_append_right _ (tb_5 238 rfl))) (nwl hgv 355 (by decide +kernel)), (List.forall_mem_cons.mpr ⟨txt_K (args := args) (hts _ (List.mem_append_right _ (tb_6 67 rfl))) (nwl hgv 384 (by decide +kernel)), (List.forall_mem_cons.mpr ⟨txt_K (args := args) (hts _ (List.mem_append_right _ (tb_6 100 rfl))) (nwl hgv 437 (by decide +kernel)), (List.forall_mem_cons.mpr ⟨txt_K (args := args) (hts _ (List.mem_append_right _ (tb_6 127 rfl))) (nwl hgv 502 (by decide +kernel)), (List.forall_mem_cons.mpr ⟨txt_K (args := args) (hts _ (List.mem_append_right _ (tb_3 27 rfl))) (nwl hgv 125 (by decide +kernel)), (List.forall_mem_cons.mpr ⟨txt_K (args := args) (hts _ (List.mem_append_right _ (tb_3 79 rfl))) (nwl hgv 188 (by decide +kernel)), (List.forall_mem_cons.mpr ⟨txt_K (args := args) (hts _ (List.mem_append_right _ (tb_4 237 rfl))) (nwl hgv 283 (by decide +kernel)), (List.forall_mem_cons.mpr ⟨txt_K (args := args) (hts _ (List.mem_append_right _ (tb_6 115 rfl))) (nwl hgv 467 (by decide +kernel)), (List.forall_mem_cons.mpr ⟨txt_K (args := args) (hts _ (List.mem_append_right _ (tb_4 166 rfl))) (nwl hgv 253 (by decide +kernel)), (List.forall_mem_cons.mpr ⟨txt_K (args := args) (hts _ (List.mem_append_right _ (tb_5 29 rfl))) (nwl hgv 316 (by decide +kernel)), (List.forall_mem_nil _)⟩)⟩)⟩)⟩)⟩)⟩)⟩)⟩)⟩)⟩)⟩)⟩)
theorem decK (hts : ∀ w ∈ lw_tbl, w.before args s = true) : ∀ y ∈ decL, va_Nw (.declares y) s :=
  (List.forall_mem_cons.mpr ⟨va_Nw.of rfl (hts _ (List.mem_append_right _ (tb_2 230 rfl))), (List.forall_mem_cons.mpr ⟨va_Nw.of rfl (hts _ (List.mem_append_right _ (tb_2 232 rfl))), (List.forall_mem_cons.mpr ⟨va_Nw.of rfl (hts _ (List.mem_append_right _ (tb_2 234 rfl))), (List.forall_mem_nil _)⟩)⟩)⟩)
theorem aoK (hts : ∀ w ∈ lw_tbl, w.before args s = true) : ∀ C ∈ aoL, va_AO C s :=
  (List.forall_mem_cons.mpr ⟨va_AO.of (A := args) (hts _ (List.mem_append_right _ (tb_1 73 rfl))), (List.forall_mem_cons.mpr ⟨va_AO.of (A := args) (hts _ (List.mem_append_right _ (tb_1 75 rfl))), (List.forall_mem_cons.mpr ⟨va_AO.of (A := args) (hts _ (List.mem_append_right _ (tb_1 77 rfl))), (List.forall_mem_cons.mpr ⟨va_AO.of (A := args) (hts _ (List.mem_append_right _ (tb_1 79 rfl))), (List.forall_mem_cons.mpr ⟨va_AO.of (A := args) (hts _ (List.mem_append_right _ (tb_2 43 rfl))), (List.forall_mem_nil _)⟩)⟩)⟩)⟩)⟩)
theorem castK (hts : ∀ w ∈ lw_tbl, w.before args s = true) (k : Nat) (h : k < 4) : va_Nw (.castable (exN k) (exN k)) s := by
  match k, h with
  | 0, _ => exact va_Nw.of rfl (hts _ (List.mem_append_right _ (tb_3 72 rfl)))
  | 1, _ => exact va_Nw.of rfl (hts _ (List.mem_append_right _ (tb_2 228 rfl)))
  | 2, _ => exact va_Nw.of rfl (hts _ (List.mem_append_right _ (tb_3 56 rfl)))
  | 3, _ => exact va_Nw.of rfl (hts _ (List.mem_append_right _ (tb_3 72 rfl)))
  | k + 4, h => exact absurd h (by omega)
theorem ZC_start (hts : ∀ w ∈ lw_tbl, w.before args s = true) (hgv : (Jvm.Cond.and given_1 narrow_1).before args s = true) {A : Nat → Prop} (hA : ∀ q : Nat, q < s.heap.size → ¬ A q) : ∃ sA : Nat → Nat, ∀ ad : Nat → Nat → Nat, (∀ r, ad 20 r = sA r) → ZC ad A s s.heap := by
  obtain ⟨sA, h⟩ := Classical.axiomOfChoice (rowK (A := A) hts hgv hA)
  refine ⟨sA, fun ad e => ⟨fun r hr => ⟨by rw [e]; exact (h r hr).1, by rw [e]; exact (h r hr).2⟩, vx_Zqof (args := args) (hts _ (List.mem_append_right _ (tb_3 13 rfl))) (hts _ (List.mem_append_right _ (tb_1 12 rfl))) (nwl hgv 22 (by decide +kernel)) hA, vx_Zqof (args := args) (hts _ (List.mem_append_right _ (tb_3 15 rfl))) (hts _ (List.mem_append_right _ (tb_1 12 rfl))) (nwl hgv 23 (by decide +kernel)) hA, txtK hts hgv, castK hts, decK hts, aoK hts⟩⟩
end SETUP
