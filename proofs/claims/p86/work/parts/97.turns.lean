section LAWRUN
variable {L : Nat} {xs : Nat → Int32} {g : Gh}
theorem and_nn (x : Int32) : 0 ≤ x &&& 2147483647 := by
  rw [Int32.le_iff_toInt_le]
  show (0 : Int) ≤ (x &&& 2147483647).toBitVec.toInt
  have hm : (x &&& 2147483647).toBitVec.msb = false := by
    rw [Int32.toBitVec_and, BitVec.msb_and]
    have : (2147483647 : Int32).toBitVec.msb = false := by decide
    rw [this, Bool.and_false]
  exact BitVec.toInt_nonneg_of_msb_false hm
theorem cell_n (L : Nat) (xs : Nat → Int32) (k : Int32) : ∃ n, n < 2147483648 ∧ cellF L xs k = nI n := nn_of (and_nn _)
theorem nn_n {n : Nat} (h : n < 2147483648) : (0 : Int32) ≤ nI n := nI_le (a := 0) (by omega) h
theorem rm_nn {n m : Nat} (hn : n < 2147483648) (hm : 0 < m) (hm2 : m < 2147483648) : (0 : Int32) ≤ nI n - nI n / nI m * nI m := by
  rw [rm_n hn hm hm2]
  have := Nat.mod_lt n hm
  exact nn_n (by omega)
theorem dv_nn {n m : Nat} (hn : n < 2147483648) (hm : 0 < m) (hm2 : m < 2147483648) : (0 : Int32) ≤ nI n / nI m := by
  have := Nat.div_le_self n m
  rw [pk_div hn hm hm2]
  exact nn_n (by omega)
/-- one turn -/
theorem law_turn {j t : Nat} (ht : t ≤ 40) (hj : j < t) (hg : GI g) (hs : g.1 false = g.1 true) (hJ : JP (g.1 true)) (hc : g.2 ≤ 14 * j) {K : Int32 → Int32 → Gh → Prop} (hK : ∀ g', GI g' → g'.1 false = g'.1 true → JP (g'.1 true) → g'.2 ≤ 14 * (j + 1) → K 1 (nI (j + 1)) g') : w_L_law_B34 L xs (nI t) K 1 (nI j) g := by
  have hft : ¬ false = true := by decide
  have htf : ¬ true = false := by decide
  obtain ⟨n, hn, hr⟩ := cell_n L xs (1 + nI j)
  obtain ⟨mc, hR⟩ := hg true
  obtain ⟨z, z1, z2, z3⟩ := L_act hR hJ (nI n)
  have q1 : (0 : Int32) ≤ nI n - nI n / 100000 * 100000 := rm_nn (m := 100000) hn (by decide) (by decide)
  have q2 : (0 : Int32) ≤ nI n - nI n / 1000 * 1000 := rm_nn (m := 1000) hn (by decide) (by decide)
  have q3 : (0 : Int32) ≤ nI n / 3 := dv_nn (m := 3) hn (by decide) (by decide)
  have q7 : (0 : Int32) ≤ nI n / 7 := dv_nn (m := 7) hn (by decide) (by decide)
  have q11 : (0 : Int32) ≤ nI n / 11 := dv_nn (m := 11) hn (by decide) (by decide)
  have h140 : ∀ g2 : Gh, GI g2 → g2.1 false = g2.1 true → JP (g2.1 true) → g2.2 ≤ 14 * j + 2 → w_L_law_J140 (nI j) (nI n) K g2 := fun g2 a b c d => by
    unfold w_L_law_J140
    refine L_leaves a (by omega) b hft c q7 (fun g3 a3 b3 c3 d3 => ?_)
    refine ⟨fun y => absurd y z10, fun _ => ?_⟩
    refine L_weighs a3 (by omega) b3 hft c3 q11 (fun g4 a4 b4 c4 d4 => ?_)
    refine ⟨fun y => absurd y z10, fun _ x hx => ?_⟩
    rw [hx, nI_1]
    exact hK g4 a4 b4 c4 (by omega)
  unfold w_L_law_B34
  refine ⟨fun y => ?_, fun _ => ⟨fun y => absurd y z10, fun _ => ⟨?_, ?_, fun r13 hr13 => ?_⟩⟩⟩
  · have := (nI_leI (by omega) (by omega)).mp y
    omega
  · rw [show (1 : Int32) + nI j = nI (1 + j) from nI_add 1 j]
    exact nn_n (by omega)
  · rw [show (1 : Int32) + nI j = nI (1 + j) from nI_add 1 j]
    exact nI_le (b := 40) (by omega) (by decide)
  · rw [hr] at hr13
    subst hr13
    refine z3 true g _ hg (by omega) rfl (fun g17 hg17 hi17 => ?_)
    have c1 : g17.1 false = g.1 true := by rw [hg17, gz_1n _ hft]; exact hs
    have c2 : g17.1 true = z.2.1 := by rw [hg17]; exact gz_1 _ _ _
    have c3 : g17.2 ≤ 14 * j + 1 := by rw [hg17]; show g.2 + z.2.2 ≤ _; omega
    refine L_refuses hi17 (by omega) (by rw [c1]; exact hJ) q1 ?_
    refine ⟨fun y => absurd y z10, fun _ => ?_⟩
    refine z3 false g17 _ hi17 (by omega) c1 (fun g23 hg23 hi23 => ?_)
    have c4 : g23.1 false = z.2.1 := by rw [hg23]; exact gz_1 _ _ _
    have c5 : g23.1 true = z.2.1 := by rw [hg23, gz_1n _ htf]; exact c2
    have c6 : g23.2 ≤ 14 * j + 2 := by rw [hg23]; show g17.2 + z.2.2 ≤ _; omega
    refine ⟨fun y => absurd rfl y, fun _ => ?_⟩
    refine L_refuses hi23 (by omega) (by rw [c4]; exact z1) q2 ?_
    refine ⟨fun y => absurd y z10, fun _ => ?_⟩
    refine L_alike hi23 (by omega) (by rw [c4, c5]) ?_
    refine ⟨fun y => absurd y z10, fun _ => ?_⟩
    have h9 := h140 g23 hi23 (by rw [c4, c5]) (by rw [c5]; exact z1) c6
    refine ⟨fun _ => ?_, fun _ => ?_⟩
    · refine L_holds hi23 (by omega) (by rw [c4]; exact z1) q3 ?_
      exact ⟨fun y => absurd y z10, fun _ => h9⟩
    · refine L_holds hi23 (by omega) (by rw [c5]; exact z1) q3 ?_
      exact ⟨fun y => absurd y z10, fun _ => h9⟩
theorem law_true (L : Nat) (xs : Nat → Int32) (hg : GI g) (hs : g.1 false = g.1 true) (hJ : JP (g.1 true)) (hc : g.2 = 0) : w_L_law L xs g := by
  unfold w_L_law
  refine ⟨by decide, by decide, fun r hr x4 hx4 => ?_⟩
  obtain ⟨n, hn, hr2⟩ := cell_n L xs 0
  have hm := Nat.mod_lt n (show 0 < 25 by decide)
  have e4 : x4 = nI (16 + n % 25) := by
    rw [hx4, hr, hr2, show nI n - nI n / 25 * 25 = nI (n % 25) from rm_n hn (m := 25) (by decide) (by decide)]
    exact nI_add 16 _
  subst e4
  have key : ∀ (F j : Nat) (g : Gh), j ≤ 16 + n % 25 → 16 + n % 25 - j < F → GI g → g.1 false = g.1 true → JP (g.1 true) → g.2 ≤ 14 * j → itr (α := Int32 × Int32 × Gh) (fun K a => w_L_law_B34 L xs (nI (16 + n % 25)) (fun z0 z1 z2 => K (z0, z1, z2)) a.1 a.2.1 a.2.2) F (1, nI j, g) := by
    intro F
    induction F with
    | zero => intro j g _ h; omega
    | succ F ih =>
      intro j g h1 h2 a b c d
      show w_L_law_B34 L xs (nI (16 + n % 25)) (fun z0 z1 z2 => itr (α := Int32 × Int32 × Gh) (fun K a => w_L_law_B34 L xs (nI (16 + n % 25)) (fun z0 z1 z2 => K (z0, z1, z2)) a.1 a.2.1 a.2.2) F (z0, z1, z2)) 1 (nI j) g
      by_cases z : j < 16 + n % 25
      · exact law_turn (by omega) z a b c d (fun g' a' b' c' d' => ih (j + 1) g' (by omega) (by omega) a' b' c' d')
      · unfold w_L_law_B34
        exact ⟨fun _ => rfl, fun y => absurd (nI_le (by omega) (by omega)) y⟩
  exact key 41 0 g (Nat.zero_le _) (by omega) hg hs hJ (by omega)
end LAWRUN
