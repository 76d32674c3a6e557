section SEM31
variable {m : Mm} {T : Nat → Int32} {p n k F : Nat} {x : Int32} {w : Nat → Int32} {Q : Int32 → Mm → Prop} {Lp Af : Nat → Mm → Prop} {Rd : Nat → Int32 → Mm → Prop}
theorem nv_end {lo hi : Nat} : ∀ fu p v, (nv T lo hi fu p v).1 = p + fu ∨ nx lo hi (nv T lo hi fu p v).2 (T (nv T lo hi fu p v).1) = none := by
  intro fu
  induction fu with
  | zero => intro p v; exact Or.inl rfl
  | succ fu ih =>
    intro p v
    cases h : nx lo hi v (T p) with
    | none => rw [nv_no h]; exact Or.inr h
    | some y =>
      rw [nv_yes h]
      rcases ih (p + 1) (some y) with q | q
      · exact Or.inl (by omega)
      · exact Or.inr q
theorem nx_dig {lo hi : Nat} {v : Option Nat} {c : Int32} {y : Nat} (h : nx lo hi v c = some y) : 48 ≤ c ∧ c ≤ 57 := by
  unfold nx at h
  split at h
  · assumption
  · cases h
theorem nv_dig {lo hi fu : Nat} {v : Option Nat} (h : p < (nv T lo hi fu p v).1) : 48 ≤ T p ∧ T p ≤ 57 := by
  cases fu with
  | zero => exact absurd h (Nat.lt_irrefl _)
  | succ fu =>
    cases hx : nx lo hi v (T p) with
    | none => rw [nv_no hx] at h; exact absurd h (Nat.lt_irrefl _)
    | some y => exact nx_dig hx
theorem nv_gt {lo hi fu y : Nat} (h : (nv T lo hi fu p none).2 = some y) : p < (nv T lo hi fu p none).1 := by
  cases fu with
  | zero => cases h
  | succ fu =>
    cases hx : nx lo hi none (T p) with
    | none => rw [nv_no hx] at h; cases h
    | some y =>
      rw [nv_yes hx]
      have := (nv_le (T := T) (lo := lo) (hi := hi) (k := fu) (p + 1) (some y)).1
      omega
theorem dig59 {c : Int32} (h : 48 ≤ c ∧ c ≤ 57) : ¬ c = 59 := fun z => by rw [z] at h; exact absurd h.2 (by decide)
def StpT (m : Mm) (T : Nat → Int32) (n : Nat) (Q : Int32 → Mm → Prop) (Lp Af : Nat → Mm → Prop) (Rd : Nat → Int32 → Mm → Prop) : Prop := (∀ y x F k w, y < n → w_X4_reads (T y) (jc m x F k w) (Rd y) → Lp y (jc m x F k w)) ∧ (∀ y x F k w, y + 1 < n → ¬ T (y + 1) = 59 → Lp (y + 1) (jc m x F k w) → Af y (jc m x F k w)) ∧ (∀ y x F k w, Af y (jc m x F k w) → Rd y 1 (jc m x F k w)) ∧ (∀ y x F k w, Q (nI y) (jc m x F k w) → Rd y 0 (jc m x F k w))
def okv (F k : Nat) (v : Option Nat) : Prop := ∀ y, v = some y → (bd (gD F k)).1 ≤ y ∧ y ≤ 9999
theorem okv_nx {v : Option Nat} {c : Int32} {y : Nat} (hv : okv F k v) (h : nx (bd (gD F k)).1 (bd (gD F k)).2 v c = some y) : okv F k (some y) := fun z hz => by
  cases hz
  exact ⟨nx_lo h (fun q hq => (hv q hq).1), Nat.le_trans (nx_le h) (bd_ok _).2⟩
theorem c_fld (hS : StpT m T n Q Lp Af Rd) (h : Fok F) (hk : k < (fL F).length) : ∀ fu p v w, p + fu = n → w k = oc v → okv F k v → p < (nv T (bd (gD F k)).1 (bd (gD F k)).2 fu p v).1 → Af ((nv T (bd (gD F k)).1 (bd (gD F k)).2 fu p v).1 - 1) (jc m x F k (up w k (oc (nv T (bd (gD F k)).1 (bd (gD F k)).2 fu p v).2))) → Lp p (jc m x F k w) := by
  intro fu
  induction fu with
  | zero => intro p v w _ _ _ hlt; exact absurd hlt (Nat.lt_irrefl _)
  | succ fu ih =>
    intro p v w hp hw hv hlt hA
    cases hx : nx (bd (gD F k)).1 (bd (gD F k)).2 v (T p) with
    | none => rw [nv_no hx] at hlt; exact absurd hlt (Nat.lt_irrefl _)
    | some y =>
      rw [nv_yes hx] at hA hlt
      have hd := nx_dig hx
      refine hS.1 p x F k w (by omega) (c_digit h hk hw hv hd (fun y' hy' => hS.2.2.1 _ _ _ _ _ ?_) (fun hn => by rw [hx] at hn; cases hn))
      rw [hx] at hy'
      cases hy'
      have hov := okv_nx hv hx
      obtain ⟨n1, n2, n3, n4⟩ := nv_le (T := T) (lo := (bd (gD F k)).1) (hi := (bd (gD F k)).2) (k := fu) (p + 1) (some y)
      by_cases he : (nv T (bd (gD F k)).1 (bd (gD F k)).2 fu (p + 1) (some y)).1 = p + 1
      · have h2 : nv T (bd (gD F k)).1 (bd (gD F k)).2 fu (p + 1) (some y) = (p + 1, some y) := by
          cases fu with
          | zero => rfl
          | succ fu =>
            cases hx2 : nx (bd (gD F k)).1 (bd (gD F k)).2 (some y) (T (p + 1)) with
            | none => exact nv_no hx2
            | some y2 =>
              rw [nv_yes hx2] at he
              have := (nv_le (T := T) (lo := (bd (gD F k)).1) (hi := (bd (gD F k)).2) (k := fu) (p + 1 + 1) (some y2)).1
              omega
        rw [h2] at hA
        exact hA
      · have hlt2 : p + 1 < (nv T (bd (gD F k)).1 (bd (gD F k)).2 fu (p + 1) (some y)).1 := by omega
        have hd2 := nv_dig hlt2
        refine hS.2.1 p x F k _ (by omega) (dig59 hd2) (ih (p + 1) (some y) (up w k (nI y)) (by omega) (up_eq _ _ _) hov hlt2 ?_)
        rw [up_up]
        exact hA
theorem drop_at {l r : List Nat} {s : Nat} (h : l.drop k = s :: r) : k < l.length ∧ l.getD k 8 = s ∧ l.drop (k + 1) = r := by
  have hlt : k < l.length := by
    by_cases z : k < l.length
    · exact z
    · rw [List.drop_eq_nil_of_le (by omega)] at h
      cases h
  rw [List.drop_eq_getElem_cons hlt] at h
  injection h with h1 h2
  refine ⟨hlt, ?_, h2⟩
  rw [List.getD_eq_getElem?_getD, List.getElem?_eq_getElem hlt]
  exact h1
theorem sgn59 {s : Nat} (h : s < 8) : ¬ sgn s = 59 := by
  unfold sgn
  rw [if_neg (by omega)]
  split <;> decide
theorem oc_ne {v : Nat} (h : v ≤ 9999) : ¬ oc (some v) = -1 := nI_nm1 (by omega)
theorem up_at2 (w : Nat → Int32) {k j : Nat} (v : Int32) (h : j < k) : up w k v j = w j := up_ne _ _ (by omega)
/-- a line that is whole -/
theorem c_ln (hS : StpT m T n Q Lp Af Rd) (h : Fok F) : ∀ r s k p w, (fL F).drop k = s :: r → p ≤ n → w k = -1 → (fl T n (s :: r) p).2.2 = true → (∀ w' v, (∀ j, j < k → w' j = w j) → (∀ j, j < (s :: r).length → w' (k + j) = nI ((fl T n (s :: r) p).2.1.getD j 0)) → w' ((fL F).length - 1) = nI v → okv F ((fL F).length - 1) (some v) → ((fl T n (s :: r) p).1 < n → nx (bd (gD F ((fL F).length - 1))).1 (bd (gD F ((fL F).length - 1))).2 (some v) (T (fl T n (s :: r) p).1) = none) → Af ((fl T n (s :: r) p).1 - 1) (jc m x F ((fL F).length - 1) w')) → Lp p (jc m x F k w) := by
  intro r
  induction r with
  | nil =>
    intro s k p w hdr hp hw hok hfin
    obtain ⟨hk, hgk, hd1⟩ := drop_at hdr
    have hlen : (fL F).length - 1 = k := by
      have := congrArg List.length hd1
      rw [List.length_drop] at this
      simp at this
      omega
    have hgk : gD F k = s := hgk
    cases hv : (nf T n s p).2 with
    | none => rw [fl_none hv] at hok; cases hok
    | some v =>
      rw [fl_one hv] at hfin
      obtain ⟨b1, b2, b3⟩ := nf_ok (T := T) (s := s) hp
      have hb := b3 v hv
      have hb9 := (bd_ok s).2
      have hgt := nv_gt hv
      have hend := nv_end (T := T) (lo := (bd s).1) (hi := (bd s).2) (n - p) p none
      refine c_fld hS h hk (n - p) p none w (by omega) hw (fun y hy => by cases hy) (by rw [hgk]; exact hgt) ?_
      rw [hgk]
      show Af ((nf T n s p).1 - 1) (jc m x F k (up w k (oc (nf T n s p).2)))
      rw [hv]
      rw [hlen, hgk] at hfin
      refine hfin _ v (fun j hj => up_at2 _ _ hj) (fun j hj => ?_) (up_eq _ _ _) (fun y hy => by cases hy; rw [hgk]; omega) (fun hlt => ?_)
      · have : j = 0 := by
          simp at hj
          omega
        subst this
        exact up_eq _ _ _
      · rcases hend with q | q
        · have hlt : (nf T n s p).1 < n := hlt
          have q : (nf T n s p).1 = p + (n - p) := q
          omega
        · have q : nx (bd s).1 (bd s).2 (nf T n s p).2 (T (nf T n s p).1) = none := q
          rw [hv] at q
          exact q
  | cons s' r ih =>
    intro s k p w hdr hp hw hok hfin
    obtain ⟨hk, hgk, hd1⟩ := drop_at hdr
    obtain ⟨hk1, hgk1, _⟩ := drop_at hd1
    have hgk : gD F k = s := hgk
    have hgk1 : gD F (k + 1) = s' := hgk1
    have hs8 : s' < 8 := by rw [← hgk1]; exact (F_at h hk1).2
    cases hv : (nf T n s p).2 with
    | none => rw [fl_none hv] at hok; cases hok
    | some v =>
      by_cases hg : (nf T n s p).1 < n ∧ T (nf T n s p).1 = sgn s'
      · rw [fl_go hv hg] at hok hfin
        obtain ⟨b1, b2, b3⟩ := nf_ok (T := T) (s := s) hp
        have hb := b3 v hv
        have hb9 := (bd_ok s).2
        have hgt := nv_gt hv
        have hgt : p < (nf T n s p).1 := hgt
        refine c_fld hS h hk (n - p) p none w (by omega) hw (fun y hy => by cases hy) (by rw [hgk]; exact hgt) ?_
        rw [hgk]
        show Af ((nf T n s p).1 - 1) (jc m x F k (up w k (oc (nf T n s p).2)))
        rw [hv]
        have e1 : (nf T n s p).1 - 1 + 1 = (nf T n s p).1 := by omega
        refine hS.2.1 _ x F k _ (by rw [e1]; exact hg.1) (by rw [e1, hg.2]; exact sgn59 hs8) ?_
        rw [e1]
        refine hS.1 _ x F k _ hg.1 ?_
        rw [c_nodig h hk (by rw [hg.2]; exact sgn_nd s'), up_eq, if_neg (oc_ne (by omega)), hgk1, if_pos hg.2, if_neg (by rw [hg.2]; exact sgn59 hs8)]
        refine hS.2.2.1 _ _ _ _ _ ?_
        have hok' : (fl T n (s' :: r) ((nf T n s p).1 + 1)).2.2 = true := hok
        -- the next number has a digit
        have hnext : ∃ v', (nf T n s' ((nf T n s p).1 + 1)).2 = some v' := by
          cases hz : (nf T n s' ((nf T n s p).1 + 1)).2 with
          | none => rw [fl_none hz] at hok'; cases hok'
          | some v' => exact ⟨v', rfl⟩
        obtain ⟨v', hv'⟩ := hnext
        have hgt' := nv_gt hv'
        have hd' := nv_dig hgt'
        have hle' := (nf_ok (T := T) (s := s') (p := (nf T n s p).1 + 1) (n := n) (by omega)).2.1
        have hgt' : (nf T n s p).1 + 1 < (nf T n s' ((nf T n s p).1 + 1)).1 := hgt'
        refine hS.2.1 _ x F (k + 1) _ (by omega) (dig59 hd') (ih s' (k + 1) ((nf T n s p).1 + 1) _ hd1 (by omega) (up_eq _ _ _) hok' (fun w' u hw1 hw2 hw3 hw4 hw5 => hfin w' u (fun j hj => ?_) (fun j hj => ?_) hw3 hw4 hw5))
        · rw [hw1 j (by omega), up_ne _ _ (by omega), up_ne _ _ (by omega)]
        · cases j with
          | zero =>
            show w' k = nI v
            rw [hw1 k (by omega), up_ne _ _ (by omega), up_eq]
            rfl
          | succ j =>
            have := hw2 j (by simpa using hj)
            rw [show k + (j + 1) = k + 1 + j by omega, this]
            rfl
      · rw [fl_stop hv hg] at hok; cases hok
/-- a line that is not -/
theorem c_lnN (hS : StpT m T n Q Lp Af Rd) (hLA : ∀ y x F k w, y < n → Lp (y + 1) (jc m x F k w) → Af y (jc m x F k w)) (hE : ∀ x F k w, Q (nI n) (jc m x F k w) → Lp n (jc m x F k w)) (h : Fok F) : ∀ r s k p w, (fL F).drop k = s :: r → p ≤ n → w k = -1 → ¬ (fl T n (s :: r) p).2.2 = true → (∀ k' w', k' < (fL F).length → (w' k' = -1 ∨ k' + 1 < (fL F).length) → Q (nI (fl T n (s :: r) p).1) (jc m x F k' w')) → Lp p (jc m x F k w) := by
  intro r
  induction r with
  | nil =>
    intro s k p w hdr hp hw hok hfin
    obtain ⟨hk, hgk, hd1⟩ := drop_at hdr
    have hgk : gD F k = s := hgk
    cases hv : (nf T n s p).2 with
    | none =>
      rw [fl_none hv] at hfin
      have h1 : (nf T n s p).1 = p := ((nv_le (T := T) (lo := (bd s).1) (hi := (bd s).2) (k := n - p) p none).2.2.2 hv).2
      have hf2 : Q (nI p) (jc m x F k w) := by
        have := hfin k w hk (Or.inl hw)
        rw [h1] at this
        exact this
      by_cases hpn : p = n
      · rw [hpn] at hf2 ⊢
        exact hE x F k w hf2
      · refine hS.1 p x F k w (by omega) ?_
        by_cases hd : 48 ≤ T p ∧ T p ≤ 57
        · refine c_digit h hk (v := none) hw (fun y hy => by cases hy) hd (fun y hy => ?_) (fun _ => hS.2.2.2 _ _ _ _ _ hf2)
          exfalso
          rw [hgk] at hy
          have hf : n - p = (n - p - 1) + 1 := by omega
          unfold nf at hv
          rw [hf, nv_yes hy] at hv
          have := ((nv_le (T := T) (lo := (bd s).1) (hi := (bd s).2) (k := n - p - 1) (p + 1) (some y)).2.2.2 hv).1
          cases this
        · rw [c_nodig h hk hd, if_pos hw]
          exact hS.2.2.2 _ _ _ _ _ hf2
    | some v => rw [fl_one hv] at hok; exact absurd rfl hok
  | cons s' r ih =>
    intro s k p w hdr hp hw hok hfin
    obtain ⟨hk, hgk, hd1⟩ := drop_at hdr
    obtain ⟨hk1, hgk1, _⟩ := drop_at hd1
    have hgk : gD F k = s := hgk
    have hgk1 : gD F (k + 1) = s' := hgk1
    have hs8 : s' < 8 := by rw [← hgk1]; exact (F_at h hk1).2
    cases hv : (nf T n s p).2 with
    | none =>
      rw [fl_none hv] at hfin
      have h1 : (nf T n s p).1 = p := ((nv_le (T := T) (lo := (bd s).1) (hi := (bd s).2) (k := n - p) p none).2.2.2 hv).2
      have hf2 : Q (nI p) (jc m x F k w) := by
        have := hfin k w hk (Or.inl hw)
        rw [h1] at this
        exact this
      by_cases hpn : p = n
      · rw [hpn] at hf2 ⊢
        exact hE x F k w hf2
      · refine hS.1 p x F k w (by omega) ?_
        by_cases hd : 48 ≤ T p ∧ T p ≤ 57
        · refine c_digit h hk (v := none) hw (fun y hy => by cases hy) hd (fun y hy => ?_) (fun _ => hS.2.2.2 _ _ _ _ _ hf2)
          exfalso
          rw [hgk] at hy
          have hf : n - p = (n - p - 1) + 1 := by omega
          unfold nf at hv
          rw [hf, nv_yes hy] at hv
          have := ((nv_le (T := T) (lo := (bd s).1) (hi := (bd s).2) (k := n - p - 1) (p + 1) (some y)).2.2.2 hv).1
          cases this
        · rw [c_nodig h hk hd, if_pos hw]
          exact hS.2.2.2 _ _ _ _ _ hf2
    | some v =>
      obtain ⟨b1, b2, b3⟩ := nf_ok (T := T) (s := s) hp
      have hb := b3 v hv
      have hb9 := (bd_ok s).2
      have hgt := nv_gt hv
      have hgt : p < (nf T n s p).1 := hgt
      have e1 : (nf T n s p).1 - 1 + 1 = (nf T n s p).1 := by omega
      refine c_fld hS h hk (n - p) p none w (by omega) hw (fun y hy => by cases hy) (by rw [hgk]; exact hgt) ?_
      rw [hgk]
      show Af ((nf T n s p).1 - 1) (jc m x F k (up w k (oc (nf T n s p).2)))
      rw [hv]
      refine hLA _ x F k _ (by omega) ?_
      rw [e1]
      by_cases hg : (nf T n s p).1 < n ∧ T (nf T n s p).1 = sgn s'
      · rw [fl_go hv hg] at hok hfin
        refine hS.1 _ x F k _ hg.1 ?_
        rw [c_nodig h hk (by rw [hg.2]; exact sgn_nd s'), up_eq, if_neg (oc_ne (by omega)), hgk1, if_pos hg.2, if_neg (by rw [hg.2]; exact sgn59 hs8)]
        refine hS.2.2.1 _ _ _ _ _ ?_
        exact hLA _ x F (k + 1) _ hg.1 (ih s' (k + 1) ((nf T n s p).1 + 1) _ hd1 (by omega) (up_eq _ _ _) hok hfin)
      · rw [fl_stop hv hg] at hfin
        have hfin := hfin k (up w k (oc (some v))) hk (Or.inr hk1)
        by_cases hen : (nf T n s p).1 < n
        · refine hS.1 _ x F k _ hen ?_
          have hend := nv_end (T := T) (lo := (bd s).1) (hi := (bd s).2) (n - p) p none
          have hnx : nx (bd s).1 (bd s).2 (some v) (T (nf T n s p).1) = none := by
            rcases hend with q | q
            · have q : (nf T n s p).1 = p + (n - p) := q
              omega
            · have q : nx (bd s).1 (bd s).2 (nf T n s p).2 (T (nf T n s p).1) = none := q
              rw [hv] at q
              exact q
          by_cases hd : 48 ≤ T (nf T n s p).1 ∧ T (nf T n s p).1 ≤ 57
          · refine c_digit h hk (v := some v) (up_eq _ _ _) (fun y hy => by cases hy; rw [hgk]; omega) hd (fun y hy => by rw [hgk, hnx] at hy; cases hy) (fun _ => hS.2.2.2 _ _ _ _ _ hfin)
          · rw [c_nodig h hk hd, up_eq, if_neg (oc_ne (by omega)), hgk1, if_neg (fun z => hg ⟨hen, z⟩)]
            exact hS.2.2.2 _ _ _ _ _ hfin
        · have hen' : (nf T n s p).1 = n := by omega
          rw [hen'] at hfin ⊢
          exact hE x F k _ hfin
end SEM31
