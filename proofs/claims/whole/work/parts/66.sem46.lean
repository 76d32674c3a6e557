section SEM46
variable {Q : Mm → Prop}
def z0 : Mm := (fun _ _ _ => 0, fun _ _ _ => 0)
def MR : Mm := sR (sR (sR (sR (sR (sR z0 30 1 1 1) 30 1 3 1) 30 1 4 1) 30 1 6 1) 30 1 7 1) 30 1 8 1
def fS : Nat → Int32 := up (up (up (up (up (up (up (up (up (up (fun _ => 0) 5 5000) 20 10) 21 20) 22 5) 24 30) 25 15) 27 10) 28 25) 29 40) 31 5
theorem c_X10i (hq : Q (st MR fS)) : w_X10_init 1 1 z0 Q := by
  have g30 : ∀ {N : Nat}, 0 < N → GN GM offM N 30 1 := fun h => ⟨⟨by decide, ok1 (t := 30) (by decide)⟩, h⟩
  have g32 : ∀ {N : Nat}, 2 < N → GN GM offM N 32 1 := fun h => ⟨⟨by decide, ok1 (t := 32) (by decide)⟩, h⟩
  unfold w_X10_init
  refine ⟨1, ⟨⟨by decide, ok1 (t := 31) (by decide)⟩, rfl, fun f => ⟨rfl, rfl⟩⟩, by decide, g30 (by decide), ?_⟩
  intro m7 e_m7
  subst e_m7
  refine ⟨1, ⟨⟨by decide, ok1 (t := 32) (by decide)⟩, rfl, fun f => ⟨rfl, rfl⟩⟩, by decide, g30 (by decide), ?_⟩
  intro m14 e_m14
  subst e_m14
  refine ⟨1, ⟨⟨by decide, ok1 (t := 33) (by decide)⟩, rfl, fun f => ⟨rfl, rfl⟩⟩, by decide, g30 (by decide), ?_⟩
  intro m21 e_m21
  subst e_m21
  refine ⟨1, ⟨⟨by decide, ok1 (t := 34) (by decide)⟩, rfl, fun f => ⟨rfl, rfl⟩⟩, by decide, g30 (by decide), ?_⟩
  intro m28 e_m28
  subst e_m28
  refine ⟨1, ⟨⟨by decide, ok1 (t := 35) (by decide)⟩, rfl, fun f => ⟨rfl, rfl⟩⟩, by decide, g30 (by decide), ?_⟩
  intro m35 e_m35
  subst e_m35
  refine ⟨1, ⟨⟨by decide, ok1 (t := 36) (by decide)⟩, rfl, fun f => ⟨rfl, rfl⟩⟩, by decide, g30 (by decide), ?_⟩
  intro m42 e_m42

  have k : m42 = st MR (fun _ => 0) := by rw [e_m42]; exact (st_self MR).symm
  rw [k]
  refine ⟨g30 (by decide), g32 (by decide), ?_⟩
  intro n0 e0
  have q0 : n0 = st MR (up (fun _ => 0) 5 5000) := by
    rw [e0]
    exact (st_sI (st MR (fun _ => 0)) 5 5000).trans (st_st MR _ _)
  rw [q0]
  refine ⟨g30 (by decide), g32 (by decide), ?_⟩
  intro n1 e1
  have q1 : n1 = st MR (up (up (fun _ => 0) 5 5000) 20 10) := by
    rw [e1]
    exact (st_sI (st MR (up (fun _ => 0) 5 5000)) 20 10).trans (st_st MR _ _)
  rw [q1]
  refine ⟨g30 (by decide), g32 (by decide), ?_⟩
  intro n2 e2
  have q2 : n2 = st MR (up (up (up (fun _ => 0) 5 5000) 20 10) 21 20) := by
    rw [e2]
    exact (st_sI (st MR (up (up (fun _ => 0) 5 5000) 20 10)) 21 20).trans (st_st MR _ _)
  rw [q2]
  refine ⟨g30 (by decide), g32 (by decide), ?_⟩
  intro n3 e3
  have q3 : n3 = st MR (up (up (up (up (fun _ => 0) 5 5000) 20 10) 21 20) 22 5) := by
    rw [e3]
    exact (st_sI (st MR (up (up (up (fun _ => 0) 5 5000) 20 10) 21 20)) 22 5).trans (st_st MR _ _)
  rw [q3]
  refine ⟨g30 (by decide), g32 (by decide), ?_⟩
  intro n4 e4
  have q4 : n4 = st MR (up (up (up (up (up (fun _ => 0) 5 5000) 20 10) 21 20) 22 5) 24 30) := by
    rw [e4]
    exact (st_sI (st MR (up (up (up (up (fun _ => 0) 5 5000) 20 10) 21 20) 22 5)) 24 30).trans (st_st MR _ _)
  rw [q4]
  refine ⟨g30 (by decide), g32 (by decide), ?_⟩
  intro n5 e5
  have q5 : n5 = st MR (up (up (up (up (up (up (fun _ => 0) 5 5000) 20 10) 21 20) 22 5) 24 30) 25 15) := by
    rw [e5]
    exact (st_sI (st MR (up (up (up (up (up (fun _ => 0) 5 5000) 20 10) 21 20) 22 5) 24 30)) 25 15).trans (st_st MR _ _)
  rw [q5]
  refine ⟨g30 (by decide), g32 (by decide), ?_⟩
  intro n6 e6
  have q6 : n6 = st MR (up (up (up (up (up (up (up (fun _ => 0) 5 5000) 20 10) 21 20) 22 5) 24 30) 25 15) 27 10) := by
    rw [e6]
    exact (st_sI (st MR (up (up (up (up (up (up (fun _ => 0) 5 5000) 20 10) 21 20) 22 5) 24 30) 25 15)) 27 10).trans (st_st MR _ _)
  rw [q6]
  refine ⟨g30 (by decide), g32 (by decide), ?_⟩
  intro n7 e7
  have q7 : n7 = st MR (up (up (up (up (up (up (up (up (fun _ => 0) 5 5000) 20 10) 21 20) 22 5) 24 30) 25 15) 27 10) 28 25) := by
    rw [e7]
    exact (st_sI (st MR (up (up (up (up (up (up (up (fun _ => 0) 5 5000) 20 10) 21 20) 22 5) 24 30) 25 15) 27 10)) 28 25).trans (st_st MR _ _)
  rw [q7]
  refine ⟨g30 (by decide), g32 (by decide), ?_⟩
  intro n8 e8
  have q8 : n8 = st MR (up (up (up (up (up (up (up (up (up (fun _ => 0) 5 5000) 20 10) 21 20) 22 5) 24 30) 25 15) 27 10) 28 25) 29 40) := by
    rw [e8]
    exact (st_sI (st MR (up (up (up (up (up (up (up (up (fun _ => 0) 5 5000) 20 10) 21 20) 22 5) 24 30) 25 15) 27 10) 28 25)) 29 40).trans (st_st MR _ _)
  rw [q8]
  refine ⟨g30 (by decide), g32 (by decide), ?_⟩
  intro n9 e9
  have q9 : n9 = st MR (up (up (up (up (up (up (up (up (up (up (fun _ => 0) 5 5000) 20 10) 21 20) 22 5) 24 30) 25 15) 27 10) 28 25) 29 40) 31 5) := by
    rw [e9]
    exact (st_sI (st MR (up (up (up (up (up (up (up (up (up (fun _ => 0) 5 5000) 20 10) 21 20) 22 5) 24 30) 25 15) 27 10) 28 25) 29 40)) 31 5).trans (st_st MR _ _)
  rw [q9]
  exact hq
end SEM46
