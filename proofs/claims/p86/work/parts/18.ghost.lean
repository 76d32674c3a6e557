/-! what the reference does, as pure words: no method of it is run here; its memory is a ghost -/
def w_X9_meanDuty  (mm : Mm) (Q9 : UInt64 → Prop) : Prop :=
  ((0 < (mm.1 1 1 1) → w_X8_stake 1 mm (fun (r_2 : Int32) => vf_n64 (FP.ddiv (FP.i2d r_2) (FP.i2d (mm.1 1 1 1))) ∧ (Q9 (FP.ddiv (FP.i2d r_2) (FP.i2d (mm.1 1 1 1)))))) ∧
  (¬ 0 < (mm.1 1 1 1) → Q9 FP.dconst0))
def w_X9_deposits  (mm : Mm) (Q9 : Int32 → Prop) : Prop :=
  Q9 (mm.1 2 1 3)
def w_X9_dutiesPaid  (mm : Mm) (Q9 : Int32 → Prop) : Prop :=
  Q9 (mm.1 2 1 4)
def w_X9_clearText  (mm : Mm) (Q9 : Int32 → Mm → Prop) : Prop :=
  w_X4_wipe mm (fun (r_1 : Int32) (m_2 : Mm) => Q9 r_1 m_2)
def w_X9_firstError  (mm : Mm) (Q9 : Int32 → Mm → Prop) : Prop :=
  w_X4_firstWrong mm (fun (r_1 : Int32) (m_2 : Mm) => Q9 r_1 m_2)
def w_X10_thrown  (mm : Mm) (Q9 : Int32 → Prop) : Prop :=
  Q9 (mm.1 30 1 0)
def w_X10_refused (p0 : Int32) (mm : Mm) (Q9 : Int32 → Mm → Prop) : Prop :=
  ∀ m_1 : Mm, m_1 = sI mm 30 1 0 p0 → (((p0 ≤ 0 → Q9 0 m_1) ∧
  (¬ p0 ≤ 0 → Q9 1 m_1)))
def w_X10_in (p0 : Int64) (p1 : Int64) (p2 : Int64) (mm : Mm) (Q9 : Int32 → Prop) : Prop :=
  (((lg_cmp p0 p1) < 0 → Q9 0) ∧
  (¬ (lg_cmp p0 p1) < 0 → ((0 < (lg_cmp p0 p2) → Q9 0) ∧
  (¬ 0 < (lg_cmp p0 p2) → Q9 1))))
def w_X10_copyState_32_33_B3 (p1 : Int32) (p3 : Int32) (Q9 : Mm → Prop) (K_3 : Int32 → Mm → Prop) (y_1 : Int32) (m_2 : Mm) : Prop :=
  ((246 ≤ y_1 → Q9 m_2) ∧
  (¬ 246 ≤ y_1 → vp_in (p1 + y_1) 246 ∧ (vp_in (p3 + y_1) 1476 ∧ ∀ m_8 : Mm, m_8 = sI m_2 33 1 (p3 + y_1).toNatClampNeg (m_2.1 32 1 (p1 + y_1).toNatClampNeg) → (∀ x_9 : Int32, x_9 = y_1 + 1 → (K_3 x_9 m_8)))))
def w_X10_copyState_32_33 (p1 : Int32) (p3 : Int32) (mm : Mm) (Q9 : Mm → Prop) : Prop :=
  ∃ n, itr (α := Int32 × Mm) (fun K a => w_X10_copyState_32_33_B3 p1 p3 Q9 (fun z0 z1 => K (z0, z1)) a.1 a.2) n (0, mm)
def w_X10_copyState_33_32_B3 (p1 : Int32) (p3 : Int32) (Q9 : Mm → Prop) (K_3 : Int32 → Mm → Prop) (y_1 : Int32) (m_2 : Mm) : Prop :=
  ((246 ≤ y_1 → Q9 m_2) ∧
  (¬ 246 ≤ y_1 → vp_in (p1 + y_1) 1476 ∧ (vp_in (p3 + y_1) 246 ∧ ∀ m_8 : Mm, m_8 = sI m_2 32 1 (p3 + y_1).toNatClampNeg (m_2.1 33 1 (p1 + y_1).toNatClampNeg) → (∀ x_9 : Int32, x_9 = y_1 + 1 → (K_3 x_9 m_8)))))
def w_X10_copyState_33_32 (p1 : Int32) (p3 : Int32) (mm : Mm) (Q9 : Mm → Prop) : Prop :=
  ∃ n, itr (α := Int32 × Mm) (fun K a => w_X10_copyState_33_32_B3 p1 p3 Q9 (fun z0 z1 => K (z0, z1)) a.1 a.2) n (0, mm)
def w_X10_copyState_32_34_B3 (p1 : Int32) (p3 : Int32) (Q9 : Mm → Prop) (K_3 : Int32 → Mm → Prop) (y_1 : Int32) (m_2 : Mm) : Prop :=
  ((246 ≤ y_1 → Q9 m_2) ∧
  (¬ 246 ≤ y_1 → vp_in (p1 + y_1) 246 ∧ (vp_in (p3 + y_1) 492 ∧ ∀ m_8 : Mm, m_8 = sI m_2 34 1 (p3 + y_1).toNatClampNeg (m_2.1 32 1 (p1 + y_1).toNatClampNeg) → (∀ x_9 : Int32, x_9 = y_1 + 1 → (K_3 x_9 m_8)))))
def w_X10_copyState_32_34 (p1 : Int32) (p3 : Int32) (mm : Mm) (Q9 : Mm → Prop) : Prop :=
  ∃ n, itr (α := Int32 × Mm) (fun K a => w_X10_copyState_32_34_B3 p1 p3 Q9 (fun z0 z1 => K (z0, z1)) a.1 a.2) n (0, mm)
def w_X10_copyState_34_32_B3 (p1 : Int32) (p3 : Int32) (Q9 : Mm → Prop) (K_3 : Int32 → Mm → Prop) (y_1 : Int32) (m_2 : Mm) : Prop :=
  ((246 ≤ y_1 → Q9 m_2) ∧
  (¬ 246 ≤ y_1 → vp_in (p1 + y_1) 492 ∧ (vp_in (p3 + y_1) 246 ∧ ∀ m_8 : Mm, m_8 = sI m_2 32 1 (p3 + y_1).toNatClampNeg (m_2.1 34 1 (p1 + y_1).toNatClampNeg) → (∀ x_9 : Int32, x_9 = y_1 + 1 → (K_3 x_9 m_8)))))
def w_X10_copyState_34_32 (p1 : Int32) (p3 : Int32) (mm : Mm) (Q9 : Mm → Prop) : Prop :=
  ∃ n, itr (α := Int32 × Mm) (fun K a => w_X10_copyState_34_32_B3 p1 p3 Q9 (fun z0 z1 => K (z0, z1)) a.1 a.2) n (0, mm)
def w_X10_isKind (p0 : Int32) (mm : Mm) (Q9 : Int32 → Prop) : Prop :=
  w_X10_in (Int32.toInt64 p0) (0 : Int64) (5 : Int64) mm (fun (r_1 : Int32) => isB r_1 ∧ Q9 r_1)
def w_X10_isChamber (p0 : Int32) (mm : Mm) (Q9 : Int32 → Prop) : Prop :=
  w_X10_in (Int32.toInt64 p0) (0 : Int64) (4 : Int64) mm (fun (r_1 : Int32) => isB r_1 ∧ Q9 r_1)
def w_X10_of (p0 : Int32) (p1 : Int32) (mm : Mm) (Q9 : Int32 → Prop) : Prop :=
  vp_in ((118 + (8 * p0)) + p1) 246 ∧ (Q9 (mm.1 32 1 ((118 + (8 * p0)) + p1).toNatClampNeg))
def w_X10_put (p0 : Int32) (p1 : Int32) (p2 : Int32) (mm : Mm) (Q9 : Mm → Prop) : Prop :=
  vp_in ((118 + (8 * p0)) + p1) 246 ∧ ∀ m_2 : Mm, m_2 = sI mm 32 1 ((118 + (8 * p0)) + p1).toNatClampNeg p2 → (Q9 m_2)
def w_X10_find_B2 (p0 : Int32) (mm : Mm) (Q9 : Int32 → Prop) (K_2 : Int32 → Prop) (y_1 : Int32) : Prop :=
  (((mm.1 32 1 117) ≤ y_1 → Q9 (-1)) ∧
  (¬ (mm.1 32 1 117) ≤ y_1 → w_X10_of y_1 0 mm (fun (r_5 : Int32) => ((¬ r_5 = p0 → ∀ x_8 : Int32, x_8 = y_1 + 1 → (K_2 x_8)) ∧
  (r_5 = p0 → Q9 y_1)))))
def w_X10_find (p0 : Int32) (mm : Mm) (Q9 : Int32 → Prop) : Prop :=
  ∃ n, itr (α := Int32) (fun K a => w_X10_find_B2 p0 mm Q9 (fun z0 => K z0) a) n 0
def w_X10_wasteRate (p0 : Int32) (mm : Mm) (Q9 : Int32 → Prop) : Prop :=
  ((¬ p0 = 1 → ((¬ p0 = 2 → ((¬ p0 = 3 → ((¬ p0 = 4 → Q9 0) ∧
  (p0 = 4 → Q9 20))) ∧
  (p0 = 3 → Q9 2))) ∧
  (p0 = 2 → Q9 10))) ∧
  (p0 = 1 → Q9 5))
def w_X10_up (p0 : Int32) (p1 : Int32) (mm : Mm) (Q9 : Int32 → Prop) : Prop :=
  ¬ p1 = 0 ∧ (Q9 (((p0 + p1) - 1) / p1))
def w_X10_duty (p0 : Int32) (p1 : Int32) (p2 : Int32) (p3 : Int32) (mm : Mm) (Q9 : Int32 → Prop) : Prop :=
  vp_in (20 + p0) 246 ∧ (w_X10_up (p1 * (mm.1 32 1 (20 + p0).toNatClampNeg)) 100 mm (fun (r_2 : Int32) => vp_in (26 + p0) 246 ∧ (w_X10_up (p2 * (mm.1 32 1 (26 + p0).toNatClampNeg)) 100 mm (fun (r_5 : Int32) => ∀ x_7 : Int32, x_7 = (r_2 + r_5) → (((p3 = 0 → Q9 x_7) ∧
  (¬ p3 = 0 → w_X10_up x_7 10 mm (fun (r_9 : Int32) => Q9 (x_7 + r_9)))))))))
def w_X10_share (p0 : Int32) (p1 : Int32) (mm : Mm) (Q9 : Int32 → Prop) : Prop :=
  w_X10_of p0 3 mm (fun (r_1 : Int32) => w_X10_of p0 2 mm (fun (r_3 : Int32) => ¬ r_3 = 0 ∧ (Q9 ((r_1 * p1) / r_3))))
def w_X10_isLate (p0 : Int32) (mm : Mm) (Q9 : Int32 → Prop) : Prop :=
  w_X10_of p0 5 mm (fun (r_1 : Int32) => ((r_1 ≤ 200 → Q9 0) ∧
  (¬ r_1 ≤ 200 → Q9 1)))
def w_X10_dutyPart (p0 : Int32) (p1 : Int32) (mm : Mm) (Q9 : Int32 → Prop) : Prop :=
  w_X10_of p0 1 mm (fun (r_1 : Int32) => w_X10_share p0 p1 mm (fun (r_3 : Int32) => w_X10_isLate p0 mm (fun (r_5 : Int32) => w_X10_duty r_1 r_3 p1 r_5 mm (fun (r_7 : Int32) => Q9 r_7))))
def w_X10_dutyAll (p0 : Int32) (mm : Mm) (Q9 : Int32 → Prop) : Prop :=
  w_X10_of p0 2 mm (fun (r_1 : Int32) => w_X10_dutyPart p0 r_1 mm (fun (r_3 : Int32) => Q9 r_3))
def w_X10_stake_B4 (mm : Mm) (Q9 : Int32 → Prop) (K_3 : Int32 → Int32 → Prop) (y_1 : Int32) (y_2 : Int32) : Prop :=
  (((mm.1 32 1 117) ≤ y_2 → Q9 y_1) ∧
  (¬ (mm.1 32 1 117) ≤ y_2 → w_X10_dutyAll y_2 mm (fun (r_6 : Int32) => ∀ x_8 : Int32, x_8 = (y_1 + r_6) → (∀ x_9 : Int32, x_9 = y_2 + 1 → (K_3 x_8 x_9)))))
def w_X10_stake  (mm : Mm) (Q9 : Int32 → Prop) : Prop :=
  ∃ n, itr (α := Int32 × Int32) (fun K a => w_X10_stake_B4 mm Q9 (fun z0 z1 => K (z0, z1)) a.1 a.2) n (0, 0)
def w_X10_room_B6 (p0 : Int32) (mm : Mm) (Q9 : Int32 → Prop) (K_3 : Int32 → Int32 → Prop) (y_1 : Int32) (y_2 : Int32) : Prop :=
  (((mm.1 32 1 117) ≤ y_2 → Q9 y_1) ∧
  (¬ (mm.1 32 1 117) ≤ y_2 → w_X10_of y_2 4 mm (fun (r_6 : Int32) => ((¬ r_6 = p0 → ∀ x_9 : Int32, x_9 = (y_1 - 0) → (∀ x_10 : Int32, x_10 = y_2 + 1 → (K_3 x_9 x_10))) ∧
  (r_6 = p0 → w_X10_of y_2 2 mm (fun (r_11 : Int32) => ∀ x_13 : Int32, x_13 = (y_1 - r_11) → (∀ x_14 : Int32, x_14 = y_2 + 1 → (K_3 x_13 x_14))))))))
def w_X10_room (p0 : Int32) (mm : Mm) (Q9 : Int32 → Prop) : Prop :=
  ∃ n, itr (α := Int32 × Int32) (fun K a => w_X10_room_B6 p0 mm Q9 (fun z0 z1 => K (z0, z1)) a.1 a.2) n (2000, 0)
def w_X10_isShut (p0 : Int32) (mm : Mm) (Q9 : Int32 → Prop) : Prop :=
  vp_in (10 + p0) 246 ∧ ((((mm.1 32 1 (10 + p0).toNatClampNeg) ≤ 0 → Q9 0) ∧
  (¬ (mm.1 32 1 (10 + p0).toNatClampNeg) ≤ 0 → Q9 1)))
def w_X10_close_B8 (Q9 : Mm → Prop) (K_4 : Int32 → Mm → Prop) (y_2 : Int32) (m_3 : Mm) : Prop :=
  (((118 + (8 * ((m_3.1 32 1 117) - 1))) ≤ y_2 → ∀ m_7 : Mm, m_7 = sI m_3 32 1 117 ((m_3.1 32 1 117) - 1) → (Q9 m_7)) ∧
  (¬ (118 + (8 * ((m_3.1 32 1 117) - 1))) ≤ y_2 → vp_in (y_2 + 8) 246 ∧ (vp_in y_2 246 ∧ ∀ m_10 : Mm, m_10 = sI m_3 32 1 y_2.toNatClampNeg (m_3.1 32 1 (y_2 + 8).toNatClampNeg) → (∀ x_11 : Int32, x_11 = y_2 + 1 → (K_4 x_11 m_10)))))
def w_X10_close (p0 : Int32) (mm : Mm) (Q9 : Mm → Prop) : Prop :=
  ∀ x_1 : Int32, x_1 = (118 + (8 * p0)) → (∃ n, itr (α := Int32 × Mm) (fun K a => w_X10_close_B8 Q9 (fun z0 z1 => K (z0, z1)) a.1 a.2) n (x_1, mm))
def w_X10_goes (p0 : Int32) (p1 : Int32) (mm : Mm) (Q9 : Mm → Prop) : Prop :=
  w_X10_share p0 p1 mm (fun (r_1 : Int32) => w_X10_of p0 3 mm (fun (r_3 : Int32) => w_X10_put p0 3 (r_3 - r_1) mm (fun (m_6 : Mm) => w_X10_of p0 2 m_6 (fun (r_7 : Int32) => w_X10_put p0 2 (r_7 - p1) m_6 (fun (m_10 : Mm) => w_X10_of p0 2 m_10 (fun (r_11 : Int32) => ((¬ r_11 = 0 → Q9 m_10) ∧
  (r_11 = 0 → w_X10_close p0 m_10 (fun (m_15 : Mm) => Q9 m_15)))))))))
def w_X10_total (p0 : Int32) (p1 : Int32) (p2 : Int32) (mm : Mm) (Q9 : Mm → Prop) : Prop :=
  vp_in ((32 + (6 * p0)) + p1) 246 ∧ (∀ m_2 : Mm, m_2 = sI mm 32 1 ((32 + (6 * p0)) + p1).toNatClampNeg ((mm.1 32 1 ((32 + (6 * p0)) + p1).toNatClampNeg) + p2) → (Q9 m_2))
def w_X10_makes (p0 : Int32) (p1 : Int32) (p2 : Int32) (p3 : Int32) (mm : Mm) (Q9 : Int32 → Mm → Prop) : Prop :=
  ∀ x_1 : Int32, x_1 = (mm.1 32 1 117) → (w_X10_put x_1 0 (mm.1 32 1 1) mm (fun (m_3 : Mm) => w_X10_put x_1 1 p0 m_3 (fun (m_5 : Mm) => w_X10_put x_1 2 p1 m_5 (fun (m_7 : Mm) => w_X10_put x_1 3 p2 m_7 (fun (m_9 : Mm) => w_X10_put x_1 4 p3 m_9 (fun (m_11 : Mm) => w_X10_put x_1 5 0 m_11 (fun (m_13 : Mm) => w_X10_put x_1 6 0 m_13 (fun (m_15 : Mm) => w_X10_put x_1 7 1 m_15 (fun (m_17 : Mm) => ∀ m_18 : Mm, m_18 = sI m_17 32 1 117 ((m_17.1 32 1 117) + 1) → (∀ m_19 : Mm, m_19 = sI m_18 32 1 1 ((m_18.1 32 1 1) + 1) → (Q9 ((m_19.1 32 1 1) - 1) m_19)))))))))))
def w_X10_enterOn (p0 : Int32) (p1 : Int32) (p2 : Int32) (p3 : Int32) (mm : Mm) (Q9 : Int32 → Mm → Prop) : Prop :=
  w_X10_total p0 0 p1 mm (fun (m_2 : Mm) => w_X10_makes p0 p1 p2 p3 m_2 (fun (r_3 : Int32) (m_4 : Mm) => Q9 r_3 m_4))
def w_X10_files_B43 (p0 : Int32) (p1 : Int32) (p2 : Int32) (Q9 : Mm → Prop) (K_6 : Int32 → Mm → Prop) (y_4 : Int32) (m_5 : Mm) : Prop :=
  ((y_4 < 73 → ∀ m_9 : Mm, m_9 = sI m_5 32 1 69 p0 → (∀ m_10 : Mm, m_10 = sI m_9 32 1 70 p1 → (∀ m_11 : Mm, m_11 = sI m_10 32 1 71 p2 → (∀ m_12 : Mm, m_12 = sI m_11 32 1 72 (m_11.1 32 1 0) → (Q9 m_12))))) ∧
  (¬ y_4 < 73 → vp_in (y_4 - 4) 246 ∧ (vp_in y_4 246 ∧ ∀ m_15 : Mm, m_15 = sI m_5 32 1 y_4.toNatClampNeg (m_5.1 32 1 (y_4 - 4).toNatClampNeg) → (∀ x_16 : Int32, x_16 = y_4 + (-1) → (K_6 x_16 m_15)))))
def w_X10_files_J25 (p0 : Int32) (p1 : Int32) (p2 : Int32) (mm : Mm) (Q9 : Mm → Prop) (y_1 : Int32) : Prop :=
  ∀ m_2 : Mm, m_2 = sI mm 32 1 68 ((mm.1 32 1 68) + y_1) → (∀ x_3 : Int32, x_3 = ((69 + (4 * (m_2.1 32 1 68))) - 1) → (∃ n, itr (α := Int32 × Mm) (fun K a => w_X10_files_B43 p0 p1 p2 Q9 (fun z0 z1 => K (z0, z1)) a.1 a.2) n (x_3, m_2)))
def w_X10_files (p0 : Int32) (p1 : Int32) (p2 : Int32) (mm : Mm) (Q9 : Mm → Prop) : Prop :=
  ((12 ≤ (mm.1 32 1 68) → w_X10_files_J25 p0 p1 p2 mm Q9 0) ∧
  (¬ 12 ≤ (mm.1 32 1 68) → w_X10_files_J25 p0 p1 p2 mm Q9 1))
def w_X10_withdrawOn (p0 : Int32) (p1 : Int32) (mm : Mm) (Q9 : Int32 → Mm → Prop) : Prop :=
  w_X10_dutyPart p0 p1 mm (fun (r_1 : Int32) => ∀ m_3 : Mm, m_3 = sI mm 32 1 3 ((mm.1 32 1 3) - r_1) → (∀ m_4 : Mm, m_4 = sI m_3 32 1 7 ((m_3.1 32 1 7) + r_1) → (w_X10_of p0 1 m_4 (fun (r_5 : Int32) => w_X10_files r_5 p1 r_1 m_4 (fun (m_8 : Mm) => w_X10_of p0 1 m_8 (fun (r_9 : Int32) => w_X10_total r_9 1 p1 m_8 (fun (m_12 : Mm) => w_X10_goes p0 p1 m_12 (fun (m_14 : Mm) => Q9 r_1 m_14))))))))
def w_X10_sendOn (p0 : Int32) (p1 : Int32) (mm : Mm) (Q9 : Int32 → Mm → Prop) : Prop :=
  w_X10_of p0 2 mm (fun (r_1 : Int32) => ∀ x_3 : Int32, x_3 = (r_1 - p1) → (w_X10_of p0 1 mm (fun (r_4 : Int32) => w_X10_total r_4 2 p1 mm (fun (m_7 : Mm) => w_X10_goes p0 p1 m_7 (fun (m_9 : Mm) => Q9 x_3 m_9)))))
def w_X10_partOf (p0 : Int32) (p1 : Int32) (mm : Mm) (Q9 : Int32 → Prop) : Prop :=
  vp_in ((69 + (4 * p0)) + 2) 246 ∧ (vp_in ((69 + (4 * p0)) + 1) 246 ∧ (¬ (mm.1 32 1 ((69 + (4 * p0)) + 1).toNatClampNeg) = 0 ∧ (Q9 (((mm.1 32 1 ((69 + (4 * p0)) + 2).toNatClampNeg) * p1) / (mm.1 32 1 ((69 + (4 * p0)) + 1).toNatClampNeg)))))
def w_X10_backOf (p0 : Int32) (p1 : Int32) (mm : Mm) (Q9 : Int32 → Prop) : Prop :=
  w_X10_partOf p0 p1 mm (fun (r_1 : Int32) => Q9 ((r_1 * 9) / 10))
def w_X10_drawOn (p0 : Int32) (p1 : Int32) (mm : Mm) (Q9 : Int32 → Mm → Prop) : Prop :=
  w_X10_partOf p0 p1 mm (fun (r_1 : Int32) => w_X10_backOf p0 p1 mm (fun (r_3 : Int32) => ∀ m_5 : Mm, m_5 = sI mm 32 1 3 ((mm.1 32 1 3) + r_3) → (∀ m_6 : Mm, m_6 = sI m_5 32 1 9 ((m_5.1 32 1 9) + r_3) → (vp_in (69 + (4 * p0)) 246 ∧ (w_X10_total (m_6.1 32 1 (69 + (4 * p0)).toNatClampNeg) 5 p1 m_6 (fun (m_9 : Mm) => vp_in ((69 + (4 * p0)) + 1) 246 ∧ (∀ m_11 : Mm, m_11 = sI m_9 32 1 ((69 + (4 * p0)) + 1).toNatClampNeg ((m_9.1 32 1 ((69 + (4 * p0)) + 1).toNatClampNeg) - p1) → (vp_in ((69 + (4 * p0)) + 2) 246 ∧ (∀ m_13 : Mm, m_13 = sI m_11 32 1 ((69 + (4 * p0)) + 2).toNatClampNeg ((m_11.1 32 1 ((69 + (4 * p0)) + 2).toNatClampNeg) - r_1) → (Q9 r_3 m_13))))))))))
def w_X10_moveOn (p0 : Int32) (p1 : Int32) (mm : Mm) (Q9 : Int32 → Mm → Prop) : Prop :=
  w_X10_put p0 4 p1 mm (fun (m_2 : Mm) => w_X10_room p1 m_2 (fun (r_3 : Int32) => Q9 r_3 m_2))
def w_X10_allowed (p0 : Int32) (mm : Mm) (Q9 : Int32 → Prop) : Prop :=
  w_X10_of p0 2 mm (fun (r_1 : Int32) => w_X10_of p0 1 mm (fun (r_3 : Int32) => w_X10_wasteRate r_3 mm (fun (r_5 : Int32) => w_X10_of p0 6 mm (fun (r_7 : Int32) => ∀ x_9 : Int32, x_9 = (((r_1 * r_5) * (r_7 / 10)) / 1000) → (w_X10_of p0 2 mm (fun (r_10 : Int32) => ((x_9 ≤ r_10 → Q9 x_9) ∧
  (¬ x_9 ≤ r_10 → w_X10_of p0 2 mm (fun (r_13 : Int32) => Q9 r_13)))))))))
def w_X10_lostBy (p0 : Int32) (p1 : Int32) (mm : Mm) (Q9 : Int32 → Prop) : Prop :=
  w_X10_of p0 2 mm (fun (r_1 : Int32) => ∀ x_3 : Int32, x_3 = (r_1 - p1) → (w_X10_allowed p0 mm (fun (r_4 : Int32) => ((x_3 ≤ r_4 → Q9 0) ∧
  (¬ x_3 ≤ r_4 → w_X10_allowed p0 mm (fun (r_7 : Int32) => Q9 (x_3 - r_7)))))))
def w_X10_chargeBy (p0 : Int32) (p1 : Int32) (mm : Mm) (Q9 : Int32 → Prop) : Prop :=
  w_X10_lostBy p0 p1 mm (fun (r_1 : Int32) => w_X10_dutyPart p0 r_1 mm (fun (r_3 : Int32) => ((¬ r_1 = 0 → w_X10_of p0 7 mm (fun (r_6 : Int32) => ((¬ r_6 = 1 → Q9 (2 * r_3)) ∧
  (r_6 = 1 → Q9 r_3)))) ∧
  (r_1 = 0 → Q9 0))))
def w_X10_weighOn_J45 (p0 : Int32) (mm : Mm) (Q9 : Int32 → Mm → Prop) (r_1 : Int32) (r_3 : Int32) (x_7 : Int32) (y_8 : Int32) : Prop :=
  ∀ m_9 : Mm, m_9 = sI mm 32 1 3 ((mm.1 32 1 3) - y_8) → (∀ m_10 : Mm, m_10 = sI m_9 32 1 4 ((m_9.1 32 1 4) + (r_1 - y_8)) → (∀ m_11 : Mm, m_11 = sI m_10 32 1 8 ((m_10.1 32 1 8) + r_1) → (w_X10_of p0 1 m_11 (fun (r_12 : Int32) => w_X10_total r_12 3 (x_7 - r_3) m_11 (fun (m_15 : Mm) => w_X10_of p0 1 m_15 (fun (r_16 : Int32) => w_X10_total r_16 4 r_3 m_15 (fun (m_19 : Mm) => w_X10_put p0 7 1 m_19 (fun (m_21 : Mm) => w_X10_put p0 6 0 m_21 (fun (m_23 : Mm) => w_X10_goes p0 x_7 m_23 (fun (m_25 : Mm) => Q9 r_1 m_25))))))))))
def w_X10_weighOn (p0 : Int32) (p1 : Int32) (mm : Mm) (Q9 : Int32 → Mm → Prop) : Prop :=
  w_X10_chargeBy p0 p1 mm (fun (r_1 : Int32) => w_X10_lostBy p0 p1 mm (fun (r_3 : Int32) => w_X10_of p0 2 mm (fun (r_5 : Int32) => ∀ x_7 : Int32, x_7 = (r_5 - p1) → ((((mm.1 32 1 3) ≤ r_1 → w_X10_weighOn_J45 p0 mm Q9 r_1 r_3 x_7 (mm.1 32 1 3)) ∧
  (¬ (mm.1 32 1 3) ≤ r_1 → w_X10_weighOn_J45 p0 mm Q9 r_1 r_3 x_7 r_1))))))
def w_X10_lockOn (p0 : Int32) (mm : Mm) (Q9 : Int32 → Mm → Prop) : Prop :=
  ∀ m_1 : Mm, m_1 = sI mm 32 1 2 ((mm.1 32 1 2) + 1) → (vp_in (10 + p0) 246 ∧ ∀ m_3 : Mm, m_3 = sI m_1 32 1 (10 + p0).toNatClampNeg (m_1.1 32 1 2) → (vp_in (15 + p0) 246 ∧ ∀ m_5 : Mm, m_5 = sI m_3 32 1 (15 + p0).toNatClampNeg 0 → (Q9 (m_5.1 32 1 2) m_5)))
def w_X10_openOn_J88 (y_6 : Int32) (y_7 : Int32) (m_8 : Mm) (K_9 : Int32 → Int32 → Mm → Prop) (y_16 : Int32) : Prop :=
  w_X10_put y_7 7 y_16 m_8 (fun (m_18 : Mm) => w_X10_of y_7 7 m_18 (fun (r_19 : Int32) => ∀ x_21 : Int32, x_21 = (y_6 + (1 - r_19)) → (∀ x_22 : Int32, x_22 = y_7 + 1 → (K_9 x_21 x_22 m_18))))
def w_X10_openOn_B44 (p0 : Int32) (Q9 : Int32 → Mm → Prop) (y_2 : Int32) (K_9 : Int32 → Int32 → Mm → Prop) (y_6 : Int32) (y_7 : Int32) (m_8 : Mm) : Prop :=
  (((m_8.1 32 1 117) ≤ y_7 → Q9 y_6 m_8) ∧
  (¬ (m_8.1 32 1 117) ≤ y_7 → w_X10_of y_7 4 m_8 (fun (r_12 : Int32) => ((¬ r_12 = p0 → ∀ x_15 : Int32, x_15 = y_7 + 1 → (K_9 y_6 x_15 m_8)) ∧
  (r_12 = p0 → ((y_2 = 0 → w_X10_of y_7 7 m_8 (fun (r_24 : Int32) => w_X10_openOn_J88 y_6 y_7 m_8 K_9 r_24)) ∧
  (¬ y_2 = 0 → w_X10_openOn_J88 y_6 y_7 m_8 K_9 0)))))))
def w_X10_openOn_J18 (p0 : Int32) (mm : Mm) (Q9 : Int32 → Mm → Prop) (y_2 : Int32) : Prop :=
  vp_in (10 + p0) 246 ∧ ∀ m_4 : Mm, m_4 = sI mm 32 1 (10 + p0).toNatClampNeg 0 → (∀ m_5 : Mm, m_5 = sI m_4 32 1 (15 + p0).toNatClampNeg 0 → (∃ n, itr (α := Int32 × Int32 × Mm) (fun K a => w_X10_openOn_B44 p0 Q9 y_2 (fun z0 z1 z2 => K (z0, z1, z2)) a.1 a.2.1 a.2.2) n (0, 0, m_5)))
def w_X10_openOn (p0 : Int32) (mm : Mm) (Q9 : Int32 → Mm → Prop) : Prop :=
  vp_in (15 + p0) 246 ∧ (((¬ (mm.1 32 1 (15 + p0).toNatClampNeg) = 1 → w_X10_openOn_J18 p0 mm Q9 0) ∧
  ((mm.1 32 1 (15 + p0).toNatClampNeg) = 1 → w_X10_openOn_J18 p0 mm Q9 1)))
def w_X10_breakOn (p0 : Int32) (mm : Mm) (Q9 : Int32 → Mm → Prop) : Prop :=
  vp_in (15 + p0) 246 ∧ ∀ m_2 : Mm, m_2 = sI mm 32 1 (15 + p0).toNatClampNeg 1 → (vp_in (10 + p0) 246 ∧ (Q9 (m_2.1 32 1 (10 + p0).toNatClampNeg) m_2))
def w_X10_canPay_J22 (mm : Mm) (Q9 : Int32 → Prop) (y_1 : Int32) : Prop :=
  ((99999 < ((mm.1 32 1 3) + y_1) → Q9 0) ∧
  (¬ 99999 < ((mm.1 32 1 3) + y_1) → Q9 1))
def w_X10_canPay (p0 : Int32) (mm : Mm) (Q9 : Int32 → Prop) : Prop :=
  ((p0 ≤ (mm.1 32 1 4) → w_X10_canPay_J22 mm Q9 0) ∧
  (¬ p0 ≤ (mm.1 32 1 4) → w_X10_canPay_J22 mm Q9 (p0 - (mm.1 32 1 4))))
def w_X10_payOn_J20 (p0 : Int32) (mm : Mm) (Q9 : Int32 → Mm → Prop) (y_1 : Int32) : Prop :=
  ∀ m_2 : Mm, m_2 = sI mm 32 1 4 ((mm.1 32 1 4) - y_1) → (∀ m_3 : Mm, m_3 = sI m_2 32 1 3 ((m_2.1 32 1 3) + (p0 - y_1)) → (∀ m_4 : Mm, m_4 = sI m_3 32 1 6 ((m_3.1 32 1 6) + p0) → (Q9 (m_4.1 32 1 3) m_4)))
def w_X10_payOn (p0 : Int32) (mm : Mm) (Q9 : Int32 → Mm → Prop) : Prop :=
  (((mm.1 32 1 4) ≤ p0 → w_X10_payOn_J20 p0 mm Q9 (mm.1 32 1 4)) ∧
  (¬ (mm.1 32 1 4) ≤ p0 → w_X10_payOn_J20 p0 mm Q9 p0))
def w_X10_passOn_J47 (p0 : Int32) (y_1 : Int32) (y_2 : Int32) (m_3 : Mm) (K_4 : Int32 → Int32 → Mm → Prop) (y_10 : Int32) : Prop :=
  ∀ x_11 : Int32, x_11 = (y_1 + y_10) → (w_X10_of y_2 5 m_3 (fun (r_12 : Int32) => w_X10_put y_2 5 (r_12 + p0) m_3 (fun (m_15 : Mm) => w_X10_of y_2 6 m_15 (fun (r_16 : Int32) => w_X10_put y_2 6 (r_16 + p0) m_15 (fun (m_19 : Mm) => ∀ x_20 : Int32, x_20 = y_2 + 1 → (K_4 x_11 x_20 m_19))))))
def w_X10_passOn_B4 (p0 : Int32) (Q9 : Int32 → Mm → Prop) (K_4 : Int32 → Int32 → Mm → Prop) (y_1 : Int32) (y_2 : Int32) (m_3 : Mm) : Prop :=
  (((m_3.1 32 1 117) ≤ y_2 → ∀ m_7 : Mm, m_7 = sI m_3 32 1 0 ((m_3.1 32 1 0) + p0) → (Q9 y_1 m_7)) ∧
  (¬ (m_3.1 32 1 117) ≤ y_2 → w_X10_isLate y_2 m_3 (fun (r_8 : Int32) => ((r_8 = 0 → w_X10_of y_2 5 m_3 (fun (r_22 : Int32) => (((r_22 + p0) ≤ 200 → w_X10_passOn_J47 p0 y_1 y_2 m_3 K_4 0) ∧
  (¬ (r_22 + p0) ≤ 200 → w_X10_passOn_J47 p0 y_1 y_2 m_3 K_4 1)))) ∧
  (¬ r_8 = 0 → w_X10_passOn_J47 p0 y_1 y_2 m_3 K_4 0)))))
def w_X10_passOn (p0 : Int32) (mm : Mm) (Q9 : Int32 → Mm → Prop) : Prop :=
  ∃ n, itr (α := Int32 × Int32 × Mm) (fun K a => w_X10_passOn_B4 p0 Q9 (fun z0 z1 z2 => K (z0, z1, z2)) a.1 a.2.1 a.2.2) n (0, 0, mm)
def w_X10_saves_J50 (Q9 : Mm → Prop) (m_1 : Mm) : Prop :=
  w_X10_copyState_32_33 0 (246 * (m_1.1 30 1 5)) m_1 (fun (m_3 : Mm) => ∀ m_4 : Mm, m_4 = sI m_3 30 1 5 ((m_3.1 30 1 5) + 1) → (Q9 m_4))
def w_X10_saves_B11 (Q9 : Mm → Prop) (K_8 : Int32 → Mm → Prop) (y_6 : Int32) (m_7 : Mm) : Prop :=
  ((1230 ≤ y_6 → ∀ m_11 : Mm, m_11 = sI m_7 30 1 5 ((m_7.1 30 1 5) - 1) → (w_X10_saves_J50 Q9 m_11)) ∧
  (¬ 1230 ≤ y_6 → vp_in (y_6 + 246) 1476 ∧ (vp_in y_6 1476 ∧ ∀ m_14 : Mm, m_14 = sI m_7 33 1 y_6.toNatClampNeg (m_7.1 33 1 (y_6 + 246).toNatClampNeg) → (∀ x_15 : Int32, x_15 = y_6 + 1 → (K_8 x_15 m_14)))))
def w_X10_saves  (mm : Mm) (Q9 : Mm → Prop) : Prop :=
  ((¬ (mm.1 30 1 5) = 6 → w_X10_saves_J50 Q9 mm) ∧
  ((mm.1 30 1 5) = 6 → ∃ n, itr (α := Int32 × Mm) (fun K a => w_X10_saves_B11 Q9 (fun z0 z1 => K (z0, z1)) a.1 a.2) n (0, mm)))
def w_X10_noEntry (p0 : Int32) (p1 : Int32) (p2 : Int32) (p3 : Int32) (mm : Mm) (Q9 : Int32 → Prop) : Prop :=
  (((mm.1 32 1 4) ≤ 0 → w_X10_isShut p3 mm (fun (r_2 : Int32) => ((r_2 = 0 → w_X10_room p3 mm (fun (r_5 : Int32) => ((p1 ≤ r_5 → (((mm.1 32 1 117) = 16 → Q9 4) ∧
  (¬ (mm.1 32 1 117) = 16 → ((¬ (mm.1 32 1 1) = 60 → w_X10_stake mm (fun (r_10 : Int32) => w_X10_duty p0 p2 p1 0 mm (fun (r_12 : Int32) => (((r_10 + r_12) ≤ (mm.1 32 1 5) → Q9 0) ∧
  (¬ (r_10 + r_12) ≤ (mm.1 32 1 5) → Q9 5))))) ∧
  ((mm.1 32 1 1) = 60 → Q9 4))))) ∧
  (¬ p1 ≤ r_5 → Q9 3)))) ∧
  (¬ r_2 = 0 → Q9 2)))) ∧
  (¬ (mm.1 32 1 4) ≤ 0 → Q9 1))
def w_X10_noLeaving (p0 : Int32) (p1 : Int32) (mm : Mm) (Q9 : Int32 → Prop) : Prop :=
  (((mm.1 32 1 4) ≤ 0 → w_X10_of p0 4 mm (fun (r_2 : Int32) => w_X10_isShut r_2 mm (fun (r_4 : Int32) => ((r_4 = 0 → w_X10_of p0 7 mm (fun (r_7 : Int32) => ((¬ r_7 = 0 → w_X10_of p0 2 mm (fun (r_10 : Int32) => ((p1 ≤ r_10 → Q9 0) ∧
  (¬ p1 ≤ r_10 → Q9 4)))) ∧
  (r_7 = 0 → Q9 3)))) ∧
  (¬ r_4 = 0 → Q9 2))))) ∧
  (¬ (mm.1 32 1 4) ≤ 0 → Q9 1))
def w_X10_noWithdrawal (p0 : Int32) (p1 : Int32) (mm : Mm) (Q9 : Int32 → Prop) : Prop :=
  w_X10_noLeaving p0 p1 mm (fun (r_1 : Int32) => ((r_1 ≤ 0 → w_X10_dutyPart p0 p1 mm (fun (r_4 : Int32) => ((r_4 ≤ (mm.1 32 1 3) → Q9 0) ∧
  (¬ r_4 ≤ (mm.1 32 1 3) → Q9 5)))) ∧
  (¬ r_1 ≤ 0 → Q9 r_1)))
def w_X10_noExport (p0 : Int32) (p1 : Int32) (mm : Mm) (Q9 : Int32 → Prop) : Prop :=
  w_X10_noLeaving p0 p1 mm (fun (r_1 : Int32) => ((r_1 ≤ 0 → w_X10_isLate p0 mm (fun (r_4 : Int32) => ((r_4 = 0 → Q9 0) ∧
  (¬ r_4 = 0 → Q9 5)))) ∧
  (¬ r_1 ≤ 0 → Q9 r_1)))
def w_X10_noMove (p0 : Int32) (p1 : Int32) (mm : Mm) (Q9 : Int32 → Prop) : Prop :=
  w_X10_of p0 4 mm (fun (r_1 : Int32) => ((¬ r_1 = p1 → w_X10_of p0 4 mm (fun (r_4 : Int32) => w_X10_isShut r_4 mm (fun (r_6 : Int32) => ((r_6 = 0 → w_X10_of p0 7 mm (fun (r_9 : Int32) => ((¬ r_9 = 0 → w_X10_isShut p1 mm (fun (r_12 : Int32) => ((r_12 = 0 → w_X10_room p1 mm (fun (r_15 : Int32) => w_X10_of p0 2 mm (fun (r_17 : Int32) => ((r_17 ≤ r_15 → Q9 0) ∧
  (¬ r_17 ≤ r_15 → Q9 5))))) ∧
  (¬ r_12 = 0 → Q9 4)))) ∧
  (r_9 = 0 → Q9 3)))) ∧
  (¬ r_6 = 0 → Q9 2))))) ∧
  (r_1 = p1 → Q9 1)))
def w_X10_noDrawback (p0 : Int32) (p1 : Int32) (mm : Mm) (Q9 : Int32 → Prop) : Prop :=
  (((mm.1 32 1 4) ≤ 0 → vp_in ((69 + (4 * p0)) + 3) 246 ∧ (((((mm.1 32 1 0) - (mm.1 32 1 ((69 + (4 * p0)) + 3).toNatClampNeg)) ≤ 60 → vp_in ((69 + (4 * p0)) + 1) 246 ∧ (((p1 ≤ (mm.1 32 1 ((69 + (4 * p0)) + 1).toNatClampNeg) → Q9 0) ∧
  (¬ p1 ≤ (mm.1 32 1 ((69 + (4 * p0)) + 1).toNatClampNeg) → Q9 3)))) ∧
  (¬ ((mm.1 32 1 0) - (mm.1 32 1 ((69 + (4 * p0)) + 3).toNatClampNeg)) ≤ 60 → Q9 2)))) ∧
  (¬ (mm.1 32 1 4) ≤ 0 → Q9 1))
def w_X10_isWeight (p0 : Int32) (mm : Mm) (Q9 : Int32 → Prop) : Prop :=
  w_X10_in (Int32.toInt64 p0) (1 : Int64) (999 : Int64) mm (fun (r_1 : Int32) => isB r_1 ∧ Q9 r_1)
def w_X10_isNew (p0 : Int32) (p1 : Int32) (p2 : Int32) (p3 : Int32) (mm : Mm) (Q9 : Int32 → Prop) : Prop :=
  w_X10_isKind p0 mm (fun (r_1 : Int32) => ((r_1 = 0 → Q9 0) ∧
  (¬ r_1 = 0 → w_X10_isWeight p1 mm (fun (r_4 : Int32) => ((r_4 = 0 → Q9 0) ∧
  (¬ r_4 = 0 → w_X10_in (Int32.toInt64 p2) (1 : Int64) (9999 : Int64) mm (fun (r_7 : Int32) => ((r_7 = 0 → Q9 0) ∧
  (¬ r_7 = 0 → w_X10_isChamber p3 mm (fun (r_10 : Int32) => ((r_10 = 0 → Q9 0) ∧
  (¬ r_10 = 0 → Q9 1))))))))))))
def w_X10_enter_J33 (p0 : Int32) (p1 : Int32) (p2 : Int32) (p3 : Int32) (mm : Mm) (Q9 : Int32 → Mm → Prop) (y_3 : Int32) : Prop :=
  w_X10_refused y_3 mm (fun (r_4 : Int32) (m_5 : Mm) => ((r_4 = 0 → w_X10_saves m_5 (fun (m_8 : Mm) => w_X10_enterOn p0 p1 p2 p3 m_8 (fun (r_9 : Int32) (m_10 : Mm) => Q9 r_9 m_10))) ∧
  (¬ r_4 = 0 → Q9 0 m_5)))
def w_X10_enter (p0 : Int32) (p1 : Int32) (p2 : Int32) (p3 : Int32) (mm : Mm) (Q9 : Int32 → Mm → Prop) : Prop :=
  w_X10_isNew p0 p1 p2 p3 mm (fun (r_1 : Int32) => ((¬ r_1 = 0 → w_X10_noEntry p0 p1 p2 p3 mm (fun (r_12 : Int32) => ((r_12 ≤ 0 → w_X10_enter_J33 p0 p1 p2 p3 mm Q9 0) ∧
  (¬ r_12 ≤ 0 → w_X10_enter_J33 p0 p1 p2 p3 mm Q9 2)))) ∧
  (r_1 = 0 → w_X10_enter_J33 p0 p1 p2 p3 mm Q9 1)))
def w_X10_withdraw_J41 (p1 : Int32) (mm : Mm) (Q9 : Int32 → Mm → Prop) (r_1 : Int32) (y_3 : Int32) : Prop :=
  w_X10_refused y_3 mm (fun (r_4 : Int32) (m_5 : Mm) => ((r_4 = 0 → w_X10_saves m_5 (fun (m_8 : Mm) => w_X10_withdrawOn r_1 p1 m_8 (fun (r_9 : Int32) (m_10 : Mm) => Q9 r_9 m_10))) ∧
  (¬ r_4 = 0 → Q9 0 m_5)))
def w_X10_withdraw (p0 : Int32) (p1 : Int32) (mm : Mm) (Q9 : Int32 → Mm → Prop) : Prop :=
  w_X10_find p0 mm (fun (r_1 : Int32) => ((¬ r_1 = (-1) → w_X10_isWeight p1 mm (fun (r_12 : Int32) => ((¬ r_12 = 0 → w_X10_noWithdrawal r_1 p1 mm (fun (r_15 : Int32) => ((r_15 ≤ 0 → w_X10_withdraw_J41 p1 mm Q9 r_1 0) ∧
  (¬ r_15 ≤ 0 → w_X10_withdraw_J41 p1 mm Q9 r_1 3)))) ∧
  (r_12 = 0 → w_X10_withdraw_J41 p1 mm Q9 r_1 2)))) ∧
  (r_1 = (-1) → w_X10_withdraw_J41 p1 mm Q9 r_1 1)))
def w_X10_sendAbroad_J41 (p1 : Int32) (mm : Mm) (Q9 : Int32 → Mm → Prop) (r_1 : Int32) (y_3 : Int32) : Prop :=
  w_X10_refused y_3 mm (fun (r_4 : Int32) (m_5 : Mm) => ((r_4 = 0 → w_X10_saves m_5 (fun (m_8 : Mm) => w_X10_sendOn r_1 p1 m_8 (fun (r_9 : Int32) (m_10 : Mm) => Q9 r_9 m_10))) ∧
  (¬ r_4 = 0 → Q9 0 m_5)))
def w_X10_sendAbroad (p0 : Int32) (p1 : Int32) (mm : Mm) (Q9 : Int32 → Mm → Prop) : Prop :=
  w_X10_find p0 mm (fun (r_1 : Int32) => ((¬ r_1 = (-1) → w_X10_isWeight p1 mm (fun (r_12 : Int32) => ((¬ r_12 = 0 → w_X10_noExport r_1 p1 mm (fun (r_15 : Int32) => ((r_15 ≤ 0 → w_X10_sendAbroad_J41 p1 mm Q9 r_1 0) ∧
  (¬ r_15 ≤ 0 → w_X10_sendAbroad_J41 p1 mm Q9 r_1 3)))) ∧
  (r_12 = 0 → w_X10_sendAbroad_J41 p1 mm Q9 r_1 2)))) ∧
  (r_1 = (-1) → w_X10_sendAbroad_J41 p1 mm Q9 r_1 1)))
def w_X10_isPaper (p0 : Int32) (mm : Mm) (Q9 : Int32 → Prop) : Prop :=
  w_X10_in (Int32.toInt64 p0) (0 : Int64) (Int32.toInt64 ((mm.1 32 1 68) - 1)) mm (fun (r_1 : Int32) => isB r_1 ∧ Q9 r_1)
def w_X10_drawBack_J38 (p0 : Int32) (p1 : Int32) (mm : Mm) (Q9 : Int32 → Mm → Prop) (y_3 : Int32) : Prop :=
  w_X10_refused y_3 mm (fun (r_4 : Int32) (m_5 : Mm) => ((r_4 = 0 → w_X10_saves m_5 (fun (m_8 : Mm) => w_X10_drawOn p0 p1 m_8 (fun (r_9 : Int32) (m_10 : Mm) => Q9 r_9 m_10))) ∧
  (¬ r_4 = 0 → Q9 0 m_5)))
def w_X10_drawBack (p0 : Int32) (p1 : Int32) (mm : Mm) (Q9 : Int32 → Mm → Prop) : Prop :=
  w_X10_isPaper p0 mm (fun (r_1 : Int32) => ((¬ r_1 = 0 → w_X10_isWeight p1 mm (fun (r_12 : Int32) => ((¬ r_12 = 0 → w_X10_noDrawback p0 p1 mm (fun (r_15 : Int32) => ((r_15 ≤ 0 → w_X10_drawBack_J38 p0 p1 mm Q9 0) ∧
  (¬ r_15 ≤ 0 → w_X10_drawBack_J38 p0 p1 mm Q9 3)))) ∧
  (r_12 = 0 → w_X10_drawBack_J38 p0 p1 mm Q9 2)))) ∧
  (r_1 = 0 → w_X10_drawBack_J38 p0 p1 mm Q9 1)))
def w_X10_move_J37 (p1 : Int32) (mm : Mm) (Q9 : Int32 → Mm → Prop) (r_1 : Int32) (y_3 : Int32) : Prop :=
  w_X10_refused y_3 mm (fun (r_4 : Int32) (m_5 : Mm) => ((r_4 = 0 → w_X10_saves m_5 (fun (m_8 : Mm) => w_X10_moveOn r_1 p1 m_8 (fun (r_9 : Int32) (m_10 : Mm) => Q9 r_9 m_10))) ∧
  (¬ r_4 = 0 → Q9 0 m_5)))
def w_X10_move_J19 (p1 : Int32) (mm : Mm) (Q9 : Int32 → Mm → Prop) (r_1 : Int32) : Prop :=
  w_X10_move_J37 p1 mm Q9 r_1 1
def w_X10_move (p0 : Int32) (p1 : Int32) (mm : Mm) (Q9 : Int32 → Mm → Prop) : Prop :=
  w_X10_find p0 mm (fun (r_1 : Int32) => ((r_1 = (-1) → w_X10_move_J19 p1 mm Q9 r_1) ∧
  (¬ r_1 = (-1) → w_X10_isChamber p1 mm (fun (r_12 : Int32) => ((¬ r_12 = 0 → w_X10_noMove r_1 p1 mm (fun (r_15 : Int32) => ((r_15 ≤ 0 → w_X10_move_J37 p1 mm Q9 r_1 0) ∧
  (¬ r_15 ≤ 0 → w_X10_move_J37 p1 mm Q9 r_1 2)))) ∧
  (r_12 = 0 → w_X10_move_J19 p1 mm Q9 r_1))))))
def w_X10_split_J83 (p1 : Int32) (mm : Mm) (Q9 : Int32 → Mm → Prop) (r_1 : Int32) (y_3 : Int32) : Prop :=
  w_X10_refused y_3 mm (fun (r_4 : Int32) (m_5 : Mm) => ((r_4 = 0 → w_X10_saves m_5 (fun (m_8 : Mm) => w_X10_share r_1 p1 m_8 (fun (r_9 : Int32) => w_X10_of r_1 1 m_8 (fun (r_11 : Int32) => w_X10_of r_1 4 m_8 (fun (r_13 : Int32) => w_X10_makes r_11 p1 r_9 r_13 m_8 (fun (r_15 : Int32) (m_16 : Mm) => ∀ x_17 : Int32, x_17 = ((m_16.1 32 1 117) - 1) → (w_X10_of r_1 5 m_16 (fun (r_18 : Int32) => w_X10_put x_17 5 r_18 m_16 (fun (m_21 : Mm) => w_X10_of r_1 6 m_21 (fun (r_22 : Int32) => w_X10_put x_17 6 r_22 m_21 (fun (m_25 : Mm) => w_X10_of r_1 7 m_25 (fun (r_26 : Int32) => w_X10_put x_17 7 r_26 m_25 (fun (m_29 : Mm) => w_X10_goes r_1 p1 m_29 (fun (m_31 : Mm) => Q9 r_15 m_31)))))))))))))) ∧
  (¬ r_4 = 0 → Q9 0 m_5)))
def w_X10_split_J38 (p1 : Int32) (mm : Mm) (Q9 : Int32 → Mm → Prop) (r_1 : Int32) : Prop :=
  w_X10_split_J83 p1 mm Q9 r_1 2
def w_X10_split_J78 (p1 : Int32) (mm : Mm) (Q9 : Int32 → Mm → Prop) (r_1 : Int32) : Prop :=
  w_X10_split_J83 p1 mm Q9 r_1 3
def w_X10_split (p0 : Int32) (p1 : Int32) (mm : Mm) (Q9 : Int32 → Mm → Prop) : Prop :=
  w_X10_find p0 mm (fun (r_1 : Int32) => ((¬ r_1 = (-1) → w_X10_in (Int32.toInt64 p1) (1 : Int64) (998 : Int64) mm (fun (r_33 : Int32) => ((r_33 = 0 → w_X10_split_J38 p1 mm Q9 r_1) ∧
  (¬ r_33 = 0 → w_X10_of r_1 2 mm (fun (r_36 : Int32) => ((p1 < r_36 → w_X10_of r_1 4 mm (fun (r_39 : Int32) => w_X10_isShut r_39 mm (fun (r_41 : Int32) => ((¬ r_41 = 0 → w_X10_split_J78 p1 mm Q9 r_1) ∧
  (r_41 = 0 → (((mm.1 32 1 117) = 16 → w_X10_split_J78 p1 mm Q9 r_1) ∧
  (¬ (mm.1 32 1 117) = 16 → ((¬ (mm.1 32 1 1) = 60 → w_X10_split_J83 p1 mm Q9 r_1 0) ∧
  ((mm.1 32 1 1) = 60 → w_X10_split_J78 p1 mm Q9 r_1))))))))) ∧
  (¬ p1 < r_36 → w_X10_split_J38 p1 mm Q9 r_1))))))) ∧
  (r_1 = (-1) → w_X10_split_J83 p1 mm Q9 r_1 1)))
def w_X10_canMerge (p0 : Int32) (p1 : Int32) (mm : Mm) (Q9 : Int32 → Prop) : Prop :=
  w_X10_of p0 1 mm (fun (r_1 : Int32) => w_X10_of p1 1 mm (fun (r_3 : Int32) => ((¬ r_1 = r_3 → Q9 0) ∧
  (r_1 = r_3 → w_X10_of p0 4 mm (fun (r_6 : Int32) => w_X10_of p1 4 mm (fun (r_8 : Int32) => ((¬ r_6 = r_8 → Q9 0) ∧
  (r_6 = r_8 → w_X10_of p0 4 mm (fun (r_11 : Int32) => w_X10_isShut r_11 mm (fun (r_13 : Int32) => ((¬ r_13 = 0 → Q9 0) ∧
  (r_13 = 0 → w_X10_of p0 7 mm (fun (r_16 : Int32) => w_X10_of p1 7 mm (fun (r_18 : Int32) => ((¬ (r_16 + r_18) = 2 → Q9 0) ∧
  ((r_16 + r_18) = 2 → w_X10_of p0 2 mm (fun (r_21 : Int32) => w_X10_of p1 2 mm (fun (r_23 : Int32) => ((999 < (r_21 + r_23) → Q9 0) ∧
  (¬ 999 < (r_21 + r_23) → Q9 1))))))))))))))))))))
def w_X10_merge_J145 (Q9 : Int32 → Mm → Prop) (r_1 : Int32) (r_3 : Int32) (x_15 : Int32) (m_23 : Mm) (y_28 : Int32) : Prop :=
  w_X10_put r_1 5 y_28 m_23 (fun (m_30 : Mm) => w_X10_of r_1 6 m_30 (fun (r_31 : Int32) => w_X10_of r_3 6 m_30 (fun (r_33 : Int32) => ((r_33 ≤ r_31 → w_X10_of r_3 6 m_30 (fun (r_36 : Int32) => w_X10_put r_1 6 r_36 m_30 (fun (m_39 : Mm) => w_X10_close r_3 m_39 (fun (m_41 : Mm) => Q9 x_15 m_41)))) ∧
  (¬ r_33 ≤ r_31 → w_X10_of r_1 6 m_30 (fun (r_42 : Int32) => w_X10_put r_1 6 r_42 m_30 (fun (m_45 : Mm) => w_X10_close r_3 m_45 (fun (m_47 : Mm) => Q9 x_15 m_47))))))))
def w_X10_merge_J54 (mm : Mm) (Q9 : Int32 → Mm → Prop) (r_1 : Int32) (r_3 : Int32) (y_5 : Int32) : Prop :=
  w_X10_refused y_5 mm (fun (r_6 : Int32) (m_7 : Mm) => ((r_6 = 0 → w_X10_saves m_7 (fun (m_10 : Mm) => w_X10_of r_1 2 m_10 (fun (r_11 : Int32) => w_X10_of r_3 2 m_10 (fun (r_13 : Int32) => ∀ x_15 : Int32, x_15 = (r_11 + r_13) → (w_X10_put r_1 2 x_15 m_10 (fun (m_17 : Mm) => w_X10_of r_1 3 m_17 (fun (r_18 : Int32) => w_X10_of r_3 3 m_17 (fun (r_20 : Int32) => w_X10_put r_1 3 (r_18 + r_20) m_17 (fun (m_23 : Mm) => w_X10_of r_1 5 m_23 (fun (r_24 : Int32) => w_X10_of r_3 5 m_23 (fun (r_26 : Int32) => ((r_24 ≤ r_26 → w_X10_of r_3 5 m_23 (fun (r_49 : Int32) => w_X10_merge_J145 Q9 r_1 r_3 x_15 m_23 r_49)) ∧
  (¬ r_24 ≤ r_26 → w_X10_of r_1 5 m_23 (fun (r_51 : Int32) => w_X10_merge_J145 Q9 r_1 r_3 x_15 m_23 r_51)))))))))))))) ∧
  (¬ r_6 = 0 → Q9 0 m_7)))
def w_X10_merge_J25 (mm : Mm) (Q9 : Int32 → Mm → Prop) (r_1 : Int32) (r_3 : Int32) : Prop :=
  w_X10_merge_J54 mm Q9 r_1 r_3 1
def w_X10_merge (p0 : Int32) (p1 : Int32) (mm : Mm) (Q9 : Int32 → Mm → Prop) : Prop :=
  w_X10_find p0 mm (fun (r_1 : Int32) => w_X10_find p1 mm (fun (r_3 : Int32) => ((r_1 = (-1) → w_X10_merge_J25 mm Q9 r_1 r_3) ∧
  (¬ r_1 = (-1) → ((¬ r_3 = (-1) → ((¬ r_1 = r_3 → w_X10_canMerge r_1 r_3 mm (fun (r_56 : Int32) => ((r_56 = 0 → w_X10_merge_J54 mm Q9 r_1 r_3 3) ∧
  (¬ r_56 = 0 → w_X10_merge_J54 mm Q9 r_1 r_3 0)))) ∧
  (r_1 = r_3 → w_X10_merge_J54 mm Q9 r_1 r_3 2))) ∧
  (r_3 = (-1) → w_X10_merge_J25 mm Q9 r_1 r_3))))))
def w_X10_weigh_J54 (p1 : Int32) (mm : Mm) (Q9 : Int32 → Mm → Prop) (r_1 : Int32) (y_3 : Int32) : Prop :=
  w_X10_refused y_3 mm (fun (r_4 : Int32) (m_5 : Mm) => ((r_4 = 0 → w_X10_saves m_5 (fun (m_8 : Mm) => w_X10_weighOn r_1 p1 m_8 (fun (r_9 : Int32) (m_10 : Mm) => Q9 r_9 m_10))) ∧
  (¬ r_4 = 0 → Q9 0 m_5)))
def w_X10_weigh (p0 : Int32) (p1 : Int32) (mm : Mm) (Q9 : Int32 → Mm → Prop) : Prop :=
  w_X10_find p0 mm (fun (r_1 : Int32) => ((¬ r_1 = (-1) → w_X10_of r_1 2 mm (fun (r_12 : Int32) => w_X10_in (Int32.toInt64 p1) (0 : Int64) (Int32.toInt64 r_12) mm (fun (r_14 : Int32) => ((¬ r_14 = 0 → w_X10_of r_1 4 mm (fun (r_17 : Int32) => w_X10_isShut r_17 mm (fun (r_19 : Int32) => ((r_19 = 0 → w_X10_weigh_J54 p1 mm Q9 r_1 0) ∧
  (¬ r_19 = 0 → w_X10_weigh_J54 p1 mm Q9 r_1 3))))) ∧
  (r_14 = 0 → w_X10_weigh_J54 p1 mm Q9 r_1 2))))) ∧
  (r_1 = (-1) → w_X10_weigh_J54 p1 mm Q9 r_1 1)))
def w_X10_lock (p0 : Int32) (mm : Mm) (Q9 : Int32 → Mm → Prop) : Prop :=
  w_X10_isChamber p0 mm (fun (r_1 : Int32) => ((¬ r_1 = 0 → w_X10_isShut p0 mm (fun (r_4 : Int32) => ((r_4 = 0 → w_X10_refused 0 mm (fun (r_7 : Int32) (m_8 : Mm) => ((r_7 = 0 → w_X10_saves m_8 (fun (m_11 : Mm) => w_X10_lockOn p0 m_11 (fun (r_12 : Int32) (m_13 : Mm) => Q9 r_12 m_13))) ∧
  (¬ r_7 = 0 → Q9 0 m_8)))) ∧
  (¬ r_4 = 0 → w_X10_refused 2 mm (fun (r_14 : Int32) (m_15 : Mm) => ((r_14 = 0 → w_X10_saves m_15 (fun (m_18 : Mm) => w_X10_lockOn p0 m_18 (fun (r_19 : Int32) (m_20 : Mm) => Q9 r_19 m_20))) ∧
  (¬ r_14 = 0 → Q9 0 m_15))))))) ∧
  (r_1 = 0 → w_X10_refused 1 mm (fun (r_21 : Int32) (m_22 : Mm) => ((r_21 = 0 → w_X10_saves m_22 (fun (m_25 : Mm) => w_X10_lockOn p0 m_25 (fun (r_26 : Int32) (m_27 : Mm) => Q9 r_26 m_27))) ∧
  (¬ r_21 = 0 → Q9 0 m_22))))))
def w_X10_open (p0 : Int32) (mm : Mm) (Q9 : Int32 → Mm → Prop) : Prop :=
  w_X10_isChamber p0 mm (fun (r_1 : Int32) => ((¬ r_1 = 0 → w_X10_isShut p0 mm (fun (r_4 : Int32) => ((r_4 = 0 → w_X10_refused 2 mm (fun (r_7 : Int32) (m_8 : Mm) => ((r_7 = 0 → w_X10_saves m_8 (fun (m_11 : Mm) => w_X10_openOn p0 m_11 (fun (r_12 : Int32) (m_13 : Mm) => Q9 r_12 m_13))) ∧
  (¬ r_7 = 0 → Q9 0 m_8)))) ∧
  (¬ r_4 = 0 → w_X10_refused 0 mm (fun (r_14 : Int32) (m_15 : Mm) => ((r_14 = 0 → w_X10_saves m_15 (fun (m_18 : Mm) => w_X10_openOn p0 m_18 (fun (r_19 : Int32) (m_20 : Mm) => Q9 r_19 m_20))) ∧
  (¬ r_14 = 0 → Q9 0 m_15))))))) ∧
  (r_1 = 0 → w_X10_refused 1 mm (fun (r_21 : Int32) (m_22 : Mm) => ((r_21 = 0 → w_X10_saves m_22 (fun (m_25 : Mm) => w_X10_openOn p0 m_25 (fun (r_26 : Int32) (m_27 : Mm) => Q9 r_26 m_27))) ∧
  (¬ r_21 = 0 → Q9 0 m_22))))))
def w_X10_canBreak (p0 : Int32) (mm : Mm) (Q9 : Int32 → Prop) : Prop :=
  w_X10_isShut p0 mm (fun (r_1 : Int32) => ((r_1 = 0 → Q9 0) ∧
  (¬ r_1 = 0 → vp_in (15 + p0) 246 ∧ (((¬ (mm.1 32 1 (15 + p0).toNatClampNeg) = 0 → Q9 0) ∧
  ((mm.1 32 1 (15 + p0).toNatClampNeg) = 0 → Q9 1))))))
def w_X10_breakSeal (p0 : Int32) (mm : Mm) (Q9 : Int32 → Mm → Prop) : Prop :=
  w_X10_isChamber p0 mm (fun (r_1 : Int32) => ((¬ r_1 = 0 → w_X10_canBreak p0 mm (fun (r_4 : Int32) => ((r_4 = 0 → w_X10_refused 2 mm (fun (r_7 : Int32) (m_8 : Mm) => ((r_7 = 0 → w_X10_saves m_8 (fun (m_11 : Mm) => w_X10_breakOn p0 m_11 (fun (r_12 : Int32) (m_13 : Mm) => Q9 r_12 m_13))) ∧
  (¬ r_7 = 0 → Q9 0 m_8)))) ∧
  (¬ r_4 = 0 → w_X10_refused 0 mm (fun (r_14 : Int32) (m_15 : Mm) => ((r_14 = 0 → w_X10_saves m_15 (fun (m_18 : Mm) => w_X10_breakOn p0 m_18 (fun (r_19 : Int32) (m_20 : Mm) => Q9 r_19 m_20))) ∧
  (¬ r_14 = 0 → Q9 0 m_15))))))) ∧
  (r_1 = 0 → w_X10_refused 1 mm (fun (r_21 : Int32) (m_22 : Mm) => ((r_21 = 0 → w_X10_saves m_22 (fun (m_25 : Mm) => w_X10_breakOn p0 m_25 (fun (r_26 : Int32) (m_27 : Mm) => Q9 r_26 m_27))) ∧
  (¬ r_21 = 0 → Q9 0 m_22))))))
def w_X10_deposit (p0 : Int32) (mm : Mm) (Q9 : Int32 → Mm → Prop) : Prop :=
  w_X10_in (Int32.toInt64 p0) (1 : Int64) (9999 : Int64) mm (fun (r_1 : Int32) => ((¬ r_1 = 0 → w_X10_canPay p0 mm (fun (r_4 : Int32) => ((r_4 = 0 → w_X10_refused 2 mm (fun (r_7 : Int32) (m_8 : Mm) => ((r_7 = 0 → w_X10_saves m_8 (fun (m_11 : Mm) => w_X10_payOn p0 m_11 (fun (r_12 : Int32) (m_13 : Mm) => Q9 r_12 m_13))) ∧
  (¬ r_7 = 0 → Q9 0 m_8)))) ∧
  (¬ r_4 = 0 → w_X10_refused 0 mm (fun (r_14 : Int32) (m_15 : Mm) => ((r_14 = 0 → w_X10_saves m_15 (fun (m_18 : Mm) => w_X10_payOn p0 m_18 (fun (r_19 : Int32) (m_20 : Mm) => Q9 r_19 m_20))) ∧
  (¬ r_14 = 0 → Q9 0 m_15))))))) ∧
  (r_1 = 0 → w_X10_refused 1 mm (fun (r_21 : Int32) (m_22 : Mm) => ((r_21 = 0 → w_X10_saves m_22 (fun (m_25 : Mm) => w_X10_payOn p0 m_25 (fun (r_26 : Int32) (m_27 : Mm) => Q9 r_26 m_27))) ∧
  (¬ r_21 = 0 → Q9 0 m_22))))))
def w_X10_set (p0 : Int32) (p1 : Int32) (mm : Mm) (Q9 : Int32 → Mm → Prop) : Prop :=
  w_X10_saves mm (fun (m_2 : Mm) => vp_in p0 246 ∧ (∀ x_4 : Int32, x_4 = (m_2.1 32 1 p0.toNatClampNeg) → (∀ m_5 : Mm, m_5 = sI m_2 32 1 p0.toNatClampNeg p1 → (Q9 x_4 m_5))))
def w_X10_setBond (p0 : Int32) (mm : Mm) (Q9 : Int32 → Mm → Prop) : Prop :=
  w_X10_in (Int32.toInt64 p0) (0 : Int64) (50000 : Int64) mm (fun (r_1 : Int32) => ((¬ r_1 = 0 → w_X10_stake mm (fun (r_4 : Int32) => ((r_4 ≤ p0 → w_X10_refused 0 mm (fun (r_7 : Int32) (m_8 : Mm) => ((r_7 = 0 → w_X10_set 5 p0 m_8 (fun (r_10 : Int32) (m_11 : Mm) => Q9 r_10 m_11)) ∧
  (¬ r_7 = 0 → Q9 0 m_8)))) ∧
  (¬ r_4 ≤ p0 → w_X10_refused 2 mm (fun (r_12 : Int32) (m_13 : Mm) => ((r_12 = 0 → w_X10_set 5 p0 m_13 (fun (r_15 : Int32) (m_16 : Mm) => Q9 r_15 m_16)) ∧
  (¬ r_12 = 0 → Q9 0 m_13))))))) ∧
  (r_1 = 0 → w_X10_refused 1 mm (fun (r_17 : Int32) (m_18 : Mm) => ((r_17 = 0 → w_X10_set 5 p0 m_18 (fun (r_20 : Int32) (m_21 : Mm) => Q9 r_20 m_21)) ∧
  (¬ r_17 = 0 → Q9 0 m_18))))))
def w_X10_setRateByValue_J25 (p0 : Int32) (p1 : Int32) (mm : Mm) (Q9 : Int32 → Mm → Prop) (y_3 : Int32) : Prop :=
  w_X10_refused y_3 mm (fun (r_4 : Int32) (m_5 : Mm) => ((r_4 = 0 → w_X10_set (20 + p0) p1 m_5 (fun (r_7 : Int32) (m_8 : Mm) => Q9 r_7 m_8)) ∧
  (¬ r_4 = 0 → Q9 0 m_5)))
def w_X10_setRateByValue_J24 (p0 : Int32) (p1 : Int32) (mm : Mm) (Q9 : Int32 → Mm → Prop) : Prop :=
  w_X10_setRateByValue_J25 p0 p1 mm Q9 1
def w_X10_setRateByValue (p0 : Int32) (p1 : Int32) (mm : Mm) (Q9 : Int32 → Mm → Prop) : Prop :=
  w_X10_isKind p0 mm (fun (r_1 : Int32) => ((r_1 = 0 → w_X10_setRateByValue_J24 p0 p1 mm Q9) ∧
  (¬ r_1 = 0 → w_X10_in (Int32.toInt64 p1) (0 : Int64) (60 : Int64) mm (fun (r_10 : Int32) => ((r_10 = 0 → w_X10_setRateByValue_J24 p0 p1 mm Q9) ∧
  (¬ r_10 = 0 → w_X10_setRateByValue_J25 p0 p1 mm Q9 0))))))
def w_X10_setRateByWeight_J25 (p0 : Int32) (p1 : Int32) (mm : Mm) (Q9 : Int32 → Mm → Prop) (y_3 : Int32) : Prop :=
  w_X10_refused y_3 mm (fun (r_4 : Int32) (m_5 : Mm) => ((r_4 = 0 → w_X10_set (26 + p0) p1 m_5 (fun (r_7 : Int32) (m_8 : Mm) => Q9 r_7 m_8)) ∧
  (¬ r_4 = 0 → Q9 0 m_5)))
def w_X10_setRateByWeight_J24 (p0 : Int32) (p1 : Int32) (mm : Mm) (Q9 : Int32 → Mm → Prop) : Prop :=
  w_X10_setRateByWeight_J25 p0 p1 mm Q9 1
def w_X10_setRateByWeight (p0 : Int32) (p1 : Int32) (mm : Mm) (Q9 : Int32 → Mm → Prop) : Prop :=
  w_X10_isKind p0 mm (fun (r_1 : Int32) => ((r_1 = 0 → w_X10_setRateByWeight_J24 p0 p1 mm Q9) ∧
  (¬ r_1 = 0 → w_X10_in (Int32.toInt64 p1) (0 : Int64) (80 : Int64) mm (fun (r_10 : Int32) => ((r_10 = 0 → w_X10_setRateByWeight_J24 p0 p1 mm Q9) ∧
  (¬ r_10 = 0 → w_X10_setRateByWeight_J25 p0 p1 mm Q9 0))))))
def w_X10_pass (p0 : Int32) (mm : Mm) (Q9 : Int32 → Mm → Prop) : Prop :=
  w_X10_in (Int32.toInt64 p0) (1 : Int64) (100 : Int64) mm (fun (r_1 : Int32) => ((¬ r_1 = 0 → ((((mm.1 32 1 0) + p0) ≤ 9999 → w_X10_refused 0 mm (fun (r_5 : Int32) (m_6 : Mm) => ((r_5 = 0 → w_X10_saves m_6 (fun (m_9 : Mm) => w_X10_passOn p0 m_9 (fun (r_10 : Int32) (m_11 : Mm) => Q9 r_10 m_11))) ∧
  (¬ r_5 = 0 → Q9 0 m_6)))) ∧
  (¬ ((mm.1 32 1 0) + p0) ≤ 9999 → w_X10_refused 2 mm (fun (r_12 : Int32) (m_13 : Mm) => ((r_12 = 0 → w_X10_saves m_13 (fun (m_16 : Mm) => w_X10_passOn p0 m_16 (fun (r_17 : Int32) (m_18 : Mm) => Q9 r_17 m_18))) ∧
  (¬ r_12 = 0 → Q9 0 m_13)))))) ∧
  (r_1 = 0 → w_X10_refused 1 mm (fun (r_19 : Int32) (m_20 : Mm) => ((r_19 = 0 → w_X10_saves m_20 (fun (m_23 : Mm) => w_X10_passOn p0 m_23 (fun (r_24 : Int32) (m_25 : Mm) => Q9 r_24 m_25))) ∧
  (¬ r_19 = 0 → Q9 0 m_20))))))
def w_X10_told (p0 : Int32) (mm : Mm) (Q9 : Int32 → Mm → Prop) : Prop :=
  ∀ m_1 : Mm, m_1 = sI mm 30 1 0 0 → (Q9 p0 m_1)
def w_X10_day  (mm : Mm) (Q9 : Int32 → Mm → Prop) : Prop :=
  w_X10_told (mm.1 32 1 0) mm (fun (r_1 : Int32) (m_2 : Mm) => Q9 r_1 m_2)
def w_X10_entries  (mm : Mm) (Q9 : Int32 → Mm → Prop) : Prop :=
  w_X10_told (mm.1 32 1 117) mm (fun (r_1 : Int32) (m_2 : Mm) => Q9 r_1 m_2)
def w_X10_entriesMade  (mm : Mm) (Q9 : Int32 → Mm → Prop) : Prop :=
  w_X10_told (mm.1 32 1 1) mm (fun (r_1 : Int32) (m_2 : Mm) => Q9 r_1 m_2)
def w_X10_isOpenEntry (p0 : Int32) (mm : Mm) (Q9 : Int32 → Mm → Prop) : Prop :=
  ∀ m_1 : Mm, m_1 = sI mm 30 1 0 0 → (w_X10_find p0 m_1 (fun (r_2 : Int32) => ((r_2 = (-1) → Q9 0 m_1) ∧
  (¬ r_2 = (-1) → Q9 1 m_1))))
def w_X10_entryAt (p0 : Int32) (mm : Mm) (Q9 : Int32 → Mm → Prop) : Prop :=
  w_X10_in (Int32.toInt64 p0) (0 : Int64) (Int32.toInt64 ((mm.1 32 1 117) - 1)) mm (fun (r_1 : Int32) => ((r_1 = 0 → w_X10_refused 1 mm (fun (r_4 : Int32) (m_5 : Mm) => ((r_4 = 0 → w_X10_of p0 0 m_5 (fun (r_7 : Int32) => Q9 r_7 m_5)) ∧
  (¬ r_4 = 0 → Q9 0 m_5)))) ∧
  (¬ r_1 = 0 → w_X10_refused 0 mm (fun (r_9 : Int32) (m_10 : Mm) => ((r_9 = 0 → w_X10_of p0 0 m_10 (fun (r_12 : Int32) => Q9 r_12 m_10)) ∧
  (¬ r_9 = 0 → Q9 0 m_10))))))
def w_X10_tells (p0 : Int32) (p1 : Int32) (mm : Mm) (Q9 : Int32 → Mm → Prop) : Prop :=
  w_X10_find p0 mm (fun (r_1 : Int32) => ((¬ r_1 = (-1) → w_X10_refused 0 mm (fun (r_4 : Int32) (m_5 : Mm) => ((r_4 = 0 → w_X10_of r_1 p1 m_5 (fun (r_7 : Int32) => Q9 r_7 m_5)) ∧
  (¬ r_4 = 0 → Q9 0 m_5)))) ∧
  (r_1 = (-1) → w_X10_refused 1 mm (fun (r_9 : Int32) (m_10 : Mm) => ((r_9 = 0 → w_X10_of r_1 p1 m_10 (fun (r_12 : Int32) => Q9 r_12 m_10)) ∧
  (¬ r_9 = 0 → Q9 0 m_10))))))
def w_X10_kindOf (p0 : Int32) (mm : Mm) (Q9 : Int32 → Mm → Prop) : Prop :=
  w_X10_tells p0 1 mm (fun (r_1 : Int32) (m_2 : Mm) => Q9 r_1 m_2)
def w_X10_weightOf (p0 : Int32) (mm : Mm) (Q9 : Int32 → Mm → Prop) : Prop :=
  w_X10_tells p0 2 mm (fun (r_1 : Int32) (m_2 : Mm) => Q9 r_1 m_2)
def w_X10_valueOf (p0 : Int32) (mm : Mm) (Q9 : Int32 → Mm → Prop) : Prop :=
  w_X10_tells p0 3 mm (fun (r_1 : Int32) (m_2 : Mm) => Q9 r_1 m_2)
def w_X10_chamberOf (p0 : Int32) (mm : Mm) (Q9 : Int32 → Mm → Prop) : Prop :=
  w_X10_tells p0 4 mm (fun (r_1 : Int32) (m_2 : Mm) => Q9 r_1 m_2)
def w_X10_ageOf (p0 : Int32) (mm : Mm) (Q9 : Int32 → Mm → Prop) : Prop :=
  w_X10_tells p0 5 mm (fun (r_1 : Int32) (m_2 : Mm) => Q9 r_1 m_2)
def w_X10_isProved (p0 : Int32) (mm : Mm) (Q9 : Int32 → Mm → Prop) : Prop :=
  w_X10_tells p0 7 mm (fun (r_1 : Int32) (m_2 : Mm) => ((¬ r_1 = 1 → Q9 0 m_2) ∧
  (r_1 = 1 → Q9 1 m_2)))
def w_X10_isOverdue (p0 : Int32) (mm : Mm) (Q9 : Int32 → Mm → Prop) : Prop :=
  w_X10_tells p0 5 mm (fun (r_1 : Int32) (m_2 : Mm) => ((r_1 ≤ 200 → Q9 0 m_2) ∧
  (¬ r_1 ≤ 200 → Q9 1 m_2)))
def w_X10_dutyOfPart (p0 : Int32) (p1 : Int32) (mm : Mm) (Q9 : Int32 → Mm → Prop) : Prop :=
  w_X10_find p0 mm (fun (r_1 : Int32) => ((¬ r_1 = (-1) → w_X10_of r_1 2 mm (fun (r_4 : Int32) => w_X10_in (Int32.toInt64 p1) (1 : Int64) (Int32.toInt64 r_4) mm (fun (r_6 : Int32) => ((r_6 = 0 → w_X10_refused 2 mm (fun (r_9 : Int32) (m_10 : Mm) => ((r_9 = 0 → w_X10_dutyPart r_1 p1 m_10 (fun (r_12 : Int32) => Q9 r_12 m_10)) ∧
  (¬ r_9 = 0 → Q9 0 m_10)))) ∧
  (¬ r_6 = 0 → w_X10_refused 0 mm (fun (r_14 : Int32) (m_15 : Mm) => ((r_14 = 0 → w_X10_dutyPart r_1 p1 m_15 (fun (r_17 : Int32) => Q9 r_17 m_15)) ∧
  (¬ r_14 = 0 → Q9 0 m_15)))))))) ∧
  (r_1 = (-1) → w_X10_refused 1 mm (fun (r_19 : Int32) (m_20 : Mm) => ((r_19 = 0 → w_X10_dutyPart r_1 p1 m_20 (fun (r_22 : Int32) => Q9 r_22 m_20)) ∧
  (¬ r_19 = 0 → Q9 0 m_20))))))
def w_X10_dutyOf (p0 : Int32) (mm : Mm) (Q9 : Int32 → Mm → Prop) : Prop :=
  w_X10_find p0 mm (fun (r_1 : Int32) => ((¬ r_1 = (-1) → w_X10_refused 0 mm (fun (r_4 : Int32) (m_5 : Mm) => ((r_4 = 0 → w_X10_dutyAll r_1 m_5 (fun (r_7 : Int32) => Q9 r_7 m_5)) ∧
  (¬ r_4 = 0 → Q9 0 m_5)))) ∧
  (r_1 = (-1) → w_X10_refused 1 mm (fun (r_9 : Int32) (m_10 : Mm) => ((r_9 = 0 → w_X10_dutyAll r_1 m_10 (fun (r_12 : Int32) => Q9 r_12 m_10)) ∧
  (¬ r_9 = 0 → Q9 0 m_10))))))
def w_X10_allowedWaste (p0 : Int32) (mm : Mm) (Q9 : Int32 → Mm → Prop) : Prop :=
  w_X10_find p0 mm (fun (r_1 : Int32) => ((¬ r_1 = (-1) → w_X10_refused 0 mm (fun (r_4 : Int32) (m_5 : Mm) => ((r_4 = 0 → w_X10_allowed r_1 m_5 (fun (r_7 : Int32) => Q9 r_7 m_5)) ∧
  (¬ r_4 = 0 → Q9 0 m_5)))) ∧
  (r_1 = (-1) → w_X10_refused 1 mm (fun (r_9 : Int32) (m_10 : Mm) => ((r_9 = 0 → w_X10_allowed r_1 m_10 (fun (r_12 : Int32) => Q9 r_12 m_10)) ∧
  (¬ r_9 = 0 → Q9 0 m_10))))))
def w_X10_meanDuty  (mm : Mm) (Q9 : UInt64 → Mm → Prop) : Prop :=
  ∀ m_1 : Mm, m_1 = sI mm 30 1 0 0 → (((¬ (m_1.1 32 1 117) = 0 → w_X10_stake m_1 (fun (r_3 : Int32) => vf_n64 (FP.ddiv (FP.i2d r_3) (FP.i2d (m_1.1 32 1 117))) ∧ (Q9 (FP.ddiv (FP.i2d r_3) (FP.i2d (m_1.1 32 1 117))) m_1))) ∧
  ((m_1.1 32 1 117) = 0 → Q9 FP.dconst0 m_1)))
def w_X10_noChamber (p0 : Int32) (mm : Mm) (Q9 : Int32 → Mm → Prop) : Prop :=
  w_X10_isChamber p0 mm (fun (r_1 : Int32) => ((r_1 = 0 → w_X10_refused 1 mm (fun (r_4 : Int32) (m_5 : Mm) => isB r_4 ∧ Q9 r_4 m_5)) ∧
  (¬ r_1 = 0 → w_X10_refused 0 mm (fun (r_7 : Int32) (m_8 : Mm) => isB r_7 ∧ Q9 r_7 m_8))))
def w_X10_isLocked (p0 : Int32) (mm : Mm) (Q9 : Int32 → Mm → Prop) : Prop :=
  w_X10_noChamber p0 mm (fun (r_1 : Int32) (m_2 : Mm) => ((¬ r_1 = 0 → Q9 0 m_2) ∧
  (r_1 = 0 → w_X10_isShut p0 m_2 (fun (r_4 : Int32) => ((r_4 = 0 → Q9 0 m_2) ∧
  (¬ r_4 = 0 → Q9 1 m_2))))))
def w_X10_sealOf (p0 : Int32) (mm : Mm) (Q9 : Int32 → Mm → Prop) : Prop :=
  w_X10_noChamber p0 mm (fun (r_1 : Int32) (m_2 : Mm) => ((r_1 = 0 → w_X10_isShut p0 m_2 (fun (r_4 : Int32) => ((r_4 = 0 → Q9 (-1) m_2) ∧
  (¬ r_4 = 0 → vp_in (10 + p0) 246 ∧ (Q9 (m_2.1 32 1 (10 + p0).toNatClampNeg) m_2))))) ∧
  (¬ r_1 = 0 → Q9 0 m_2)))
def w_X10_isSealBroken (p0 : Int32) (mm : Mm) (Q9 : Int32 → Mm → Prop) : Prop :=
  w_X10_noChamber p0 mm (fun (r_1 : Int32) (m_2 : Mm) => ((¬ r_1 = 0 → Q9 0 m_2) ∧
  (r_1 = 0 → vp_in (15 + p0) 246 ∧ (((¬ (m_2.1 32 1 (15 + p0).toNatClampNeg) = 1 → Q9 0 m_2) ∧
  ((m_2.1 32 1 (15 + p0).toNatClampNeg) = 1 → Q9 1 m_2))))))
def w_X10_entriesIn_B14 (p0 : Int32) (Q9 : Int32 → Mm → Prop) (m_2 : Mm) (K_6 : Int32 → Int32 → Prop) (y_4 : Int32) (y_5 : Int32) : Prop :=
  (((m_2.1 32 1 117) ≤ y_5 → Q9 y_4 m_2) ∧
  (¬ (m_2.1 32 1 117) ≤ y_5 → w_X10_of y_5 4 m_2 (fun (r_9 : Int32) => ((¬ r_9 = p0 → ∀ x_12 : Int32, x_12 = (y_4 + 0) → (∀ x_13 : Int32, x_13 = y_5 + 1 → (K_6 x_12 x_13))) ∧
  (r_9 = p0 → ∀ x_14 : Int32, x_14 = (y_4 + 1) → (∀ x_15 : Int32, x_15 = y_5 + 1 → (K_6 x_14 x_15)))))))
def w_X10_entriesIn (p0 : Int32) (mm : Mm) (Q9 : Int32 → Mm → Prop) : Prop :=
  w_X10_noChamber p0 mm (fun (r_1 : Int32) (m_2 : Mm) => ((r_1 = 0 → ∃ n, itr (α := Int32 × Int32) (fun K a => w_X10_entriesIn_B14 p0 Q9 m_2 (fun z0 z1 => K (z0, z1)) a.1 a.2) n (0, 0)) ∧
  (¬ r_1 = 0 → Q9 0 m_2)))
def w_X10_roomIn (p0 : Int32) (mm : Mm) (Q9 : Int32 → Mm → Prop) : Prop :=
  w_X10_noChamber p0 mm (fun (r_1 : Int32) (m_2 : Mm) => ((r_1 = 0 → w_X10_room p0 m_2 (fun (r_4 : Int32) => Q9 r_4 m_2)) ∧
  (¬ r_1 = 0 → Q9 0 m_2)))
def w_X10_receipts  (mm : Mm) (Q9 : Int32 → Mm → Prop) : Prop :=
  w_X10_told (mm.1 32 1 68) mm (fun (r_1 : Int32) (m_2 : Mm) => Q9 r_1 m_2)
def w_X10_ofPaper_J14 (p0 : Int32) (p1 : Int32) (mm : Mm) (Q9 : Int32 → Mm → Prop) (y_3 : Int32) : Prop :=
  w_X10_refused y_3 mm (fun (r_4 : Int32) (m_5 : Mm) => ((r_4 = 0 → vp_in ((69 + (4 * p0)) + p1) 246 ∧ (Q9 (m_5.1 32 1 ((69 + (4 * p0)) + p1).toNatClampNeg) m_5)) ∧
  (¬ r_4 = 0 → Q9 0 m_5)))
def w_X10_ofPaper (p0 : Int32) (p1 : Int32) (mm : Mm) (Q9 : Int32 → Mm → Prop) : Prop :=
  w_X10_isPaper p0 mm (fun (r_1 : Int32) => ((r_1 = 0 → w_X10_ofPaper_J14 p0 p1 mm Q9 1) ∧
  (¬ r_1 = 0 → w_X10_ofPaper_J14 p0 p1 mm Q9 0)))
def w_X10_receiptKind (p0 : Int32) (mm : Mm) (Q9 : Int32 → Mm → Prop) : Prop :=
  w_X10_ofPaper p0 0 mm (fun (r_1 : Int32) (m_2 : Mm) => Q9 r_1 m_2)
def w_X10_receiptWeight (p0 : Int32) (mm : Mm) (Q9 : Int32 → Mm → Prop) : Prop :=
  w_X10_ofPaper p0 1 mm (fun (r_1 : Int32) (m_2 : Mm) => Q9 r_1 m_2)
def w_X10_receiptDuty (p0 : Int32) (mm : Mm) (Q9 : Int32 → Mm → Prop) : Prop :=
  w_X10_ofPaper p0 2 mm (fun (r_1 : Int32) (m_2 : Mm) => Q9 r_1 m_2)
def w_X10_receiptAge (p0 : Int32) (mm : Mm) (Q9 : Int32 → Mm → Prop) : Prop :=
  w_X10_ofPaper p0 3 mm (fun (r_1 : Int32) (m_2 : Mm) => (((m_2.1 30 1 0) ≤ 0 → Q9 ((m_2.1 32 1 0) - r_1) m_2) ∧
  (¬ (m_2.1 30 1 0) ≤ 0 → Q9 0 m_2)))
def w_X10_ofKind_J13 (p0 : Int32) (p1 : Int32) (mm : Mm) (Q9 : Int32 → Mm → Prop) (y_3 : Int32) : Prop :=
  w_X10_refused y_3 mm (fun (r_4 : Int32) (m_5 : Mm) => ((r_4 = 0 → vp_in (p1 + p0) 246 ∧ (Q9 (m_5.1 32 1 (p1 + p0).toNatClampNeg) m_5)) ∧
  (¬ r_4 = 0 → Q9 0 m_5)))
def w_X10_ofKind (p0 : Int32) (p1 : Int32) (mm : Mm) (Q9 : Int32 → Mm → Prop) : Prop :=
  w_X10_isKind p0 mm (fun (r_1 : Int32) => ((r_1 = 0 → w_X10_ofKind_J13 p0 p1 mm Q9 1) ∧
  (¬ r_1 = 0 → w_X10_ofKind_J13 p0 p1 mm Q9 0)))
def w_X10_rateByValue (p0 : Int32) (mm : Mm) (Q9 : Int32 → Mm → Prop) : Prop :=
  w_X10_ofKind p0 20 mm (fun (r_1 : Int32) (m_2 : Mm) => Q9 r_1 m_2)
def w_X10_rateByWeight (p0 : Int32) (mm : Mm) (Q9 : Int32 → Mm → Prop) : Prop :=
  w_X10_ofKind p0 26 mm (fun (r_1 : Int32) (m_2 : Mm) => Q9 r_1 m_2)
def w_X10_bond  (mm : Mm) (Q9 : Int32 → Mm → Prop) : Prop :=
  w_X10_told (mm.1 32 1 5) mm (fun (r_1 : Int32) (m_2 : Mm) => Q9 r_1 m_2)
def w_X10_dutyAtStake  (mm : Mm) (Q9 : Int32 → Mm → Prop) : Prop :=
  w_X10_stake mm (fun (r_1 : Int32) => w_X10_told r_1 mm (fun (r_3 : Int32) (m_4 : Mm) => Q9 r_3 m_4))
def w_X10_account  (mm : Mm) (Q9 : Int32 → Mm → Prop) : Prop :=
  w_X10_told (mm.1 32 1 3) mm (fun (r_1 : Int32) (m_2 : Mm) => Q9 r_1 m_2)
def w_X10_debt  (mm : Mm) (Q9 : Int32 → Mm → Prop) : Prop :=
  w_X10_told (mm.1 32 1 4) mm (fun (r_1 : Int32) (m_2 : Mm) => Q9 r_1 m_2)
def w_X10_balance  (mm : Mm) (Q9 : Int32 → Mm → Prop) : Prop :=
  w_X10_told ((mm.1 32 1 3) - (mm.1 32 1 4)) mm (fun (r_1 : Int32) (m_2 : Mm) => Q9 r_1 m_2)
def w_X10_balanceByTotals  (mm : Mm) (Q9 : Int32 → Mm → Prop) : Prop :=
  w_X10_told ((((mm.1 32 1 6) + (mm.1 32 1 9)) - (mm.1 32 1 7)) - (mm.1 32 1 8)) mm (fun (r_1 : Int32) (m_2 : Mm) => Q9 r_1 m_2)
def w_X10_deposits  (mm : Mm) (Q9 : Int32 → Mm → Prop) : Prop :=
  w_X10_told (mm.1 32 1 6) mm (fun (r_1 : Int32) (m_2 : Mm) => Q9 r_1 m_2)
def w_X10_dutiesPaid  (mm : Mm) (Q9 : Int32 → Mm → Prop) : Prop :=
  w_X10_told (mm.1 32 1 7) mm (fun (r_1 : Int32) (m_2 : Mm) => Q9 r_1 m_2)
def w_X10_charges  (mm : Mm) (Q9 : Int32 → Mm → Prop) : Prop :=
  w_X10_told (mm.1 32 1 8) mm (fun (r_1 : Int32) (m_2 : Mm) => Q9 r_1 m_2)
def w_X10_drawbacks  (mm : Mm) (Q9 : Int32 → Mm → Prop) : Prop :=
  w_X10_told (mm.1 32 1 9) mm (fun (r_1 : Int32) (m_2 : Mm) => Q9 r_1 m_2)
def w_X10_totalOf_J13 (p0 : Int32) (p1 : Int32) (mm : Mm) (Q9 : Int32 → Mm → Prop) (y_3 : Int32) : Prop :=
  w_X10_refused y_3 mm (fun (r_4 : Int32) (m_5 : Mm) => ((r_4 = 0 → vp_in ((32 + (6 * p0)) + p1) 246 ∧ (Q9 (m_5.1 32 1 ((32 + (6 * p0)) + p1).toNatClampNeg) m_5)) ∧
  (¬ r_4 = 0 → Q9 0 m_5)))
def w_X10_totalOf (p0 : Int32) (p1 : Int32) (mm : Mm) (Q9 : Int32 → Mm → Prop) : Prop :=
  w_X10_isKind p0 mm (fun (r_1 : Int32) => ((r_1 = 0 → w_X10_totalOf_J13 p0 p1 mm Q9 1) ∧
  (¬ r_1 = 0 → w_X10_totalOf_J13 p0 p1 mm Q9 0)))
def w_X10_entered (p0 : Int32) (mm : Mm) (Q9 : Int32 → Mm → Prop) : Prop :=
  w_X10_totalOf p0 0 mm (fun (r_1 : Int32) (m_2 : Mm) => Q9 r_1 m_2)
def w_X10_withdrawn (p0 : Int32) (mm : Mm) (Q9 : Int32 → Mm → Prop) : Prop :=
  w_X10_totalOf p0 1 mm (fun (r_1 : Int32) (m_2 : Mm) => Q9 r_1 m_2)
def w_X10_sentAbroad (p0 : Int32) (mm : Mm) (Q9 : Int32 → Mm → Prop) : Prop :=
  w_X10_totalOf p0 2 mm (fun (r_1 : Int32) (m_2 : Mm) => Q9 r_1 m_2)
def w_X10_wasted (p0 : Int32) (mm : Mm) (Q9 : Int32 → Mm → Prop) : Prop :=
  w_X10_totalOf p0 3 mm (fun (r_1 : Int32) (m_2 : Mm) => Q9 r_1 m_2)
def w_X10_lost (p0 : Int32) (mm : Mm) (Q9 : Int32 → Mm → Prop) : Prop :=
  w_X10_totalOf p0 4 mm (fun (r_1 : Int32) (m_2 : Mm) => Q9 r_1 m_2)
def w_X10_drawnBack (p0 : Int32) (mm : Mm) (Q9 : Int32 → Mm → Prop) : Prop :=
  w_X10_totalOf p0 5 mm (fun (r_1 : Int32) (m_2 : Mm) => Q9 r_1 m_2)
def w_X10_stock_B4 (p0 : Int32) (mm : Mm) (Q9 : Int32 → Prop) (K_3 : Int32 → Int32 → Prop) (y_1 : Int32) (y_2 : Int32) : Prop :=
  (((mm.1 32 1 117) ≤ y_2 → Q9 y_1) ∧
  (¬ (mm.1 32 1 117) ≤ y_2 → w_X10_of y_2 1 mm (fun (r_6 : Int32) => ((¬ r_6 = p0 → ∀ x_9 : Int32, x_9 = (y_1 + 0) → (∀ x_10 : Int32, x_10 = y_2 + 1 → (K_3 x_9 x_10))) ∧
  (r_6 = p0 → w_X10_of y_2 2 mm (fun (r_11 : Int32) => ∀ x_13 : Int32, x_13 = (y_1 + r_11) → (∀ x_14 : Int32, x_14 = y_2 + 1 → (K_3 x_13 x_14))))))))
def w_X10_stock (p0 : Int32) (mm : Mm) (Q9 : Int32 → Prop) : Prop :=
  ∃ n, itr (α := Int32 × Int32) (fun K a => w_X10_stock_B4 p0 mm Q9 (fun z0 z1 => K (z0, z1)) a.1 a.2) n (0, 0)
def w_X10_stockByEntries (p0 : Int32) (mm : Mm) (Q9 : Int32 → Mm → Prop) : Prop :=
  w_X10_isKind p0 mm (fun (r_1 : Int32) => ((r_1 = 0 → w_X10_refused 1 mm (fun (r_4 : Int32) (m_5 : Mm) => ((r_4 = 0 → w_X10_stock p0 m_5 (fun (r_7 : Int32) => Q9 r_7 m_5)) ∧
  (¬ r_4 = 0 → Q9 0 m_5)))) ∧
  (¬ r_1 = 0 → w_X10_refused 0 mm (fun (r_9 : Int32) (m_10 : Mm) => ((r_9 = 0 → w_X10_stock p0 m_10 (fun (r_12 : Int32) => Q9 r_12 m_10)) ∧
  (¬ r_9 = 0 → Q9 0 m_10))))))
def w_X10_stockByTotals_J13 (p0 : Int32) (mm : Mm) (Q9 : Int32 → Mm → Prop) (y_3 : Int32) : Prop :=
  w_X10_refused y_3 mm (fun (r_4 : Int32) (m_5 : Mm) => ((r_4 = 0 → ∀ x_7 : Int32, x_7 = (32 + (6 * p0)) → (vp_in (x_7 + 0) 246 ∧ (vp_in (x_7 + 1) 246 ∧ (vp_in (x_7 + 2) 246 ∧ (vp_in (x_7 + 3) 246 ∧ (vp_in (x_7 + 4) 246 ∧ (Q9 (((((m_5.1 32 1 (x_7 + 0).toNatClampNeg) - (m_5.1 32 1 (x_7 + 1).toNatClampNeg)) - (m_5.1 32 1 (x_7 + 2).toNatClampNeg)) - (m_5.1 32 1 (x_7 + 3).toNatClampNeg)) - (m_5.1 32 1 (x_7 + 4).toNatClampNeg)) m_5))))))) ∧
  (¬ r_4 = 0 → Q9 0 m_5)))
def w_X10_stockByTotals (p0 : Int32) (mm : Mm) (Q9 : Int32 → Mm → Prop) : Prop :=
  w_X10_isKind p0 mm (fun (r_1 : Int32) => ((r_1 = 0 → w_X10_stockByTotals_J13 p0 mm Q9 1) ∧
  (¬ r_1 = 0 → w_X10_stockByTotals_J13 p0 mm Q9 0)))
def w_X10_whyNoEntry_J17 (p0 : Int32) (p1 : Int32) (p2 : Int32) (p3 : Int32) (mm : Mm) (Q9 : Int32 → Mm → Prop) (y_3 : Int32) : Prop :=
  w_X10_refused y_3 mm (fun (r_4 : Int32) (m_5 : Mm) => ((r_4 = 0 → w_X10_noEntry p0 p1 p2 p3 m_5 (fun (r_7 : Int32) => Q9 r_7 m_5)) ∧
  (¬ r_4 = 0 → Q9 0 m_5)))
def w_X10_whyNoEntry (p0 : Int32) (p1 : Int32) (p2 : Int32) (p3 : Int32) (mm : Mm) (Q9 : Int32 → Mm → Prop) : Prop :=
  w_X10_isNew p0 p1 p2 p3 mm (fun (r_1 : Int32) => ((r_1 = 0 → w_X10_whyNoEntry_J17 p0 p1 p2 p3 mm Q9 1) ∧
  (¬ r_1 = 0 → w_X10_whyNoEntry_J17 p0 p1 p2 p3 mm Q9 0)))
def w_X10_whyNoWithdrawal (p0 : Int32) (p1 : Int32) (mm : Mm) (Q9 : Int32 → Mm → Prop) : Prop :=
  w_X10_find p0 mm (fun (r_1 : Int32) => ((¬ r_1 = (-1) → w_X10_isWeight p1 mm (fun (r_4 : Int32) => ((r_4 = 0 → w_X10_refused 2 mm (fun (r_7 : Int32) (m_8 : Mm) => ((r_7 = 0 → w_X10_noWithdrawal r_1 p1 m_8 (fun (r_10 : Int32) => Q9 r_10 m_8)) ∧
  (¬ r_7 = 0 → Q9 0 m_8)))) ∧
  (¬ r_4 = 0 → w_X10_refused 0 mm (fun (r_12 : Int32) (m_13 : Mm) => ((r_12 = 0 → w_X10_noWithdrawal r_1 p1 m_13 (fun (r_15 : Int32) => Q9 r_15 m_13)) ∧
  (¬ r_12 = 0 → Q9 0 m_13))))))) ∧
  (r_1 = (-1) → w_X10_refused 1 mm (fun (r_17 : Int32) (m_18 : Mm) => ((r_17 = 0 → w_X10_noWithdrawal r_1 p1 m_18 (fun (r_20 : Int32) => Q9 r_20 m_18)) ∧
  (¬ r_17 = 0 → Q9 0 m_18))))))
def w_X10_whyNoExport (p0 : Int32) (p1 : Int32) (mm : Mm) (Q9 : Int32 → Mm → Prop) : Prop :=
  w_X10_find p0 mm (fun (r_1 : Int32) => ((¬ r_1 = (-1) → w_X10_isWeight p1 mm (fun (r_4 : Int32) => ((r_4 = 0 → w_X10_refused 2 mm (fun (r_7 : Int32) (m_8 : Mm) => ((r_7 = 0 → w_X10_noExport r_1 p1 m_8 (fun (r_10 : Int32) => Q9 r_10 m_8)) ∧
  (¬ r_7 = 0 → Q9 0 m_8)))) ∧
  (¬ r_4 = 0 → w_X10_refused 0 mm (fun (r_12 : Int32) (m_13 : Mm) => ((r_12 = 0 → w_X10_noExport r_1 p1 m_13 (fun (r_15 : Int32) => Q9 r_15 m_13)) ∧
  (¬ r_12 = 0 → Q9 0 m_13))))))) ∧
  (r_1 = (-1) → w_X10_refused 1 mm (fun (r_17 : Int32) (m_18 : Mm) => ((r_17 = 0 → w_X10_noExport r_1 p1 m_18 (fun (r_20 : Int32) => Q9 r_20 m_18)) ∧
  (¬ r_17 = 0 → Q9 0 m_18))))))
def w_X10_whyNoMove_J19 (p1 : Int32) (mm : Mm) (Q9 : Int32 → Mm → Prop) (r_1 : Int32) : Prop :=
  w_X10_refused 1 mm (fun (r_3 : Int32) (m_4 : Mm) => ((r_3 = 0 → w_X10_noMove r_1 p1 m_4 (fun (r_6 : Int32) => Q9 r_6 m_4)) ∧
  (¬ r_3 = 0 → Q9 0 m_4)))
def w_X10_whyNoMove (p0 : Int32) (p1 : Int32) (mm : Mm) (Q9 : Int32 → Mm → Prop) : Prop :=
  w_X10_find p0 mm (fun (r_1 : Int32) => ((r_1 = (-1) → w_X10_whyNoMove_J19 p1 mm Q9 r_1) ∧
  (¬ r_1 = (-1) → w_X10_isChamber p1 mm (fun (r_9 : Int32) => ((¬ r_9 = 0 → w_X10_refused 0 mm (fun (r_12 : Int32) (m_13 : Mm) => ((r_12 = 0 → w_X10_noMove r_1 p1 m_13 (fun (r_15 : Int32) => Q9 r_15 m_13)) ∧
  (¬ r_12 = 0 → Q9 0 m_13)))) ∧
  (r_9 = 0 → w_X10_whyNoMove_J19 p1 mm Q9 r_1))))))
def w_X10_whyNoDrawback (p0 : Int32) (p1 : Int32) (mm : Mm) (Q9 : Int32 → Mm → Prop) : Prop :=
  w_X10_isPaper p0 mm (fun (r_1 : Int32) => ((¬ r_1 = 0 → w_X10_isWeight p1 mm (fun (r_4 : Int32) => ((r_4 = 0 → w_X10_refused 2 mm (fun (r_7 : Int32) (m_8 : Mm) => ((r_7 = 0 → w_X10_noDrawback p0 p1 m_8 (fun (r_10 : Int32) => Q9 r_10 m_8)) ∧
  (¬ r_7 = 0 → Q9 0 m_8)))) ∧
  (¬ r_4 = 0 → w_X10_refused 0 mm (fun (r_12 : Int32) (m_13 : Mm) => ((r_12 = 0 → w_X10_noDrawback p0 p1 m_13 (fun (r_15 : Int32) => Q9 r_15 m_13)) ∧
  (¬ r_12 = 0 → Q9 0 m_13))))))) ∧
  (r_1 = 0 → w_X10_refused 1 mm (fun (r_17 : Int32) (m_18 : Mm) => ((r_17 = 0 → w_X10_noDrawback p0 p1 m_18 (fun (r_20 : Int32) => Q9 r_20 m_18)) ∧
  (¬ r_17 = 0 → Q9 0 m_18))))))
def w_X10_chargeIfWeighed (p0 : Int32) (p1 : Int32) (mm : Mm) (Q9 : Int32 → Mm → Prop) : Prop :=
  w_X10_find p0 mm (fun (r_1 : Int32) => ((¬ r_1 = (-1) → w_X10_of r_1 2 mm (fun (r_4 : Int32) => w_X10_in (Int32.toInt64 p1) (0 : Int64) (Int32.toInt64 r_4) mm (fun (r_6 : Int32) => ((r_6 = 0 → w_X10_refused 2 mm (fun (r_9 : Int32) (m_10 : Mm) => ((r_9 = 0 → w_X10_chargeBy r_1 p1 m_10 (fun (r_12 : Int32) => Q9 r_12 m_10)) ∧
  (¬ r_9 = 0 → Q9 0 m_10)))) ∧
  (¬ r_6 = 0 → w_X10_refused 0 mm (fun (r_14 : Int32) (m_15 : Mm) => ((r_14 = 0 → w_X10_chargeBy r_1 p1 m_15 (fun (r_17 : Int32) => Q9 r_17 m_15)) ∧
  (¬ r_14 = 0 → Q9 0 m_15)))))))) ∧
  (r_1 = (-1) → w_X10_refused 1 mm (fun (r_19 : Int32) (m_20 : Mm) => ((r_19 = 0 → w_X10_chargeBy r_1 p1 m_20 (fun (r_22 : Int32) => Q9 r_22 m_20)) ∧
  (¬ r_19 = 0 → Q9 0 m_20))))))
def w_X10_drawbackFor (p0 : Int32) (p1 : Int32) (mm : Mm) (Q9 : Int32 → Mm → Prop) : Prop :=
  w_X10_isPaper p0 mm (fun (r_1 : Int32) => ((¬ r_1 = 0 → vp_in ((69 + (4 * p0)) + 1) 246 ∧ (w_X10_in (Int32.toInt64 p1) (1 : Int64) (Int32.toInt64 (mm.1 32 1 ((69 + (4 * p0)) + 1).toNatClampNeg)) mm (fun (r_5 : Int32) => ((r_5 = 0 → w_X10_refused 2 mm (fun (r_8 : Int32) (m_9 : Mm) => ((r_8 = 0 → w_X10_backOf p0 p1 m_9 (fun (r_11 : Int32) => Q9 r_11 m_9)) ∧
  (¬ r_8 = 0 → Q9 0 m_9)))) ∧
  (¬ r_5 = 0 → w_X10_refused 0 mm (fun (r_13 : Int32) (m_14 : Mm) => ((r_13 = 0 → w_X10_backOf p0 p1 m_14 (fun (r_16 : Int32) => Q9 r_16 m_14)) ∧
  (¬ r_13 = 0 → Q9 0 m_14)))))))) ∧
  (r_1 = 0 → w_X10_refused 1 mm (fun (r_18 : Int32) (m_19 : Mm) => ((r_18 = 0 → w_X10_backOf p0 p1 m_19 (fun (r_21 : Int32) => Q9 r_21 m_19)) ∧
  (¬ r_18 = 0 → Q9 0 m_19))))))
def w_X10_dutyLater_J33 (p1 : Int32) (mm : Mm) (Q9 : Int32 → Mm → Prop) (r_1 : Int32) (y_3 : Int32) : Prop :=
  w_X10_refused y_3 mm (fun (r_4 : Int32) (m_5 : Mm) => ((r_4 = 0 → w_X10_of r_1 1 m_5 (fun (r_7 : Int32) => w_X10_of r_1 3 m_5 (fun (r_9 : Int32) => w_X10_of r_1 2 m_5 (fun (r_11 : Int32) => w_X10_of r_1 5 m_5 (fun (r_13 : Int32) => (((r_13 + p1) ≤ 200 → w_X10_duty r_7 r_9 r_11 0 m_5 (fun (r_16 : Int32) => Q9 r_16 m_5)) ∧
  (¬ (r_13 + p1) ≤ 200 → w_X10_duty r_7 r_9 r_11 1 m_5 (fun (r_18 : Int32) => Q9 r_18 m_5)))))))) ∧
  (¬ r_4 = 0 → Q9 0 m_5)))
def w_X10_dutyLater (p0 : Int32) (p1 : Int32) (mm : Mm) (Q9 : Int32 → Mm → Prop) : Prop :=
  w_X10_find p0 mm (fun (r_1 : Int32) => ((¬ r_1 = (-1) → w_X10_in (Int32.toInt64 p1) (0 : Int64) (365 : Int64) mm (fun (r_21 : Int32) => ((r_21 = 0 → w_X10_dutyLater_J33 p1 mm Q9 r_1 2) ∧
  (¬ r_21 = 0 → w_X10_dutyLater_J33 p1 mm Q9 r_1 0)))) ∧
  (r_1 = (-1) → w_X10_dutyLater_J33 p1 mm Q9 r_1 1)))
def w_X10_daysToOverdue_J17 (mm : Mm) (Q9 : Int32 → Mm → Prop) (r_1 : Int32) (y_3 : Int32) : Prop :=
  w_X10_refused y_3 mm (fun (r_4 : Int32) (m_5 : Mm) => ((¬ r_4 = 0 → Q9 0 m_5) ∧
  (r_4 = 0 → w_X10_isLate r_1 m_5 (fun (r_7 : Int32) => ((r_7 = 0 → w_X10_of r_1 5 m_5 (fun (r_10 : Int32) => Q9 (201 - r_10) m_5)) ∧
  (¬ r_7 = 0 → Q9 0 m_5))))))
def w_X10_daysToOverdue (p0 : Int32) (mm : Mm) (Q9 : Int32 → Mm → Prop) : Prop :=
  w_X10_find p0 mm (fun (r_1 : Int32) => ((¬ r_1 = (-1) → w_X10_daysToOverdue_J17 mm Q9 r_1 0) ∧
  (r_1 = (-1) → w_X10_daysToOverdue_J17 mm Q9 r_1 1)))
def w_X10_nextOverdue_B9 (Q9 : Int32 → Mm → Prop) (m_1 : Mm) (K_4 : Int32 → Int32 → Prop) (y_2 : Int32) (y_3 : Int32) : Prop :=
  (((m_1.1 32 1 117) ≤ y_3 → ((¬ y_2 = (-1) → w_X10_of y_2 0 m_1 (fun (r_8 : Int32) => Q9 r_8 m_1)) ∧
  (y_2 = (-1) → Q9 (-1) m_1))) ∧
  (¬ (m_1.1 32 1 117) ≤ y_3 → w_X10_isLate y_3 m_1 (fun (r_10 : Int32) => ((¬ r_10 = 0 → ∀ x_13 : Int32, x_13 = y_3 + 1 → (K_4 y_2 x_13)) ∧
  (r_10 = 0 → ((y_2 = (-1) → ∀ x_15 : Int32, x_15 = y_3 + 1 → (K_4 y_3 x_15)) ∧
  (¬ y_2 = (-1) → w_X10_of y_3 5 m_1 (fun (r_16 : Int32) => w_X10_of y_2 5 m_1 (fun (r_18 : Int32) => ((r_16 ≤ r_18 → ∀ x_21 : Int32, x_21 = y_3 + 1 → (K_4 y_2 x_21)) ∧
  (¬ r_16 ≤ r_18 → ∀ x_22 : Int32, x_22 = y_3 + 1 → (K_4 y_3 x_22))))))))))))
def w_X10_nextOverdue  (mm : Mm) (Q9 : Int32 → Mm → Prop) : Prop :=
  ∀ m_1 : Mm, m_1 = sI mm 30 1 0 0 → (∃ n, itr (α := Int32 × Int32) (fun K a => w_X10_nextOverdue_B9 Q9 m_1 (fun z0 z1 => K (z0, z1)) a.1 a.2) n ((-1), 0))
def w_X10_cheapest_J76 (y_1 : Int32) (y_2 : Int32) (K_3 : Int32 → Int32 → Prop) (y_13 : Int32) : Prop :=
  ((y_13 = 0 → ∀ x_15 : Int32, x_15 = y_2 + 1 → (K_3 y_1 x_15)) ∧
  (¬ y_13 = 0 → ∀ x_16 : Int32, x_16 = y_2 + 1 → (K_3 y_2 x_16)))
def w_X10_cheapest_J71 (y_1 : Int32) (y_2 : Int32) (K_3 : Int32 → Int32 → Prop) : Prop :=
  w_X10_cheapest_J76 y_1 y_2 K_3 1
def w_X10_cheapest_B4 (p0 : Int32) (mm : Mm) (Q9 : Int32 → Prop) (K_3 : Int32 → Int32 → Prop) (y_1 : Int32) (y_2 : Int32) : Prop :=
  (((mm.1 32 1 117) ≤ y_2 → Q9 y_1) ∧
  (¬ (mm.1 32 1 117) ≤ y_2 → w_X10_of y_2 1 mm (fun (r_6 : Int32) => ((¬ r_6 = p0 → ∀ x_9 : Int32, x_9 = y_2 + 1 → (K_3 y_1 x_9)) ∧
  (r_6 = p0 → vp_in y_2 16 ∧ (((¬ (mm.1 36 1 y_2.toNatClampNeg) = 0 → ∀ x_12 : Int32, x_12 = y_2 + 1 → (K_3 y_1 x_12)) ∧
  ((mm.1 36 1 y_2.toNatClampNeg) = 0 → ((y_1 = (-1) → w_X10_cheapest_J71 y_1 y_2 K_3) ∧
  (¬ y_1 = (-1) → w_X10_dutyAll y_2 mm (fun (r_18 : Int32) => w_X10_of y_1 2 mm (fun (r_20 : Int32) => w_X10_dutyAll y_1 mm (fun (r_22 : Int32) => w_X10_of y_2 2 mm (fun (r_24 : Int32) => ((0 ≤ (lg_cmp ((Int32.toInt64 r_18) * (Int32.toInt64 r_20)) ((Int32.toInt64 r_22) * (Int32.toInt64 r_24))) → w_X10_cheapest_J76 y_1 y_2 K_3 0) ∧
  (¬ 0 ≤ (lg_cmp ((Int32.toInt64 r_18) * (Int32.toInt64 r_20)) ((Int32.toInt64 r_22) * (Int32.toInt64 r_24))) → w_X10_cheapest_J71 y_1 y_2 K_3))))))))))))))))
def w_X10_cheapest (p0 : Int32) (mm : Mm) (Q9 : Int32 → Prop) : Prop :=
  ∃ n, itr (α := Int32 × Int32) (fun K a => w_X10_cheapest_B4 p0 mm Q9 (fun z0 z1 => K (z0, z1)) a.1 a.2) n ((-1), 0)
def w_X10_forgets_B2 (Q9 : Mm → Prop) (K_3 : Int32 → Mm → Prop) (y_1 : Int32) (m_2 : Mm) : Prop :=
  ((16 ≤ y_1 → Q9 m_2) ∧
  (¬ 16 ≤ y_1 → vp_in y_1 16 ∧ ∀ m_7 : Mm, m_7 = sI m_2 36 1 y_1.toNatClampNeg 0 → (∀ x_8 : Int32, x_8 = y_1 + 1 → (K_3 x_8 m_7))))
def w_X10_forgets  (mm : Mm) (Q9 : Mm → Prop) : Prop :=
  ∃ n, itr (α := Int32 × Mm) (fun K a => w_X10_forgets_B2 Q9 (fun z0 z1 => K (z0, z1)) a.1 a.2) n (0, mm)
def w_X10_cheapestEntry_J13 (p0 : Int32) (mm : Mm) (Q9 : Int32 → Mm → Prop) (y_3 : Int32) : Prop :=
  w_X10_refused y_3 mm (fun (r_4 : Int32) (m_5 : Mm) => ((r_4 = 0 → w_X10_forgets m_5 (fun (m_8 : Mm) => w_X10_cheapest p0 m_8 (fun (r_9 : Int32) => ((¬ r_9 = (-1) → w_X10_of r_9 0 m_8 (fun (r_12 : Int32) => Q9 r_12 m_8)) ∧
  (r_9 = (-1) → Q9 (-1) m_8))))) ∧
  (¬ r_4 = 0 → Q9 0 m_5)))
def w_X10_cheapestEntry (p0 : Int32) (mm : Mm) (Q9 : Int32 → Mm → Prop) : Prop :=
  w_X10_isKind p0 mm (fun (r_1 : Int32) => ((r_1 = 0 → w_X10_cheapestEntry_J13 p0 mm Q9 1) ∧
  (¬ r_1 = 0 → w_X10_cheapestEntry_J13 p0 mm Q9 0)))
def w_X10_dutyFromCheapest_J86 (y_12 : Int32) (y_13 : Int32) (m_14 : Mm) (r_18 : Int32) (K_15 : Int32 → Int32 → Mm → Prop) (y_22 : Int32) : Prop :=
  w_X10_dutyPart r_18 y_22 m_14 (fun (r_23 : Int32) => ∀ x_25 : Int32, x_25 = (y_13 + r_23) → (∀ x_26 : Int32, x_26 = (y_12 - y_22) → (vp_in r_18 16 ∧ ∀ m_28 : Mm, m_28 = sI m_14 36 1 r_18.toNatClampNeg 1 → (K_15 x_26 x_25 m_28))))
def w_X10_dutyFromCheapest_B53 (p0 : Int32) (Q9 : Int32 → Mm → Prop) (K_15 : Int32 → Int32 → Mm → Prop) (y_12 : Int32) (y_13 : Int32) (m_14 : Mm) : Prop :=
  ((y_12 ≤ 0 → Q9 y_13 m_14) ∧
  (¬ y_12 ≤ 0 → w_X10_cheapest p0 m_14 (fun (r_18 : Int32) => w_X10_of r_18 2 m_14 (fun (r_20 : Int32) => ((y_12 ≤ r_20 → w_X10_dutyFromCheapest_J86 y_12 y_13 m_14 r_18 K_15 y_12) ∧
  (¬ y_12 ≤ r_20 → w_X10_of r_18 2 m_14 (fun (r_30 : Int32) => w_X10_dutyFromCheapest_J86 y_12 y_13 m_14 r_18 K_15 r_30)))))))
def w_X10_dutyFromCheapest_J25 (p0 : Int32) (p1 : Int32) (mm : Mm) (Q9 : Int32 → Mm → Prop) (y_3 : Int32) : Prop :=
  w_X10_refused y_3 mm (fun (r_4 : Int32) (m_5 : Mm) => ((r_4 = 0 → w_X10_stock p0 m_5 (fun (r_7 : Int32) => ((p1 ≤ r_7 → w_X10_forgets m_5 (fun (m_11 : Mm) => ∃ n, itr (α := Int32 × Int32 × Mm) (fun K a => w_X10_dutyFromCheapest_B53 p0 Q9 (fun z0 z1 z2 => K (z0, z1, z2)) a.1 a.2.1 a.2.2) n (p1, 0, m_11))) ∧
  (¬ p1 ≤ r_7 → Q9 (-1) m_5)))) ∧
  (¬ r_4 = 0 → Q9 0 m_5)))
def w_X10_dutyFromCheapest_J24 (p0 : Int32) (p1 : Int32) (mm : Mm) (Q9 : Int32 → Mm → Prop) : Prop :=
  w_X10_dutyFromCheapest_J25 p0 p1 mm Q9 1
def w_X10_dutyFromCheapest (p0 : Int32) (p1 : Int32) (mm : Mm) (Q9 : Int32 → Mm → Prop) : Prop :=
  w_X10_isKind p0 mm (fun (r_1 : Int32) => ((r_1 = 0 → w_X10_dutyFromCheapest_J24 p0 p1 mm Q9) ∧
  (¬ r_1 = 0 → w_X10_in (Int32.toInt64 p1) (1 : Int64) (9999 : Int64) mm (fun (r_34 : Int32) => ((r_34 = 0 → w_X10_dutyFromCheapest_J24 p0 p1 mm Q9) ∧
  (¬ r_34 = 0 → w_X10_dutyFromCheapest_J25 p0 p1 mm Q9 0))))))
def w_X10_dearestEntry_B9 (Q9 : Int32 → Mm → Prop) (m_1 : Mm) (K_4 : Int32 → Int32 → Prop) (y_2 : Int32) (y_3 : Int32) : Prop :=
  (((m_1.1 32 1 117) ≤ y_3 → ((¬ y_2 = (-1) → w_X10_of y_2 0 m_1 (fun (r_8 : Int32) => Q9 r_8 m_1)) ∧
  (y_2 = (-1) → Q9 (-1) m_1))) ∧
  (¬ (m_1.1 32 1 117) ≤ y_3 → ((y_2 = (-1) → ∀ x_11 : Int32, x_11 = y_3 + 1 → (K_4 y_3 x_11)) ∧
  (¬ y_2 = (-1) → w_X10_dutyAll y_3 m_1 (fun (r_12 : Int32) => w_X10_dutyAll y_2 m_1 (fun (r_14 : Int32) => ((r_12 ≤ r_14 → ∀ x_17 : Int32, x_17 = y_3 + 1 → (K_4 y_2 x_17)) ∧
  (¬ r_12 ≤ r_14 → ∀ x_18 : Int32, x_18 = y_3 + 1 → (K_4 y_3 x_18)))))))))
def w_X10_dearestEntry  (mm : Mm) (Q9 : Int32 → Mm → Prop) : Prop :=
  ∀ m_1 : Mm, m_1 = sI mm 30 1 0 0 → (∃ n, itr (α := Int32 × Int32) (fun K a => w_X10_dearestEntry_B9 Q9 m_1 (fun z0 z1 => K (z0, z1)) a.1 a.2) n ((-1), 0))
def w_X10_append_J33 (p0 : Int32) (mm : Mm) (Q9 : Int32 → Mm → Prop) (y_3 : Int32) : Prop :=
  w_X10_refused y_3 mm (fun (r_4 : Int32) (m_5 : Mm) => ((r_4 = 0 → vp_in (m_5.1 30 1 2) 60 ∧ ∀ m_8 : Mm, m_8 = sI m_5 31 1 (m_5.1 30 1 2).toNatClampNeg p0 → (∀ m_9 : Mm, m_9 = sI m_8 30 1 2 ((m_8.1 30 1 2) + 1) → (Q9 (m_9.1 30 1 2) m_9))) ∧
  (¬ r_4 = 0 → Q9 0 m_5)))
def w_X10_append (p0 : Int32) (mm : Mm) (Q9 : Int32 → Mm → Prop) : Prop :=
  w_X10_in (Int32.toInt64 p0) (33 : Int64) (126 : Int64) mm (fun (r_1 : Int32) => ((¬ r_1 = 0 → ((¬ (mm.1 30 1 2) = 60 → w_X10_append_J33 p0 mm Q9 0) ∧
  ((mm.1 30 1 2) = 60 → w_X10_append_J33 p0 mm Q9 2))) ∧
  (r_1 = 0 → w_X10_append_J33 p0 mm Q9 1)))
def w_X10_clearText  (mm : Mm) (Q9 : Int32 → Mm → Prop) : Prop :=
  ∀ m_1 : Mm, m_1 = sI mm 30 1 0 0 → (∀ x_2 : Int32, x_2 = (m_1.1 30 1 2) → (∀ m_3 : Mm, m_3 = sI m_1 30 1 2 0 → (Q9 x_2 m_3)))
def w_X10_number_J79 (p1 : Int32) (Q9 : Int32 → Mm → Prop) (x_1 : Int32) (m_3 : Mm) (K_4 : Mm → Prop) : Prop :=
  ((p1 < (((10 * (m_3.1 30 1 10)) + (m_3.1 31 1 (m_3.1 30 1 9).toNatClampNeg)) - 48) → (((m_3.1 30 1 9) ≤ x_1 → Q9 0 m_3) ∧
  (¬ (m_3.1 30 1 9) ≤ x_1 → Q9 1 m_3))) ∧
  (¬ p1 < (((10 * (m_3.1 30 1 10)) + (m_3.1 31 1 (m_3.1 30 1 9).toNatClampNeg)) - 48) → ∀ m_15 : Mm, m_15 = sI m_3 30 1 10 (((10 * (m_3.1 30 1 10)) + (m_3.1 31 1 (m_3.1 30 1 9).toNatClampNeg)) - 48) → (∀ m_16 : Mm, m_16 = sI m_15 30 1 9 ((m_15.1 30 1 9) + 1) → (K_4 m_16))))
def w_X10_number_B10 (p0 : Int32) (p1 : Int32) (Q9 : Int32 → Mm → Prop) (x_1 : Int32) (K_4 : Mm → Prop) (m_3 : Mm) : Prop :=
  (((m_3.1 30 1 2) ≤ (m_3.1 30 1 9) → (((m_3.1 30 1 9) ≤ x_1 → Q9 0 m_3) ∧
  (¬ (m_3.1 30 1 9) ≤ x_1 → Q9 1 m_3))) ∧
  (¬ (m_3.1 30 1 2) ≤ (m_3.1 30 1 9) → vp_in (m_3.1 30 1 9) 60 ∧ (w_X10_in (Int32.toInt64 (m_3.1 31 1 (m_3.1 30 1 9).toNatClampNeg)) (48 : Int64) (57 : Int64) m_3 (fun (r_9 : Int32) => ((r_9 = 0 → (((m_3.1 30 1 9) ≤ x_1 → Q9 0 m_3) ∧
  (¬ (m_3.1 30 1 9) ≤ x_1 → Q9 1 m_3))) ∧
  (¬ r_9 = 0 → ((¬ (m_3.1 30 1 9) = x_1 → (((m_3.1 30 1 10) ≤ 0 → (((m_3.1 30 1 9) ≤ x_1 → Q9 0 m_3) ∧
  (¬ (m_3.1 30 1 9) ≤ x_1 → Q9 1 m_3))) ∧
  (¬ (m_3.1 30 1 10) ≤ 0 → w_X10_number_J79 p1 Q9 x_1 m_3 K_4))) ∧
  ((m_3.1 30 1 9) = x_1 → ((48 < (m_3.1 31 1 (m_3.1 30 1 9).toNatClampNeg) → w_X10_number_J79 p1 Q9 x_1 m_3 K_4) ∧
  (¬ 48 < (m_3.1 31 1 (m_3.1 30 1 9).toNatClampNeg) → ((¬ p0 = 0 → (((m_3.1 30 1 9) ≤ x_1 → Q9 0 m_3) ∧
  (¬ (m_3.1 30 1 9) ≤ x_1 → Q9 1 m_3))) ∧
  (p0 = 0 → w_X10_number_J79 p1 Q9 x_1 m_3 K_4))))))))))))
def w_X10_number (p0 : Int32) (p1 : Int32) (mm : Mm) (Q9 : Int32 → Mm → Prop) : Prop :=
  ∀ x_1 : Int32, x_1 = (mm.1 30 1 9) → (∀ m_2 : Mm, m_2 = sI mm 30 1 10 0 → (∃ n, itr (α := Mm) (fun K a => w_X10_number_B10 p0 p1 Q9 x_1 (fun z0 => K z0) a) n m_2))
def w_X10_goesOn_J29 (mm : Mm) (Q9 : Int32 → Mm → Prop) (y_1 : Int32) : Prop :=
  ((y_1 = 0 → ∀ m_3 : Mm, m_3 = sI mm 30 1 9 ((mm.1 30 1 9) + 0) → (isB y_1 ∧ Q9 y_1 m_3)) ∧
  (¬ y_1 = 0 → ∀ m_5 : Mm, m_5 = sI mm 30 1 9 ((mm.1 30 1 9) + 1) → (isB y_1 ∧ Q9 y_1 m_5)))
def w_X10_goesOn_J28 (mm : Mm) (Q9 : Int32 → Mm → Prop) : Prop :=
  w_X10_goesOn_J29 mm Q9 0
def w_X10_goesOn (p0 : Int32) (mm : Mm) (Q9 : Int32 → Mm → Prop) : Prop :=
  (((mm.1 30 1 2) ≤ (mm.1 30 1 9) → w_X10_goesOn_J28 mm Q9) ∧
  (¬ (mm.1 30 1 2) ≤ (mm.1 30 1 9) → vp_in (mm.1 30 1 9) 60 ∧ (((¬ (mm.1 31 1 (mm.1 30 1 9).toNatClampNeg) = p0 → w_X10_goesOn_J28 mm Q9) ∧
  ((mm.1 31 1 (mm.1 30 1 9).toNatClampNeg) = p0 → w_X10_goesOn_J29 mm Q9 1)))))
def w_X10_pair (p0 : Int32) (p1 : Int32) (p2 : Int32) (p3 : Int32) (mm : Mm) (Q9 : Int32 → Mm → Prop) : Prop :=
  w_X10_number 0 p0 mm (fun (r_1 : Int32) (m_2 : Mm) => ((¬ r_1 = 0 → ∀ m_4 : Mm, m_4 = sI m_2 30 1 11 (m_2.1 30 1 10) → (w_X10_goesOn p1 m_4 (fun (r_5 : Int32) (m_6 : Mm) => ((r_5 = 0 → Q9 0 m_6) ∧
  (¬ r_5 = 0 → w_X10_number p2 p3 m_6 (fun (r_8 : Int32) (m_9 : Mm) => ((¬ r_8 = 0 → ∀ m_11 : Mm, m_11 = sI m_9 30 1 12 (m_9.1 30 1 10) → (Q9 1 m_11)) ∧
  (r_8 = 0 → Q9 0 m_9)))))))) ∧
  (r_1 = 0 → Q9 0 m_2)))
def w_X10_entering  (mm : Mm) (Q9 : Int32 → Mm → Prop) : Prop :=
  w_X10_pair 5 42 1 999 mm (fun (r_1 : Int32) (m_2 : Mm) => ((r_1 = 0 → Q9 0 m_2) ∧
  (¬ r_1 = 0 → w_X10_goesOn 42 m_2 (fun (r_4 : Int32) (m_5 : Mm) => ((r_4 = 0 → Q9 0 m_5) ∧
  (¬ r_4 = 0 → w_X10_number 1 9999 m_5 (fun (r_7 : Int32) (m_8 : Mm) => ((¬ r_7 = 0 → ∀ m_10 : Mm, m_10 = sI m_8 30 1 13 (m_8.1 30 1 10) → (w_X10_goesOn 62 m_10 (fun (r_11 : Int32) (m_12 : Mm) => ((r_11 = 0 → Q9 0 m_12) ∧
  (¬ r_11 = 0 → w_X10_number 0 4 m_12 (fun (r_14 : Int32) (m_15 : Mm) => ((r_14 = 0 → Q9 0 m_15) ∧
  (¬ r_14 = 0 → Q9 1 m_15)))))))) ∧
  (r_7 = 0 → Q9 0 m_8)))))))))
def w_X10_line (p0 : Int32) (mm : Mm) (Q9 : Int32 → Mm → Prop) : Prop :=
  ((p0 = 100 → w_X10_number 1 9999 mm (fun (r_2 : Int32) (m_3 : Mm) => isB r_2 ∧ Q9 r_2 m_3)) ∧
  (p0 = 101 → w_X10_entering mm (fun (r_5 : Int32) (m_6 : Mm) => isB r_5 ∧ Q9 r_5 m_6)) ∧
  (p0 = 103 → w_X10_pair 59 42 0 999 mm (fun (r_8 : Int32) (m_9 : Mm) => isB r_8 ∧ Q9 r_8 m_9)) ∧
  (p0 = 109 → w_X10_pair 59 62 0 4 mm (fun (r_11 : Int32) (m_12 : Mm) => isB r_11 ∧ Q9 r_11 m_12)) ∧
  (p0 = 116 → w_X10_number 1 100 mm (fun (r_14 : Int32) (m_15 : Mm) => isB r_14 ∧ Q9 r_14 m_15)) ∧
  (p0 = 119 → w_X10_pair 59 42 1 999 mm (fun (r_17 : Int32) (m_18 : Mm) => isB r_17 ∧ Q9 r_17 m_18)) ∧
  (p0 = 120 → w_X10_pair 59 42 1 999 mm (fun (r_20 : Int32) (m_21 : Mm) => isB r_20 ∧ Q9 r_20 m_21)) ∧
  (¬ p0 = 100 → ¬ p0 = 101 → ¬ p0 = 103 → ¬ p0 = 109 → ¬ p0 = 116 → ¬ p0 = 119 → ¬ p0 = 120 → w_X10_number 0 4 mm (fun (r_23 : Int32) (m_24 : Mm) => isB r_23 ∧ Q9 r_23 m_24)))
def w_X10_isSign (p0 : Int32) (mm : Mm) (Q9 : Int32 → Prop) : Prop :=
  ((p0 = 101 → Q9 1) ∧
  (¬ p0 = 101 → ((p0 = 119 → Q9 1) ∧
  (¬ p0 = 119 → ((p0 = 120 → Q9 1) ∧
  (¬ p0 = 120 → ((p0 = 103 → Q9 1) ∧
  (¬ p0 = 103 → ((p0 = 109 → Q9 1) ∧
  (¬ p0 = 109 → ((p0 = 108 → Q9 1) ∧
  (¬ p0 = 108 → ((p0 = 111 → Q9 1) ∧
  (¬ p0 = 111 → ((p0 = 98 → Q9 1) ∧
  (¬ p0 = 98 → ((p0 = 100 → Q9 1) ∧
  (¬ p0 = 100 → ((¬ p0 = 116 → Q9 0) ∧
  (p0 = 116 → Q9 1))))))))))))))))))))
def w_X10_doesEntry (p0 : Int32) (mm : Mm) (Q9 : Int32 → Mm → Prop) : Prop :=
  w_X10_find (mm.1 30 1 11) mm (fun (r_1 : Int32) => ((¬ r_1 = (-1) → ((p0 = 103 → w_X10_of r_1 2 mm (fun (r_5 : Int32) => ((r_5 < (mm.1 30 1 12) → Q9 0 mm) ∧
  (¬ r_5 < (mm.1 30 1 12) → w_X10_of r_1 4 mm (fun (r_8 : Int32) => w_X10_isShut r_8 mm (fun (r_10 : Int32) => ((¬ r_10 = 0 → Q9 0 mm) ∧
  (r_10 = 0 → w_X10_weighOn r_1 (mm.1 30 1 12) mm (fun (r_13 : Int32) (m_14 : Mm) => ((r_13 < 0 → Q9 0 m_14) ∧
  (¬ r_13 < 0 → Q9 1 m_14))))))))))) ∧
  (p0 = 119 → w_X10_noWithdrawal r_1 (mm.1 30 1 12) mm (fun (r_16 : Int32) => ((¬ r_16 = 0 → Q9 0 mm) ∧
  (r_16 = 0 → w_X10_withdrawOn r_1 (mm.1 30 1 12) mm (fun (r_19 : Int32) (m_20 : Mm) => ((r_19 < 0 → Q9 0 m_20) ∧
  (¬ r_19 < 0 → Q9 1 m_20))))))) ∧
  (p0 = 120 → w_X10_noExport r_1 (mm.1 30 1 12) mm (fun (r_22 : Int32) => ((¬ r_22 = 0 → Q9 0 mm) ∧
  (r_22 = 0 → w_X10_sendOn r_1 (mm.1 30 1 12) mm (fun (r_25 : Int32) (m_26 : Mm) => ((r_25 < 0 → Q9 0 m_26) ∧
  (¬ r_25 < 0 → Q9 1 m_26))))))) ∧
  (¬ p0 = 103 → ¬ p0 = 119 → ¬ p0 = 120 → w_X10_noMove r_1 (mm.1 30 1 12) mm (fun (r_28 : Int32) => ((¬ r_28 = 0 → Q9 0 mm) ∧
  (r_28 = 0 → w_X10_moveOn r_1 (mm.1 30 1 12) mm (fun (r_31 : Int32) (m_32 : Mm) => ((r_31 < 0 → Q9 0 m_32) ∧
  (¬ r_31 < 0 → Q9 1 m_32))))))))) ∧
  (r_1 = (-1) → Q9 0 mm)))
def w_X10_does (p0 : Int32) (mm : Mm) (Q9 : Int32 → Mm → Prop) : Prop :=
  ((p0 = 98 → w_X10_canBreak (mm.1 30 1 10) mm (fun (r_2 : Int32) => ((r_2 = 0 → Q9 0 mm) ∧
  (¬ r_2 = 0 → w_X10_breakOn (mm.1 30 1 10) mm (fun (r_5 : Int32) (m_6 : Mm) => ((r_5 ≤ 0 → Q9 0 m_6) ∧
  (¬ r_5 ≤ 0 → Q9 1 m_6))))))) ∧
  (p0 = 100 → w_X10_canPay (mm.1 30 1 10) mm (fun (r_8 : Int32) => ((r_8 = 0 → Q9 0 mm) ∧
  (¬ r_8 = 0 → w_X10_payOn (mm.1 30 1 10) mm (fun (r_11 : Int32) (m_12 : Mm) => ((r_11 < 0 → Q9 0 m_12) ∧
  (¬ r_11 < 0 → Q9 1 m_12))))))) ∧
  (p0 = 101 → w_X10_noEntry (mm.1 30 1 11) (mm.1 30 1 12) (mm.1 30 1 13) (mm.1 30 1 10) mm (fun (r_14 : Int32) => ((¬ r_14 = 0 → Q9 0 mm) ∧
  (r_14 = 0 → w_X10_enterOn (mm.1 30 1 11) (mm.1 30 1 12) (mm.1 30 1 13) (mm.1 30 1 10) mm (fun (r_17 : Int32) (m_18 : Mm) => ((r_17 < 0 → Q9 0 m_18) ∧
  (¬ r_17 < 0 → Q9 1 m_18))))))) ∧
  (p0 = 108 → w_X10_isShut (mm.1 30 1 10) mm (fun (r_20 : Int32) => ((¬ r_20 = 0 → Q9 0 mm) ∧
  (r_20 = 0 → w_X10_lockOn (mm.1 30 1 10) mm (fun (r_23 : Int32) (m_24 : Mm) => ((r_23 ≤ 0 → Q9 0 m_24) ∧
  (¬ r_23 ≤ 0 → Q9 1 m_24))))))) ∧
  (p0 = 111 → w_X10_isShut (mm.1 30 1 10) mm (fun (r_26 : Int32) => ((r_26 = 0 → Q9 0 mm) ∧
  (¬ r_26 = 0 → w_X10_openOn (mm.1 30 1 10) mm (fun (r_29 : Int32) (m_30 : Mm) => ((r_29 < 0 → Q9 0 m_30) ∧
  (¬ r_29 < 0 → Q9 1 m_30))))))) ∧
  (p0 = 116 → ((9999 < ((mm.1 32 1 0) + (mm.1 30 1 10)) → Q9 0 mm) ∧
  (¬ 9999 < ((mm.1 32 1 0) + (mm.1 30 1 10)) → w_X10_passOn (mm.1 30 1 10) mm (fun (r_33 : Int32) (m_34 : Mm) => ((r_33 < 0 → Q9 0 m_34) ∧
  (¬ r_33 < 0 → Q9 1 m_34)))))) ∧
  (¬ p0 = 98 → ¬ p0 = 100 → ¬ p0 = 101 → ¬ p0 = 108 → ¬ p0 = 111 → ¬ p0 = 116 → w_X10_doesEntry p0 mm (fun (r_36 : Int32) (m_37 : Mm) => isB r_36 ∧ Q9 r_36 m_37)))
def w_X10_reads_J142 (Q9 : Int32 → Mm → Prop) (y_21 : Int32) (m_24 : Mm) (K_7 : Int32 → Int32 → Mm → Prop) (y_25 : Int32) : Prop :=
  ((y_25 = 0 → K_7 y_21 y_25 m_24) ∧
  (¬ y_25 = 0 → w_X10_goesOn 59 m_24 (fun (r_27 : Int32) (m_28 : Mm) => ((¬ r_27 = 0 → K_7 y_21 y_25 m_28) ∧
  (r_27 = 0 → Q9 (m_28.1 30 1 9) m_28)))))
def w_X10_reads_J122 (Q9 : Int32 → Mm → Prop) (y_21 : Int32) (m_22 : Mm) (K_7 : Int32 → Int32 → Mm → Prop) (y_23 : Int32) : Prop :=
  ∀ m_24 : Mm, m_24 = sI m_22 30 1 15 ((m_22.1 30 1 15) + y_23) → ((((m_24.1 30 1 2) ≤ (m_24.1 30 1 9) → w_X10_reads_J142 Q9 y_21 m_24 K_7 0) ∧
  (¬ (m_24.1 30 1 2) ≤ (m_24.1 30 1 9) → w_X10_reads_J142 Q9 y_21 m_24 K_7 1)))
def w_X10_reads_J107 (Q9 : Int32 → Mm → Prop) (K_7 : Int32 → Int32 → Mm → Prop) (y_21 : Int32) (m_22 : Mm) : Prop :=
  ((y_21 = 0 → w_X10_reads_J122 Q9 y_21 m_22 K_7 0) ∧
  (¬ y_21 = 0 → w_X10_reads_J122 Q9 y_21 m_22 K_7 1))
def w_X10_reads_J106 (Q9 : Int32 → Mm → Prop) (K_7 : Int32 → Int32 → Mm → Prop) (m_32 : Mm) : Prop :=
  w_X10_reads_J107 Q9 K_7 0 m_32
def w_X10_reads_B19 (Q9 : Int32 → Mm → Prop) (K_7 : Int32 → Int32 → Mm → Prop) (y_4 : Int32) (y_5 : Int32) (m_6 : Mm) : Prop :=
  ((y_5 = 0 → ∀ m_10 : Mm, m_10 = sI m_6 30 1 14 1 → (Q9 (m_10.1 30 1 2) m_10)) ∧
  (¬ y_5 = 0 → (((m_6.1 30 1 9) = (m_6.1 30 1 2) → Q9 (m_6.1 30 1 9) m_6) ∧
  (¬ (m_6.1 30 1 9) = (m_6.1 30 1 2) → vp_in (m_6.1 30 1 9) 60 ∧ (w_X10_isSign (m_6.1 31 1 (m_6.1 30 1 9).toNatClampNeg) m_6 (fun (r_13 : Int32) => ((¬ r_13 = 0 → ∀ x_16 : Int32, x_16 = (m_6.1 31 1 (m_6.1 30 1 9).toNatClampNeg) → (∀ m_17 : Mm, m_17 = sI m_6 30 1 9 ((m_6.1 30 1 9) + 1) → (w_X10_line x_16 m_17 (fun (r_18 : Int32) (m_19 : Mm) => ((¬ r_18 = 0 → ((y_4 = 0 → w_X10_reads_J106 Q9 K_7 m_19) ∧
  (¬ y_4 = 0 → w_X10_does x_16 m_19 (fun (r_34 : Int32) (m_35 : Mm) => ((r_34 = 0 → w_X10_reads_J106 Q9 K_7 m_35) ∧
  (¬ r_34 = 0 → w_X10_reads_J107 Q9 K_7 1 m_35)))))) ∧
  (r_18 = 0 → Q9 (m_19.1 30 1 9) m_19)))))) ∧
  (r_13 = 0 → Q9 (m_6.1 30 1 9) m_6))))))))
def w_X10_reads (p0 : Int32) (mm : Mm) (Q9 : Int32 → Mm → Prop) : Prop :=
  ∀ m_1 : Mm, m_1 = sI mm 30 1 9 0 → (∀ m_2 : Mm, m_2 = sI m_1 30 1 15 0 → (∀ m_3 : Mm, m_3 = sI m_2 30 1 14 0 → (∃ n, itr (α := Int32 × Int32 × Mm) (fun K a => w_X10_reads_B19 Q9 (fun z0 z1 z2 => K (z0, z1, z2)) a.1 a.2.1 a.2.2) n (p0, 1, m_3))))
def w_X10_firstError  (mm : Mm) (Q9 : Int32 → Mm → Prop) : Prop :=
  ∀ m_1 : Mm, m_1 = sI mm 30 1 0 0 → (w_X10_reads 0 m_1 (fun (r_2 : Int32) (m_3 : Mm) => Q9 r_2 m_3))
def w_X10_run_J19 (Q9 : Int32 → Mm → Prop) (m_2 : Mm) (y_3 : Int32) : Prop :=
  w_X10_refused y_3 m_2 (fun (r_4 : Int32) (m_5 : Mm) => ((r_4 = 0 → w_X10_saves m_5 (fun (m_8 : Mm) => w_X10_reads 1 m_8 (fun (r_9 : Int32) (m_10 : Mm) => ∀ m_11 : Mm, m_11 = sI m_10 30 1 2 0 → (Q9 (m_11.1 30 1 15) m_11)))) ∧
  (¬ r_4 = 0 → Q9 0 m_5)))
def w_X10_run  (mm : Mm) (Q9 : Int32 → Mm → Prop) : Prop :=
  w_X10_reads 0 mm (fun (r_1 : Int32) (m_2 : Mm) => (((m_2.1 30 1 14) = 0 → w_X10_run_J19 Q9 m_2 1) ∧
  (¬ (m_2.1 30 1 14) = 0 → w_X10_run_J19 Q9 m_2 0)))
def w_X10_undo_J13 (mm : Mm) (Q9 : Int32 → Mm → Prop) (y_1 : Int32) : Prop :=
  w_X10_refused y_1 mm (fun (r_2 : Int32) (m_3 : Mm) => ((r_2 = 0 → ∀ m_5 : Mm, m_5 = sI m_3 30 1 5 ((m_3.1 30 1 5) - 1) → (w_X10_copyState_33_32 (246 * (m_5.1 30 1 5)) 0 m_5 (fun (m_7 : Mm) => Q9 (m_7.1 30 1 5) m_7))) ∧
  (¬ r_2 = 0 → Q9 0 m_3)))
def w_X10_undo  (mm : Mm) (Q9 : Int32 → Mm → Prop) : Prop :=
  (((mm.1 30 1 5) ≤ 0 → w_X10_undo_J13 mm Q9 1) ∧
  (¬ (mm.1 30 1 5) ≤ 0 → w_X10_undo_J13 mm Q9 0))
def w_X10_savedStates  (mm : Mm) (Q9 : Int32 → Mm → Prop) : Prop :=
  ∀ m_1 : Mm, m_1 = sI mm 30 1 0 0 → (Q9 (m_1.1 30 1 5) m_1)
def w_X10_keep_J16 (p0 : Int32) (mm : Mm) (Q9 : Int32 → Mm → Prop) (y_3 : Int32) : Prop :=
  w_X10_refused y_3 mm (fun (r_4 : Int32) (m_5 : Mm) => ((r_4 = 0 → w_X10_copyState_32_34 0 (246 * p0) m_5 (fun (m_8 : Mm) => vp_in p0 2 ∧ ∀ m_10 : Mm, m_10 = sI m_8 35 1 p0.toNatClampNeg 1 → (Q9 (m_10.1 32 1 117) m_10))) ∧
  (¬ r_4 = 0 → Q9 0 m_5)))
def w_X10_keep (p0 : Int32) (mm : Mm) (Q9 : Int32 → Mm → Prop) : Prop :=
  w_X10_in (Int32.toInt64 p0) (0 : Int64) (1 : Int64) mm (fun (r_1 : Int32) => ((r_1 = 0 → w_X10_keep_J16 p0 mm Q9 1) ∧
  (¬ r_1 = 0 → w_X10_keep_J16 p0 mm Q9 0)))
def w_X10_goBack_J29 (p0 : Int32) (mm : Mm) (Q9 : Int32 → Mm → Prop) (y_3 : Int32) : Prop :=
  w_X10_refused y_3 mm (fun (r_4 : Int32) (m_5 : Mm) => ((r_4 = 0 → w_X10_saves m_5 (fun (m_8 : Mm) => w_X10_copyState_34_32 (246 * p0) 0 m_8 (fun (m_10 : Mm) => Q9 (m_10.1 32 1 117) m_10))) ∧
  (¬ r_4 = 0 → Q9 0 m_5)))
def w_X10_goBack (p0 : Int32) (mm : Mm) (Q9 : Int32 → Mm → Prop) : Prop :=
  w_X10_in (Int32.toInt64 p0) (0 : Int64) (1 : Int64) mm (fun (r_1 : Int32) => ((¬ r_1 = 0 → vp_in p0 2 ∧ ((((mm.1 35 1 p0.toNatClampNeg) = 0 → w_X10_goBack_J29 p0 mm Q9 2) ∧
  (¬ (mm.1 35 1 p0.toNatClampNeg) = 0 → w_X10_goBack_J29 p0 mm Q9 0)))) ∧
  (r_1 = 0 → w_X10_goBack_J29 p0 mm Q9 1)))
def w_X10_init (nb : Nat) (i : Nat) (mm : Mm) (Q9 : Mm → Prop) : Prop :=
  ∃ k_1 : Nat, (GM 31 k_1 ∧ offM 31 k_1 = (nb + 0) ∧ ∀ f, mm.1 31 k_1 f = 0 ∧ mm.2 31 k_1 f = 0) ∧ 0 < 6 ∧ (GN GM offM (nb + 1) 30 i ∧ ∀ m_7 : Mm, m_7 = sR mm 30 i 1 k_1 → (∃ k_8 : Nat, (GM 32 k_8 ∧ offM 32 k_8 = (nb + 1) ∧ ∀ f, m_7.1 32 k_8 f = 0 ∧ m_7.2 32 k_8 f = 0) ∧ 1 < 6 ∧ (GN GM offM (nb + 2) 30 i ∧ ∀ m_14 : Mm, m_14 = sR m_7 30 i 3 k_8 → (∃ k_15 : Nat, (GM 33 k_15 ∧ offM 33 k_15 = (nb + 2) ∧ ∀ f, m_14.1 33 k_15 f = 0 ∧ m_14.2 33 k_15 f = 0) ∧ 2 < 6 ∧ (GN GM offM (nb + 3) 30 i ∧ ∀ m_21 : Mm, m_21 = sR m_14 30 i 4 k_15 → (∃ k_22 : Nat, (GM 34 k_22 ∧ offM 34 k_22 = (nb + 3) ∧ ∀ f, m_21.1 34 k_22 f = 0 ∧ m_21.2 34 k_22 f = 0) ∧ 3 < 6 ∧ (GN GM offM (nb + 4) 30 i ∧ ∀ m_28 : Mm, m_28 = sR m_21 30 i 6 k_22 → (∃ k_29 : Nat, (GM 35 k_29 ∧ offM 35 k_29 = (nb + 4) ∧ ∀ f, m_28.1 35 k_29 f = 0 ∧ m_28.2 35 k_29 f = 0) ∧ 4 < 6 ∧ (GN GM offM (nb + 5) 30 i ∧ ∀ m_35 : Mm, m_35 = sR m_28 30 i 7 k_29 → (∃ k_36 : Nat, (GM 36 k_36 ∧ offM 36 k_36 = (nb + 5) ∧ ∀ f, m_35.1 36 k_36 f = 0 ∧ m_35.2 36 k_36 f = 0) ∧ 5 < 6 ∧ (GN GM offM (nb + 6) 30 i ∧ ∀ m_42 : Mm, m_42 = sR m_35 30 i 8 k_36 → (GN GM offM (nb + 6) 30 i ∧ (GN GM offM (nb + 6) 32 (m_42.2 30 i 3) ∧ ∀ m_45 : Mm, m_45 = sI m_42 32 (m_42.2 30 i 3) 5 5000 → (GN GM offM (nb + 6) 30 i ∧ (GN GM offM (nb + 6) 32 (m_45.2 30 i 3) ∧ ∀ m_48 : Mm, m_48 = sI m_45 32 (m_45.2 30 i 3) 20 10 → (GN GM offM (nb + 6) 30 i ∧ (GN GM offM (nb + 6) 32 (m_48.2 30 i 3) ∧ ∀ m_51 : Mm, m_51 = sI m_48 32 (m_48.2 30 i 3) 21 20 → (GN GM offM (nb + 6) 30 i ∧ (GN GM offM (nb + 6) 32 (m_51.2 30 i 3) ∧ ∀ m_54 : Mm, m_54 = sI m_51 32 (m_51.2 30 i 3) 22 5 → (GN GM offM (nb + 6) 30 i ∧ (GN GM offM (nb + 6) 32 (m_54.2 30 i 3) ∧ ∀ m_57 : Mm, m_57 = sI m_54 32 (m_54.2 30 i 3) 24 30 → (GN GM offM (nb + 6) 30 i ∧ (GN GM offM (nb + 6) 32 (m_57.2 30 i 3) ∧ ∀ m_60 : Mm, m_60 = sI m_57 32 (m_57.2 30 i 3) 25 15 → (GN GM offM (nb + 6) 30 i ∧ (GN GM offM (nb + 6) 32 (m_60.2 30 i 3) ∧ ∀ m_63 : Mm, m_63 = sI m_60 32 (m_60.2 30 i 3) 27 10 → (GN GM offM (nb + 6) 30 i ∧ (GN GM offM (nb + 6) 32 (m_63.2 30 i 3) ∧ ∀ m_66 : Mm, m_66 = sI m_63 32 (m_63.2 30 i 3) 28 25 → (GN GM offM (nb + 6) 30 i ∧ (GN GM offM (nb + 6) 32 (m_66.2 30 i 3) ∧ ∀ m_69 : Mm, m_69 = sI m_66 32 (m_66.2 30 i 3) 29 40 → (GN GM offM (nb + 6) 30 i ∧ (GN GM offM (nb + 6) 32 (m_69.2 30 i 3) ∧ ∀ m_72 : Mm, m_72 = sI m_69 32 (m_69.2 30 i 3) 31 5 → (Q9 m_72))))))))))))))))))))))))))))))))
