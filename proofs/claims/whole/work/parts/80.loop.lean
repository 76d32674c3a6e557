theorem dL_law_23 : decode cL_law 23 = .ok (.iload 4, 2) := by decide +kernel
theorem dL_law_25 : decode cL_law 25 = .ok (.aload_n 0, 1) := by decide +kernel
theorem dL_law_26 : decode cL_law 26 = .ok (.arraylength, 1) := by decide +kernel
theorem dL_law_27 : decode cL_law 27 = .ok (.iconst 5, 1) := by decide +kernel
theorem dL_law_28 : decode cL_law 28 = .ok (.isub, 1) := by decide +kernel
theorem dL_law_29 : decode cL_law 29 = .ok (.if_icmp .gt 4438, 3) := by decide +kernel
theorem dL_law_32 : decode cL_law 32 = .ok (.aload_n 0, 1) := by decide +kernel
theorem dL_law_33 : decode cL_law 33 = .ok (.iload 4, 2) := by decide +kernel
theorem dL_law_35 : decode cL_law 35 = .ok (.iaload, 1) := by decide +kernel
theorem dL_law_36 : decode cL_law 36 = .ok (.bipush 127, 2) := by decide +kernel
theorem dL_law_38 : decode cL_law 38 = .ok (.iand, 1) := by decide +kernel
theorem dL_law_39 : decode cL_law 39 = .ok (.tableswitch 4422 0 82 #[345, 437, 505, 573, 641, 709, 777, 845, 913, 969, 1025, 1081, 1137, 1193, 1261, 1329, 1385, 1398, 1411, 1424, 1449, 1505, 1561, 1617, 1673, 1729, 1785, 1848, 1911, 1979, 2035, 2091, 2132, 2195, 2251, 2314, 2370, 2426, 2439, 2495, 2551, 2607, 2663, 2719, 2775, 2788, 2801, 2814, 2827, 2840, 2853, 2866, 2879, 2892, 2905, 2961, 3017, 3073, 3129, 3185, 3241, 3297, 3353, 3445, 3513, 3581, 3649, 3717, 3785, 3853, 3921, 3977, 3990, 4046, 4114, 4127, 4183, 4196, 4209, 4253, 4297, 4310, 4366], 345) := by decide +kernel
theorem dL_law_4461 : decode cL_law 4461 = .ok (.iinc 4 5, 3) := by decide +kernel
theorem dL_law_4464 : decode cL_law 4464 = .ok (.goto (-4441), 3) := by decide +kernel
theorem dL_law_4467 : decode cL_law 4467 = .ok (.iconst 1, 1) := by decide +kernel
theorem dL_law_4468 : decode cL_law 4468 = .ok (.ireturn, 1) := by decide +kernel
section LOOP
variable {p : Program} {l : Launch} {e : Env} {s : State} {m : MethodId} {args : Array Value} {below : List Frame} {meth : Method} {c : Code} {cells slots : Nat} {Q : State → Prop}
variable {D : va_G} {cA : Nat → ClassId} {ad : Nat → Nat → Nat} {A AC AM : Nat → Prop} {ob : Nat} {cO : ClassId}
variable {mc mm : Mm} {v : Int64} {b L i a s0 : Nat} {xs : Nat → Int32}
theorem lt_L5 {L k : Nat} (hL : L ≤ 2560) (hk : 5 * k ≤ L) : (nI L - 5 < nI (5 * k)) ↔ L < 5 * k + 5 := by
  by_cases h : 5 ≤ L
  · have e : nI L - 5 = nI (L - 5) := pk_sub (b := 5) h
    rw [e]
    have h2 := nI_ltI (a := L - 5) (b := 5 * k) (by omega) (by omega)
    rw [h2]
    omega
  · have hk0 : k = 0 := by omega
    subst hk0
    have h9 : L = 0 ∨ L = 1 ∨ L = 2 ∨ L = 3 ∨ L = 4 := by omega
    rcases h9 with rfl | rfl | rfl | rfl | rfl <;> exact ⟨fun _ => by omega, fun _ => by decide⟩
theorem q_slen (C : LC p l s m args c D cA ad A AC AM ob cO b L xs) {P : Heap → Prop} {pc : Nat} {lv : List (Nat × Value)} {st : List Value} (hd : decode cL_law pc = .ok (.arraylength, 1)) (k : V p l e room_1 s m args below meth c Q 9 A cells slots P (pc + 1) lv (.int (nI L) :: st)) : V p l e room_1 s m args below meth c Q 9 A cells slots P pc lv (.ref b :: st) := by
  obtain ⟨X, hA, hW, hZ, hX, ⟨hb1, hb2⟩, hst, hL⟩ := C
  intro H locs ls hP hS hl
  exact va_slen X.1 X.2.1 hX hb1 hb2 hS hd (k H locs ls hP hS hl)
theorem q_sld (C : LC p l s m args c D cA ad A AC AM ob cO b L xs) {P : Heap → Prop} {pc : Nat} {lv : List (Nat × Value)} {st : List Value} (hi : i < L) (hd : decode cL_law pc = .ok (.iaload, 1)) (k : V p l e room_1 s m args below meth c Q 9 A cells slots P (pc + 1) lv (.int (xs i) :: st)) : V p l e room_1 s m args below meth c Q 9 A cells slots P pc lv (.int (nI i) :: .ref b :: st) := by
  obtain ⟨X, hA, hW, hZ, hX, ⟨hb1, hb2⟩, hst, hL⟩ := C
  intro H locs ls hP hS hl
  have e : (nI i).toNatClampNeg = i := nI_clamp (by omega)
  have k := k H locs ls hP hS hl
  rw [← e] at k
  exact va_sld X.1 X.2.1 hX hb1 hb2 hS (nI_in (by omega) (by omega)) hd k
set_option maxRecDepth 100000 in
set_option maxHeartbeats 4000000 in
theorem law_disp (C : LC p l s m args c D cA ad A AC AM ob cO b L xs) (h : Hy a s0 mc mm (Rel (a + 400000) (s0 + 64))) (hi : i + 4 < L) (hroom : cells + 2 ≤ room_1.cells ∧ slots + 12 ≤ room_1.slots) (kk : ∀ (mc' mm' : Mm) (v' : Int64), Rel (a + 400000) (s0 + 64) mc' mm' → V p l e room_1 s m args below meth c Q 9 A (cells + 2) (slots + 12) (PL D cA ad ob cO mc' mm' v') 4461 (lvL ad ob b i) []) (x : Int32) : V p l e room_1 s m args below meth c Q 9 A cells slots (PL D cA ad ob cO mc mm v) 39 (lvL ad ob b i) [.int x] := by
  have X := C.1
  by_cases h0 : x = 0
  · exact q_tabI X dL_law_39 h0 (by decide) (by decide) (off := 345) (by decide +kernel) (tgt := 384) (by decide) (case_0 C h hi hroom kk)
  by_cases h1 : x = 1
  · exact q_tabI X dL_law_39 h1 (by decide) (by decide) (off := 437) (by decide +kernel) (tgt := 476) (by decide) (case_1 C h hi hroom kk)
  by_cases h2 : x = 2
  · exact q_tabI X dL_law_39 h2 (by decide) (by decide) (off := 505) (by decide +kernel) (tgt := 544) (by decide) (case_2 C h hi hroom kk)
  by_cases h3 : x = 3
  · exact q_tabI X dL_law_39 h3 (by decide) (by decide) (off := 573) (by decide +kernel) (tgt := 612) (by decide) (case_3 C h hi hroom kk)
  by_cases h4 : x = 4
  · exact q_tabI X dL_law_39 h4 (by decide) (by decide) (off := 641) (by decide +kernel) (tgt := 680) (by decide) (case_4 C h hi hroom kk)
  by_cases h5 : x = 5
  · exact q_tabI X dL_law_39 h5 (by decide) (by decide) (off := 709) (by decide +kernel) (tgt := 748) (by decide) (case_5 C h hi hroom kk)
  by_cases h6 : x = 6
  · exact q_tabI X dL_law_39 h6 (by decide) (by decide) (off := 777) (by decide +kernel) (tgt := 816) (by decide) (case_6 C h hi hroom kk)
  by_cases h7 : x = 7
  · exact q_tabI X dL_law_39 h7 (by decide) (by decide) (off := 845) (by decide +kernel) (tgt := 884) (by decide) (case_7 C h hi hroom kk)
  by_cases h8 : x = 8
  · exact q_tabI X dL_law_39 h8 (by decide) (by decide) (off := 913) (by decide +kernel) (tgt := 952) (by decide) (case_8 C h hi hroom kk)
  by_cases h9 : x = 9
  · exact q_tabI X dL_law_39 h9 (by decide) (by decide) (off := 969) (by decide +kernel) (tgt := 1008) (by decide) (case_9 C h hi hroom kk)
  by_cases h10 : x = 10
  · exact q_tabI X dL_law_39 h10 (by decide) (by decide) (off := 1025) (by decide +kernel) (tgt := 1064) (by decide) (case_10 C h hi hroom kk)
  by_cases h11 : x = 11
  · exact q_tabI X dL_law_39 h11 (by decide) (by decide) (off := 1081) (by decide +kernel) (tgt := 1120) (by decide) (case_11 C h hi hroom kk)
  by_cases h12 : x = 12
  · exact q_tabI X dL_law_39 h12 (by decide) (by decide) (off := 1137) (by decide +kernel) (tgt := 1176) (by decide) (case_12 C h hi hroom kk)
  by_cases h13 : x = 13
  · exact q_tabI X dL_law_39 h13 (by decide) (by decide) (off := 1193) (by decide +kernel) (tgt := 1232) (by decide) (case_13 C h hi hroom kk)
  by_cases h14 : x = 14
  · exact q_tabI X dL_law_39 h14 (by decide) (by decide) (off := 1261) (by decide +kernel) (tgt := 1300) (by decide) (case_14 C h hi hroom kk)
  by_cases h15 : x = 15
  · exact q_tabI X dL_law_39 h15 (by decide) (by decide) (off := 1329) (by decide +kernel) (tgt := 1368) (by decide) (case_15 C h hi hroom kk)
  by_cases h16 : x = 16
  · exact q_tabI X dL_law_39 h16 (by decide) (by decide) (off := 1385) (by decide +kernel) (tgt := 1424) (by decide) (case_16 C h hi hroom kk)
  by_cases h17 : x = 17
  · exact q_tabI X dL_law_39 h17 (by decide) (by decide) (off := 1398) (by decide +kernel) (tgt := 1437) (by decide) (case_17 C h hi hroom kk)
  by_cases h18 : x = 18
  · exact q_tabI X dL_law_39 h18 (by decide) (by decide) (off := 1411) (by decide +kernel) (tgt := 1450) (by decide) (case_18 C h hi hroom kk)
  by_cases h19 : x = 19
  · exact q_tabI X dL_law_39 h19 (by decide) (by decide) (off := 1424) (by decide +kernel) (tgt := 1463) (by decide) (case_19 C h hi hroom kk)
  by_cases h20 : x = 20
  · exact q_tabI X dL_law_39 h20 (by decide) (by decide) (off := 1449) (by decide +kernel) (tgt := 1488) (by decide) (case_20 C h hi hroom kk)
  by_cases h21 : x = 21
  · exact q_tabI X dL_law_39 h21 (by decide) (by decide) (off := 1505) (by decide +kernel) (tgt := 1544) (by decide) (case_21 C h hi hroom kk)
  by_cases h22 : x = 22
  · exact q_tabI X dL_law_39 h22 (by decide) (by decide) (off := 1561) (by decide +kernel) (tgt := 1600) (by decide) (case_22 C h hi hroom kk)
  by_cases h23 : x = 23
  · exact q_tabI X dL_law_39 h23 (by decide) (by decide) (off := 1617) (by decide +kernel) (tgt := 1656) (by decide) (case_23 C h hi hroom kk)
  by_cases h24 : x = 24
  · exact q_tabI X dL_law_39 h24 (by decide) (by decide) (off := 1673) (by decide +kernel) (tgt := 1712) (by decide) (case_24 C h hi hroom kk)
  by_cases h25 : x = 25
  · exact q_tabI X dL_law_39 h25 (by decide) (by decide) (off := 1729) (by decide +kernel) (tgt := 1768) (by decide) (case_25 C h hi hroom kk)
  by_cases h26 : x = 26
  · exact q_tabI X dL_law_39 h26 (by decide) (by decide) (off := 1785) (by decide +kernel) (tgt := 1824) (by decide) (case_26 C h hi hroom kk)
  by_cases h27 : x = 27
  · exact q_tabI X dL_law_39 h27 (by decide) (by decide) (off := 1848) (by decide +kernel) (tgt := 1887) (by decide) (case_27 C h hi hroom kk)
  by_cases h28 : x = 28
  · exact q_tabI X dL_law_39 h28 (by decide) (by decide) (off := 1911) (by decide +kernel) (tgt := 1950) (by decide) (case_28 C h hi hroom kk)
  by_cases h29 : x = 29
  · exact q_tabI X dL_law_39 h29 (by decide) (by decide) (off := 1979) (by decide +kernel) (tgt := 2018) (by decide) (case_29 C h hi hroom kk)
  by_cases h30 : x = 30
  · exact q_tabI X dL_law_39 h30 (by decide) (by decide) (off := 2035) (by decide +kernel) (tgt := 2074) (by decide) (case_30 C h hi hroom kk)
  by_cases h31 : x = 31
  · exact q_tabI X dL_law_39 h31 (by decide) (by decide) (off := 2091) (by decide +kernel) (tgt := 2130) (by decide) (case_31 C h hi hroom kk)
  by_cases h32 : x = 32
  · exact q_tabI X dL_law_39 h32 (by decide) (by decide) (off := 2132) (by decide +kernel) (tgt := 2171) (by decide) (case_32 C h hi hroom kk)
  by_cases h33 : x = 33
  · exact q_tabI X dL_law_39 h33 (by decide) (by decide) (off := 2195) (by decide +kernel) (tgt := 2234) (by decide) (case_33 C h hi hroom kk)
  by_cases h34 : x = 34
  · exact q_tabI X dL_law_39 h34 (by decide) (by decide) (off := 2251) (by decide +kernel) (tgt := 2290) (by decide) (case_34 C h hi hroom kk)
  by_cases h35 : x = 35
  · exact q_tabI X dL_law_39 h35 (by decide) (by decide) (off := 2314) (by decide +kernel) (tgt := 2353) (by decide) (case_35 C h hi hroom kk)
  by_cases h36 : x = 36
  · exact q_tabI X dL_law_39 h36 (by decide) (by decide) (off := 2370) (by decide +kernel) (tgt := 2409) (by decide) (case_36 C h hi hroom kk)
  by_cases h37 : x = 37
  · exact q_tabI X dL_law_39 h37 (by decide) (by decide) (off := 2426) (by decide +kernel) (tgt := 2465) (by decide) (case_37 C h hi hroom kk)
  by_cases h38 : x = 38
  · exact q_tabI X dL_law_39 h38 (by decide) (by decide) (off := 2439) (by decide +kernel) (tgt := 2478) (by decide) (case_38 C h hi hroom kk)
  by_cases h39 : x = 39
  · exact q_tabI X dL_law_39 h39 (by decide) (by decide) (off := 2495) (by decide +kernel) (tgt := 2534) (by decide) (case_39 C h hi hroom kk)
  by_cases h40 : x = 40
  · exact q_tabI X dL_law_39 h40 (by decide) (by decide) (off := 2551) (by decide +kernel) (tgt := 2590) (by decide) (case_40 C h hi hroom kk)
  by_cases h41 : x = 41
  · exact q_tabI X dL_law_39 h41 (by decide) (by decide) (off := 2607) (by decide +kernel) (tgt := 2646) (by decide) (case_41 C h hi hroom kk)
  by_cases h42 : x = 42
  · exact q_tabI X dL_law_39 h42 (by decide) (by decide) (off := 2663) (by decide +kernel) (tgt := 2702) (by decide) (case_42 C h hi hroom kk)
  by_cases h43 : x = 43
  · exact q_tabI X dL_law_39 h43 (by decide) (by decide) (off := 2719) (by decide +kernel) (tgt := 2758) (by decide) (case_43 C h hi hroom kk)
  by_cases h44 : x = 44
  · exact q_tabI X dL_law_39 h44 (by decide) (by decide) (off := 2775) (by decide +kernel) (tgt := 2814) (by decide) (case_44 C h hi hroom kk)
  by_cases h45 : x = 45
  · exact q_tabI X dL_law_39 h45 (by decide) (by decide) (off := 2788) (by decide +kernel) (tgt := 2827) (by decide) (case_45 C h hi hroom kk)
  by_cases h46 : x = 46
  · exact q_tabI X dL_law_39 h46 (by decide) (by decide) (off := 2801) (by decide +kernel) (tgt := 2840) (by decide) (case_46 C h hi hroom kk)
  by_cases h47 : x = 47
  · exact q_tabI X dL_law_39 h47 (by decide) (by decide) (off := 2814) (by decide +kernel) (tgt := 2853) (by decide) (case_47 C h hi hroom kk)
  by_cases h48 : x = 48
  · exact q_tabI X dL_law_39 h48 (by decide) (by decide) (off := 2827) (by decide +kernel) (tgt := 2866) (by decide) (case_48 C h hi hroom kk)
  by_cases h49 : x = 49
  · exact q_tabI X dL_law_39 h49 (by decide) (by decide) (off := 2840) (by decide +kernel) (tgt := 2879) (by decide) (case_49 C h hi hroom kk)
  by_cases h50 : x = 50
  · exact q_tabI X dL_law_39 h50 (by decide) (by decide) (off := 2853) (by decide +kernel) (tgt := 2892) (by decide) (case_50 C h hi hroom kk)
  by_cases h51 : x = 51
  · exact q_tabI X dL_law_39 h51 (by decide) (by decide) (off := 2866) (by decide +kernel) (tgt := 2905) (by decide) (case_51 C h hi hroom kk)
  by_cases h52 : x = 52
  · exact q_tabI X dL_law_39 h52 (by decide) (by decide) (off := 2879) (by decide +kernel) (tgt := 2918) (by decide) (case_52 C h hi hroom kk)
  by_cases h53 : x = 53
  · exact q_tabI X dL_law_39 h53 (by decide) (by decide) (off := 2892) (by decide +kernel) (tgt := 2931) (by decide) (case_53 C h hi hroom kk)
  by_cases h54 : x = 54
  · exact q_tabI X dL_law_39 h54 (by decide) (by decide) (off := 2905) (by decide +kernel) (tgt := 2944) (by decide) (case_54 C h hi hroom kk)
  by_cases h55 : x = 55
  · exact q_tabI X dL_law_39 h55 (by decide) (by decide) (off := 2961) (by decide +kernel) (tgt := 3000) (by decide) (case_55 C h hi hroom kk)
  by_cases h56 : x = 56
  · exact q_tabI X dL_law_39 h56 (by decide) (by decide) (off := 3017) (by decide +kernel) (tgt := 3056) (by decide) (case_56 C h hi hroom kk)
  by_cases h57 : x = 57
  · exact q_tabI X dL_law_39 h57 (by decide) (by decide) (off := 3073) (by decide +kernel) (tgt := 3112) (by decide) (case_57 C h hi hroom kk)
  by_cases h58 : x = 58
  · exact q_tabI X dL_law_39 h58 (by decide) (by decide) (off := 3129) (by decide +kernel) (tgt := 3168) (by decide) (case_58 C h hi hroom kk)
  by_cases h59 : x = 59
  · exact q_tabI X dL_law_39 h59 (by decide) (by decide) (off := 3185) (by decide +kernel) (tgt := 3224) (by decide) (case_59 C h hi hroom kk)
  by_cases h60 : x = 60
  · exact q_tabI X dL_law_39 h60 (by decide) (by decide) (off := 3241) (by decide +kernel) (tgt := 3280) (by decide) (case_60 C h hi hroom kk)
  by_cases h61 : x = 61
  · exact q_tabI X dL_law_39 h61 (by decide) (by decide) (off := 3297) (by decide +kernel) (tgt := 3336) (by decide) (case_61 C h hi hroom kk)
  by_cases h62 : x = 62
  · exact q_tabI X dL_law_39 h62 (by decide) (by decide) (off := 3353) (by decide +kernel) (tgt := 3392) (by decide) (case_62 C h hi hroom kk)
  by_cases h63 : x = 63
  · exact q_tabI X dL_law_39 h63 (by decide) (by decide) (off := 3445) (by decide +kernel) (tgt := 3484) (by decide) (case_63 C h hi hroom kk)
  by_cases h64 : x = 64
  · exact q_tabI X dL_law_39 h64 (by decide) (by decide) (off := 3513) (by decide +kernel) (tgt := 3552) (by decide) (case_64 C h hi hroom kk)
  by_cases h65 : x = 65
  · exact q_tabI X dL_law_39 h65 (by decide) (by decide) (off := 3581) (by decide +kernel) (tgt := 3620) (by decide) (case_65 C h hi hroom kk)
  by_cases h66 : x = 66
  · exact q_tabI X dL_law_39 h66 (by decide) (by decide) (off := 3649) (by decide +kernel) (tgt := 3688) (by decide) (case_66 C h hi hroom kk)
  by_cases h67 : x = 67
  · exact q_tabI X dL_law_39 h67 (by decide) (by decide) (off := 3717) (by decide +kernel) (tgt := 3756) (by decide) (case_67 C h hi hroom kk)
  by_cases h68 : x = 68
  · exact q_tabI X dL_law_39 h68 (by decide) (by decide) (off := 3785) (by decide +kernel) (tgt := 3824) (by decide) (case_68 C h hi hroom kk)
  by_cases h69 : x = 69
  · exact q_tabI X dL_law_39 h69 (by decide) (by decide) (off := 3853) (by decide +kernel) (tgt := 3892) (by decide) (case_69 C h hi hroom kk)
  by_cases h70 : x = 70
  · exact q_tabI X dL_law_39 h70 (by decide) (by decide) (off := 3921) (by decide +kernel) (tgt := 3960) (by decide) (case_70 C h hi hroom kk)
  by_cases h71 : x = 71
  · exact q_tabI X dL_law_39 h71 (by decide) (by decide) (off := 3977) (by decide +kernel) (tgt := 4016) (by decide) (case_71 C h hi hroom kk)
  by_cases h72 : x = 72
  · exact q_tabI X dL_law_39 h72 (by decide) (by decide) (off := 3990) (by decide +kernel) (tgt := 4029) (by decide) (case_72 C h hi hroom kk)
  by_cases h73 : x = 73
  · exact q_tabI X dL_law_39 h73 (by decide) (by decide) (off := 4046) (by decide +kernel) (tgt := 4085) (by decide) (case_73 C h hi hroom kk)
  by_cases h74 : x = 74
  · exact q_tabI X dL_law_39 h74 (by decide) (by decide) (off := 4114) (by decide +kernel) (tgt := 4153) (by decide) (case_74 C h hi hroom kk)
  by_cases h75 : x = 75
  · exact q_tabI X dL_law_39 h75 (by decide) (by decide) (off := 4127) (by decide +kernel) (tgt := 4166) (by decide) (case_75 C h hi hroom kk)
  by_cases h76 : x = 76
  · exact q_tabI X dL_law_39 h76 (by decide) (by decide) (off := 4183) (by decide +kernel) (tgt := 4222) (by decide) (case_76 C h hi hroom kk)
  by_cases h77 : x = 77
  · exact q_tabI X dL_law_39 h77 (by decide) (by decide) (off := 4196) (by decide +kernel) (tgt := 4235) (by decide) (case_77 C h hi hroom kk)
  by_cases h78 : x = 78
  · exact q_tabI X dL_law_39 h78 (by decide) (by decide) (off := 4209) (by decide +kernel) (tgt := 4248) (by decide) (case_78 C h hi hroom kk)
  by_cases h79 : x = 79
  · exact q_tabI X dL_law_39 h79 (by decide) (by decide) (off := 4253) (by decide +kernel) (tgt := 4292) (by decide) (case_79 C h hi hroom kk)
  by_cases h80 : x = 80
  · exact q_tabI X dL_law_39 h80 (by decide) (by decide) (off := 4297) (by decide +kernel) (tgt := 4336) (by decide) (case_80 C h hi hroom kk)
  by_cases h81 : x = 81
  · exact q_tabI X dL_law_39 h81 (by decide) (by decide) (off := 4310) (by decide +kernel) (tgt := 4349) (by decide) (case_81 C h hi hroom kk)
  by_cases h82 : x = 82
  · exact q_tabI X dL_law_39 h82 (by decide) (by decide) (off := 4366) (by decide +kernel) (tgt := 4405) (by decide) (case_82 C h hi hroom kk)
  exact q_tabD X [0, 1, 2, 3, 4, 5, 6, 7, 8, 9, 10, 11, 12, 13, 14, 15, 16, 17, 18, 19, 20, 21, 22, 23, 24, 25, 26, 27, 28, 29, 30, 31, 32, 33, 34, 35, 36, 37, 38, 39, 40, 41, 42, 43, 44, 45, 46, 47, 48, 49, 50, 51, 52, 53, 54, 55, 56, 57, 58, 59, 60, 61, 62, 63, 64, 65, 66, 67, 68, 69, 70, 71, 72, 73, 74, 75, 76, 77, 78, 79, 80, 81, 82] dL_law_39 (List.forall_mem_cons.mpr ⟨h0, (List.forall_mem_cons.mpr ⟨h1, (List.forall_mem_cons.mpr ⟨h2, (List.forall_mem_cons.mpr ⟨h3, (List.forall_mem_cons.mpr ⟨h4, (List.forall_mem_cons.mpr ⟨h5, (List.forall_mem_cons.mpr ⟨h6, (List.forall_mem_cons.mpr ⟨h7, (List.forall_mem_cons.mpr ⟨h8, (List.forall_mem_cons.mpr ⟨h9, (List.forall_mem_cons.mpr ⟨h10, (List.forall_mem_cons.mpr ⟨h11, (List.forall_mem_cons.mpr ⟨h12, (List.forall_mem_cons.mpr ⟨h13, (List.forall_mem_cons.mpr ⟨h14, (List.forall_mem_cons.mpr ⟨h15, (List.forall_mem_cons.mpr ⟨h16, (List.forall_mem_cons.mpr ⟨h17, (List.forall_mem_cons.mpr ⟨h18, (List.forall_mem_cons.mpr ⟨h19, (List.forall_mem_cons.mpr ⟨h20, (List.forall_mem_cons.mpr ⟨h21, (List.forall_mem_cons.mpr ⟨h22, (List.forall_mem_cons.mpr ⟨h23, (List.forall_mem_cons.mpr ⟨h24, (List.forall_mem_cons.mpr ⟨h25, (List.forall_mem_cons.mpr ⟨h26, (List.forall_mem_cons.mpr ⟨h27, (List.forall_mem_cons.mpr ⟨h28, (List.forall_mem_cons.mpr ⟨h29, (List.forall_mem_cons.mpr ⟨h30, (List.forall_mem_cons.mpr ⟨h31, (List.forall_mem_cons.mpr ⟨h32, (List.forall_mem_cons.mpr ⟨h33, (List.forall_mem_cons.mpr ⟨h34, (List.forall_mem_cons.mpr ⟨h35, (List.forall_mem_cons.mpr ⟨h36, (List.forall_mem_cons.mpr ⟨h37, (List.forall_mem_cons.mpr ⟨h38, (List.forall_mem_cons.mpr ⟨h39, (List.forall_mem_cons.mpr ⟨h40, (List.forall_mem_cons.mpr ⟨h41, (List.forall_mem_cons.mpr ⟨h42, (List.forall_mem_cons.mpr ⟨h43, (List.forall_mem_cons.mpr ⟨h44, (List.forall_mem_cons.mpr ⟨h45, (List.forall_mem_cons.mpr ⟨h46, (List.forall_mem_cons.mpr ⟨h47, (List.forall_mem_cons.mpr ⟨h48, (List.forall_mem_cons.mpr ⟨h49, (List.forall_mem_cons.mpr ⟨h50, (List.forall_mem_cons.mpr ⟨h51, (List.forall_mem_cons.mpr ⟨h52, (List.forall_mem_cons.mpr ⟨h53, (List.forall_mem_cons.mpr ⟨h54, (List.forall_mem_cons.mpr ⟨h55, (List.forall_mem_cons.mpr ⟨h56, (List.forall_mem_cons.mpr ⟨h57, (List.forall_mem_cons.mpr ⟨h58, (List.forall_mem_cons.mpr ⟨h59, (List.forall_mem_cons.mpr ⟨h60, (List.forall_mem_cons.mpr ⟨h61, (List.forall_mem_cons.mpr ⟨h62, (List.forall_mem_cons.mpr ⟨h63, (List.forall_mem_cons.mpr ⟨h64, (List.forall_mem_cons.mpr ⟨h65, (List.forall_mem_cons.mpr ⟨h66, (List.forall_mem_cons.mpr ⟨h67, (List.forall_mem_cons.mpr ⟨h68, (List.forall_mem_cons.mpr ⟨h69, (List.forall_mem_cons.mpr ⟨h70, (List.forall_mem_cons.mpr ⟨h71, (List.forall_mem_cons.mpr ⟨h72, (List.forall_mem_cons.mpr ⟨h73, (List.forall_mem_cons.mpr ⟨h74, (List.forall_mem_cons.mpr ⟨h75, (List.forall_mem_cons.mpr ⟨h76, (List.forall_mem_cons.mpr ⟨h77, (List.forall_mem_cons.mpr ⟨h78, (List.forall_mem_cons.mpr ⟨h79, (List.forall_mem_cons.mpr ⟨h80, (List.forall_mem_cons.mpr ⟨h81, (List.forall_mem_cons.mpr ⟨h82, (List.forall_mem_nil _)⟩)⟩)⟩)⟩)⟩)⟩)⟩)⟩)⟩)⟩)⟩)⟩)⟩)⟩)⟩)⟩)⟩)⟩)⟩)⟩)⟩)⟩)⟩)⟩)⟩)⟩)⟩)⟩)⟩)⟩)⟩)⟩)⟩)⟩)⟩)⟩)⟩)⟩)⟩)⟩)⟩)⟩)⟩)⟩)⟩)⟩)⟩)⟩)⟩)⟩)⟩)⟩)⟩)⟩)⟩)⟩)⟩)⟩)⟩)⟩)⟩)⟩)⟩)⟩)⟩)⟩)⟩)⟩)⟩)⟩)⟩)⟩)⟩)⟩)⟩)⟩)⟩)⟩)⟩)⟩)⟩)⟩)⟩) (by decide +kernel) (tgt := 4461) rfl (q_w (Nat.le_add_right _ _) (Nat.le_add_right _ _) (kk _ _ _ (h.1.mono (by omega) (by omega) h.2.2.1)))
set_option maxRecDepth 100000 in
set_option maxHeartbeats 4000000 in
theorem law_loop (C : LC p l s m args c D cA ad A AC AM ob cO b L xs) (exit : ∀ (cells slots : Nat) (mc mm : Mm) (v : Int64) (i : Nat), cells ≤ 601024 → slots ≤ 7293034 → V p l e room_1 s m args below meth c Q 9 A cells slots (PL D cA ad ob cO mc mm v) 4467 (lvL ad ob b i) []) : ∀ (n k : Nat) (mc mm : Mm) (v : Int64), 5 * k ≤ L → L + 1 ≤ 5 * k + 5 * n → Rel (99999 + 400000 * k) (64 * k) mc mm → V p l e room_1 s m args below meth c Q 9 A (431 + 2 * k) (34341 + 12 * k) (PL D cA ad ob cO mc mm v) 23 (lvL ad ob b (5 * k)) [] := by
  intro n
  have C0 := C
  obtain ⟨X, hA, hW, hZ, hX, hb1, hst, hL⟩ := C
  induction n with
  | zero => intro k mc mm v h1 h2; exact absurd h2 (by omega)
  | succ n ih =>
    intro k mc mm v h1 h2 hr
    refine q_iload (j := 0) X dL_law_23 rfl ?_
    refine q_aload_n (j := 4) X dL_law_25 rfl rfl ?_
    refine q_slen C0 dL_law_26 ?_
    refine q_iconst (v := 5) X dL_law_27 rfl ?_
    refine q_isub X dL_law_28 ?_
    refine q_icmp_gt X dL_law_29 (tgt := 4467) rfl (fun _ => exit _ _ _ _ _ _ (by omega) (by omega)) (fun hgt => ?_)
    have h5 : ¬ L < 5 * k + 5 := fun h => hgt ((lt_L5 hL h1).mpr h)
    refine q_aload_n (j := 4) X dL_law_32 rfl rfl ?_
    refine q_iload (j := 0) X dL_law_33 rfl ?_
    refine q_sld C0 (by omega) dL_law_35 ?_
    refine q_bipush (v := 127) X dL_law_36 rfl ?_
    refine q_iand X dL_law_38 ?_
    refine law_disp C0 (a := 99999 + 400000 * k) (s0 := 64 * k) ⟨hr, by omega, ⟨by omega, by omega⟩, fun _ _ h => h⟩ (by omega) ⟨by show _ ≤ 601024; omega, by show _ ≤ 7293034; omega⟩ (fun mc' mm' v' hr' => ?_) _
    refine q_iinc (v := nI (5 * (k + 1))) (j := 0) X dL_law_4461 rfl ?_ (Nat.le_of_ble_eq_true rfl) rfl ?_
    · show nI (5 * k) + nI 5 = _
      rw [nI_add]
      congr 1
    refine q_goto X dL_law_4464 (tgt := 23) rfl ?_
    refine q_w (Nat.le_of_eq (by omega)) (Nat.le_of_eq (by omega)) (ih (k + 1) mc' mm' v' (by omega) (by omega) ?_)
    rw [show 99999 + 400000 * (k + 1) = 99999 + 400000 * k + 400000 by omega, show 64 * (k + 1) = 64 * k + 64 by omega]
    exact hr'
end LOOP
