theorem gT_r {ws : List Cond} (ps : List Nat) (hp : ws = ps.filterMap (fun i => tables_1[i]?)) (h : ws.all goodWord = true) : ∀ w ∈ ws, w ∈ gT := by
  intro w hw
  have h1 := List.all_eq_true.mp h w hw
  rw [hp] at hw
  obtain ⟨i, -, hi⟩ := List.mem_filterMap.mp hw
  exact gT_in i hi h1
set_option maxRecDepth 20000 in
theorem uw_X0 : ∀ w ∈ u_ws RX0 TX0 3, w ∈ gT := gT_r [145, 147, 149] (by decide +kernel) (by decide +kernel)
theorem ini_X0 : Cond.initialized RX0 ∈ gT := gT_in 5 (by decide +kernel) rfl
theorem ini_X1 : Cond.initialized RX1 ∈ gT := gT_in 13 (by decide +kernel) rfl
set_option maxRecDepth 20000 in
theorem uw_X2 : ∀ w ∈ u_ws RX2 TX2 3, w ∈ gT := gT_r [34, 36, 38] (by decide +kernel) (by decide +kernel)
theorem ini_X2 : Cond.initialized RX2 ∈ gT := gT_in 2 (by decide +kernel) rfl
set_option maxRecDepth 20000 in
theorem uw_X3 : ∀ w ∈ u_ws RX3 TX3 8, w ∈ gT := gT_r [115, 117, 119, 121, 123, 125, 127, 129] (by decide +kernel) (by decide +kernel)
theorem ini_X3 : Cond.initialized RX3 ∈ gT := gT_in 4 (by decide +kernel) rfl
set_option maxRecDepth 20000 in
theorem uw_X4 : ∀ w ∈ u_ws RX4 TX4 11, w ∈ gT := gT_r [76, 78, 80, 82, 84, 86, 88, 90, 92, 94, 96] (by decide +kernel) (by decide +kernel)
theorem ini_X4 : Cond.initialized RX4 ∈ gT := gT_in 3 (by decide +kernel) rfl
set_option maxRecDepth 20000 in
theorem uw_X5 : ∀ w ∈ u_ws RX5 TX5 12, w ∈ gT := gT_r [164, 166, 168, 170, 172, 174, 176, 178, 180, 182, 184, 186] (by decide +kernel) (by decide +kernel)
theorem ini_X5 : Cond.initialized RX5 ∈ gT := gT_in 1 (by decide +kernel) rfl
set_option maxRecDepth 20000 in
theorem uw_X6 : ∀ w ∈ u_ws RX6 TX6 41, w ∈ gT := gT_r [710, 712, 714, 716, 718, 720, 722, 724, 726, 728, 730, 732, 734, 736, 738, 740, 742, 744, 746, 748, 750, 752, 754, 756, 758, 760, 762, 764, 766, 768, 770, 772, 774, 776, 778, 780, 782, 784, 786, 788, 790] (by decide +kernel) (by decide +kernel)
theorem ini_X6 : Cond.initialized RX6 ∈ gT := gT_in 7 (by decide +kernel) rfl
theorem ini_J11 : Cond.initialized RJ11 ∈ gT := gT_in 12 (by decide +kernel) rfl
theorem ini_J6 : Cond.initialized RJ6 ∈ gT := gT_in 14 (by decide +kernel) rfl
theorem ini_J9 : Cond.initialized RJ9 ∈ gT := gT_in 6 (by decide +kernel) rfl
theorem ini_J0 : Cond.initialized RJ0 ∈ gT := gT_in 8 (by decide +kernel) rfl
theorem ini_J1 : Cond.initialized RJ1 ∈ gT := gT_in 9 (by decide +kernel) rfl
theorem ini_J2 : Cond.initialized RJ2 ∈ gT := gT_in 10 (by decide +kernel) rfl
theorem ini_J3 : Cond.initialized RJ3 ∈ gT := gT_in 11 (by decide +kernel) rfl
theorem ini_L : Cond.initialized RL ∈ gT := gT_in 0 (by decide +kernel) rfl
theorem ml_L_9 : Cond.methodLink RL 9 yX5_init ∈ gT := gT_in 17 (by decide +kernel) rfl
theorem fl_X2_9 : gF RX2 9 1 0 := ⟨RX2, TX2, 3, rfl, by decide, uw_X2, gT_in 29 (by decide +kernel) rfl⟩
theorem fl_X2_15 : gF RX2 15 1 1 := ⟨RX2, TX2, 3, rfl, by decide, uw_X2, gT_in 30 (by decide +kernel) rfl⟩
theorem fp_X2_15 : gFp RX2 15 1 1 .int := ⟨RX2, TX2, 3, tyX2, rfl, by decide, uw_X2, gT_in 30 (by decide +kernel) rfl, tyX2_ok, nmX2, rfl, (by decide +kernel)⟩
theorem fl_X5_48 : gF RX5 48 1 1 := ⟨RX2, TX2, 3, rfl, by decide, uw_X2, gT_in 31 (by decide +kernel) rfl⟩
theorem fp_X5_48 : gFp RX5 48 1 1 .int := ⟨RX2, TX2, 3, tyX2, rfl, by decide, uw_X2, gT_in 31 (by decide +kernel) rfl, tyX2_ok, nmX2, rfl, (by decide +kernel)⟩
theorem fl_X2_19 : gF RX2 19 1 2 := ⟨RX2, TX2, 3, rfl, by decide, uw_X2, gT_in 32 (by decide +kernel) rfl⟩
theorem fp_X2_19 : gFp RX2 19 1 2 .int := ⟨RX2, TX2, 3, tyX2, rfl, by decide, uw_X2, gT_in 32 (by decide +kernel) rfl, tyX2_ok, nmX2, rfl, (by decide +kernel)⟩
theorem fl_X5_59 : gF RX5 59 1 2 := ⟨RX2, TX2, 3, rfl, by decide, uw_X2, gT_in 33 (by decide +kernel) rfl⟩
theorem fp_X5_59 : gFp RX5 59 1 2 .int := ⟨RX2, TX2, 3, tyX2, rfl, by decide, uw_X2, gT_in 33 (by decide +kernel) rfl, tyX2_ok, nmX2, rfl, (by decide +kernel)⟩
theorem fl_X4_31 : gF RX4 31 3 0 := ⟨RX4, TX4, 11, rfl, by decide, uw_X4, gT_in 48 (by decide +kernel) rfl⟩
theorem fp_X4_31 : gFp RX4 31 3 0 .int := ⟨RX4, TX4, 11, tyX4, rfl, by decide, uw_X4, gT_in 48 (by decide +kernel) rfl, tyX4_ok, nmX4, rfl, (by decide +kernel)⟩
theorem fl_X3_18 : gF RX3 18 3 0 := ⟨RX4, TX4, 11, rfl, by decide, uw_X4, gT_in 49 (by decide +kernel) rfl⟩
theorem fp_X3_18 : gFp RX3 18 3 0 .int := ⟨RX4, TX4, 11, tyX4, rfl, by decide, uw_X4, gT_in 49 (by decide +kernel) rfl, tyX4_ok, nmX4, rfl, (by decide +kernel)⟩
theorem fl_X2_31 : gF RX2 31 3 0 := ⟨RX4, TX4, 11, rfl, by decide, uw_X4, gT_in 50 (by decide +kernel) rfl⟩
theorem fp_X2_31 : gFp RX2 31 3 0 .int := ⟨RX4, TX4, 11, tyX4, rfl, by decide, uw_X4, gT_in 50 (by decide +kernel) rfl, tyX4_ok, nmX4, rfl, (by decide +kernel)⟩
theorem fl_X5_216 : gF RX5 216 3 0 := ⟨RX4, TX4, 11, rfl, by decide, uw_X4, gT_in 51 (by decide +kernel) rfl⟩
theorem fp_X5_216 : gFp RX5 216 3 0 .int := ⟨RX4, TX4, 11, tyX4, rfl, by decide, uw_X4, gT_in 51 (by decide +kernel) rfl, tyX4_ok, nmX4, rfl, (by decide +kernel)⟩
theorem fl_X4_35 : gF RX4 35 3 1 := ⟨RX4, TX4, 11, rfl, by decide, uw_X4, gT_in 52 (by decide +kernel) rfl⟩
theorem fp_X4_35 : gFp RX4 35 3 1 .int := ⟨RX4, TX4, 11, tyX4, rfl, by decide, uw_X4, gT_in 52 (by decide +kernel) rfl, tyX4_ok, nmX4, rfl, (by decide +kernel)⟩
theorem fl_X3_25 : gF RX3 25 3 1 := ⟨RX4, TX4, 11, rfl, by decide, uw_X4, gT_in 53 (by decide +kernel) rfl⟩
theorem fp_X3_25 : gFp RX3 25 3 1 .int := ⟨RX4, TX4, 11, tyX4, rfl, by decide, uw_X4, gT_in 53 (by decide +kernel) rfl, tyX4_ok, nmX4, rfl, (by decide +kernel)⟩
theorem fl_X2_34 : gF RX2 34 3 1 := ⟨RX4, TX4, 11, rfl, by decide, uw_X4, gT_in 54 (by decide +kernel) rfl⟩
theorem fp_X2_34 : gFp RX2 34 3 1 .int := ⟨RX4, TX4, 11, tyX4, rfl, by decide, uw_X4, gT_in 54 (by decide +kernel) rfl, tyX4_ok, nmX4, rfl, (by decide +kernel)⟩
theorem fl_X5_219 : gF RX5 219 3 1 := ⟨RX4, TX4, 11, rfl, by decide, uw_X4, gT_in 55 (by decide +kernel) rfl⟩
theorem fp_X5_219 : gFp RX5 219 3 1 .int := ⟨RX4, TX4, 11, tyX4, rfl, by decide, uw_X4, gT_in 55 (by decide +kernel) rfl, tyX4_ok, nmX4, rfl, (by decide +kernel)⟩
theorem fl_X4_9 : gF RX4 9 3 2 := ⟨RX4, TX4, 11, rfl, by decide, uw_X4, gT_in 56 (by decide +kernel) rfl⟩
theorem fl_X3_45 : gF RX3 45 3 2 := ⟨RX4, TX4, 11, rfl, by decide, uw_X4, gT_in 57 (by decide +kernel) rfl⟩
theorem fl_X5_84 : gF RX5 84 3 2 := ⟨RX4, TX4, 11, rfl, by decide, uw_X4, gT_in 58 (by decide +kernel) rfl⟩
theorem fl_X4_15 : gF RX4 15 3 3 := ⟨RX4, TX4, 11, rfl, by decide, uw_X4, gT_in 59 (by decide +kernel) rfl⟩
theorem fl_X3_48 : gF RX3 48 3 3 := ⟨RX4, TX4, 11, rfl, by decide, uw_X4, gT_in 60 (by decide +kernel) rfl⟩
theorem fl_X5_88 : gF RX5 88 3 3 := ⟨RX4, TX4, 11, rfl, by decide, uw_X4, gT_in 61 (by decide +kernel) rfl⟩
theorem fl_X4_18 : gF RX4 18 3 4 := ⟨RX4, TX4, 11, rfl, by decide, uw_X4, gT_in 62 (by decide +kernel) rfl⟩
theorem fl_X3_51 : gF RX3 51 3 4 := ⟨RX4, TX4, 11, rfl, by decide, uw_X4, gT_in 63 (by decide +kernel) rfl⟩
theorem fl_X5_91 : gF RX5 91 3 4 := ⟨RX4, TX4, 11, rfl, by decide, uw_X4, gT_in 64 (by decide +kernel) rfl⟩
theorem fl_X3_29 : gF RX3 29 3 5 := ⟨RX4, TX4, 11, rfl, by decide, uw_X4, gT_in 65 (by decide +kernel) rfl⟩
theorem fp_X3_29 : gFp RX3 29 3 5 .int := ⟨RX4, TX4, 11, tyX4, rfl, by decide, uw_X4, gT_in 65 (by decide +kernel) rfl, tyX4_ok, nmX4, rfl, (by decide +kernel)⟩
theorem fl_X4_44 : gF RX4 44 3 5 := ⟨RX4, TX4, 11, rfl, by decide, uw_X4, gT_in 66 (by decide +kernel) rfl⟩
theorem fp_X4_44 : gFp RX4 44 3 5 .int := ⟨RX4, TX4, 11, tyX4, rfl, by decide, uw_X4, gT_in 66 (by decide +kernel) rfl, tyX4_ok, nmX4, rfl, (by decide +kernel)⟩
theorem fl_X5_222 : gF RX5 222 3 5 := ⟨RX4, TX4, 11, rfl, by decide, uw_X4, gT_in 67 (by decide +kernel) rfl⟩
theorem fp_X5_222 : gFp RX5 222 3 5 .int := ⟨RX4, TX4, 11, tyX4, rfl, by decide, uw_X4, gT_in 67 (by decide +kernel) rfl, tyX4_ok, nmX4, rfl, (by decide +kernel)⟩
theorem fl_X3_33 : gF RX3 33 3 6 := ⟨RX4, TX4, 11, rfl, by decide, uw_X4, gT_in 68 (by decide +kernel) rfl⟩
theorem fp_X3_33 : gFp RX3 33 3 6 .int := ⟨RX4, TX4, 11, tyX4, rfl, by decide, uw_X4, gT_in 68 (by decide +kernel) rfl, tyX4_ok, nmX4, rfl, (by decide +kernel)⟩
theorem fl_X4_47 : gF RX4 47 3 6 := ⟨RX4, TX4, 11, rfl, by decide, uw_X4, gT_in 69 (by decide +kernel) rfl⟩
theorem fp_X4_47 : gFp RX4 47 3 6 .int := ⟨RX4, TX4, 11, tyX4, rfl, by decide, uw_X4, gT_in 69 (by decide +kernel) rfl, tyX4_ok, nmX4, rfl, (by decide +kernel)⟩
theorem fl_X5_225 : gF RX5 225 3 6 := ⟨RX4, TX4, 11, rfl, by decide, uw_X4, gT_in 70 (by decide +kernel) rfl⟩
theorem fp_X5_225 : gFp RX5 225 3 6 .int := ⟨RX4, TX4, 11, tyX4, rfl, by decide, uw_X4, gT_in 70 (by decide +kernel) rfl, tyX4_ok, nmX4, rfl, (by decide +kernel)⟩
theorem fl_X4_21 : gF RX4 21 3 7 := ⟨RX4, TX4, 11, rfl, by decide, uw_X4, gT_in 71 (by decide +kernel) rfl⟩
theorem fl_X4_24 : gF RX4 24 3 8 := ⟨RX4, TX4, 11, rfl, by decide, uw_X4, gT_in 72 (by decide +kernel) rfl⟩
theorem fl_X4_27 : gF RX4 27 3 9 := ⟨RX4, TX4, 11, rfl, by decide, uw_X4, gT_in 73 (by decide +kernel) rfl⟩
theorem fl_X4_38 : gF RX4 38 3 10 := ⟨RX4, TX4, 11, rfl, by decide, uw_X4, gT_in 74 (by decide +kernel) rfl⟩
theorem fp_X4_38 : gFp RX4 38 3 10 .int := ⟨RX4, TX4, 11, tyX4, rfl, by decide, uw_X4, gT_in 74 (by decide +kernel) rfl, tyX4_ok, nmX4, rfl, (by decide +kernel)⟩
theorem fl_X5_200 : gF RX5 200 3 10 := ⟨RX4, TX4, 11, rfl, by decide, uw_X4, gT_in 75 (by decide +kernel) rfl⟩
theorem fp_X5_200 : gFp RX5 200 3 10 .int := ⟨RX4, TX4, 11, tyX4, rfl, by decide, uw_X4, gT_in 75 (by decide +kernel) rfl, tyX4_ok, nmX4, rfl, (by decide +kernel)⟩
theorem fl_X3_24 : gF RX3 24 2 0 := ⟨RX3, TX3, 8, rfl, by decide, uw_X3, gT_in 107 (by decide +kernel) rfl⟩
theorem fp_X3_24 : gFp RX3 24 2 0 .int := ⟨RX3, TX3, 8, tyX3, rfl, by decide, uw_X3, gT_in 107 (by decide +kernel) rfl, tyX3_ok, nmX3, rfl, (by decide +kernel)⟩
theorem fl_X3_28 : gF RX3 28 2 1 := ⟨RX3, TX3, 8, rfl, by decide, uw_X3, gT_in 108 (by decide +kernel) rfl⟩
theorem fp_X3_28 : gFp RX3 28 2 1 .int := ⟨RX3, TX3, 8, tyX3, rfl, by decide, uw_X3, gT_in 108 (by decide +kernel) rfl, tyX3_ok, nmX3, rfl, (by decide +kernel)⟩
theorem fl_X3_32 : gF RX3 32 2 2 := ⟨RX3, TX3, 8, rfl, by decide, uw_X3, gT_in 109 (by decide +kernel) rfl⟩
theorem fp_X3_32 : gFp RX3 32 2 2 .int := ⟨RX3, TX3, 8, tyX3, rfl, by decide, uw_X3, gT_in 109 (by decide +kernel) rfl, tyX3_ok, nmX3, rfl, (by decide +kernel)⟩
theorem fl_X3_36 : gF RX3 36 2 3 := ⟨RX3, TX3, 8, rfl, by decide, uw_X3, gT_in 110 (by decide +kernel) rfl⟩
theorem fp_X3_36 : gFp RX3 36 2 3 .int := ⟨RX3, TX3, 8, tyX3, rfl, by decide, uw_X3, gT_in 110 (by decide +kernel) rfl, tyX3_ok, nmX3, rfl, (by decide +kernel)⟩
theorem fl_X3_9 : gF RX3 9 2 4 := ⟨RX3, TX3, 8, rfl, by decide, uw_X3, gT_in 111 (by decide +kernel) rfl⟩
theorem fl_X3_15 : gF RX3 15 2 5 := ⟨RX3, TX3, 8, rfl, by decide, uw_X3, gT_in 112 (by decide +kernel) rfl⟩
theorem fl_X3_67 : gF RX3 67 2 6 := ⟨RX3, TX3, 8, rfl, by decide, uw_X3, gT_in 113 (by decide +kernel) rfl⟩
theorem fp_X3_67 : gFp RX3 67 2 6 .int := ⟨RX3, TX3, 8, tyX3, rfl, by decide, uw_X3, gT_in 113 (by decide +kernel) rfl, tyX3_ok, nmX3, rfl, (by decide +kernel)⟩
theorem fl_X3_64 : gF RX3 64 2 7 := ⟨RX3, TX3, 8, rfl, by decide, uw_X3, gT_in 114 (by decide +kernel) rfl⟩
theorem fp_X3_64 : gFp RX3 64 2 7 .int := ⟨RX3, TX3, 8, tyX3, rfl, by decide, uw_X3, gT_in 114 (by decide +kernel) rfl, tyX3_ok, nmX3, rfl, (by decide +kernel)⟩
theorem ml_X5_38 : Cond.methodLink RX5 38 yX0_init ∈ gT := gT_in 134 (by decide +kernel) rfl
theorem ml_X0_15 : Cond.methodLink RX0 15 yJ9_max_7cf53 ∈ gT := gT_in 138 (by decide +kernel) rfl
theorem fl_X0_21 : gF RX0 21 0 0 := ⟨RX0, TX0, 3, rfl, by decide, uw_X0, gT_in 141 (by decide +kernel) rfl⟩
theorem fl_X0_9 : gF RX0 9 0 1 := ⟨RX0, TX0, 3, rfl, by decide, uw_X0, gT_in 142 (by decide +kernel) rfl⟩
theorem fl_X0_24 : gF RX0 24 0 2 := ⟨RX0, TX0, 3, rfl, by decide, uw_X0, gT_in 143 (by decide +kernel) rfl⟩
theorem fp_X0_24 : gFp RX0 24 0 2 .int := ⟨RX0, TX0, 3, tyX0, rfl, by decide, uw_X0, gT_in 143 (by decide +kernel) rfl, tyX0_ok, nmX0, rfl, (by decide +kernel)⟩
theorem fl_X5_160 : gF RX5 160 0 2 := ⟨RX0, TX0, 3, rfl, by decide, uw_X0, gT_in 144 (by decide +kernel) rfl⟩
theorem fp_X5_160 : gFp RX5 160 0 2 .int := ⟨RX0, TX0, 3, tyX0, rfl, by decide, uw_X0, gT_in 144 (by decide +kernel) rfl, tyX0_ok, nmX0, rfl, (by decide +kernel)⟩
theorem fl_X5_12 : gF RX5 12 4 0 := ⟨RX5, TX5, 12, rfl, by decide, uw_X5, gT_in 152 (by decide +kernel) rfl⟩
theorem fl_X5_19 : gF RX5 19 4 1 := ⟨RX5, TX5, 12, rfl, by decide, uw_X5, gT_in 153 (by decide +kernel) rfl⟩
theorem fl_X5_23 : gF RX5 23 4 2 := ⟨RX5, TX5, 12, rfl, by decide, uw_X5, gT_in 154 (by decide +kernel) rfl⟩
theorem fl_X5_26 : gF RX5 26 4 3 := ⟨RX5, TX5, 12, rfl, by decide, uw_X5, gT_in 155 (by decide +kernel) rfl⟩
theorem fl_X5_32 : gF RX5 32 4 4 := ⟨RX5, TX5, 12, rfl, by decide, uw_X5, gT_in 156 (by decide +kernel) rfl⟩
theorem fl_X5_41 : gF RX5 41 4 5 := ⟨RX5, TX5, 12, rfl, by decide, uw_X5, gT_in 157 (by decide +kernel) rfl⟩
theorem fl_X5_45 : gF RX5 45 4 6 := ⟨RX5, TX5, 12, rfl, by decide, uw_X5, gT_in 158 (by decide +kernel) rfl⟩
theorem fl_X5_73 : gF RX5 73 4 7 := ⟨RX5, TX5, 12, rfl, by decide, uw_X5, gT_in 159 (by decide +kernel) rfl⟩
theorem fp_X5_73 : gFp RX5 73 4 7 .boolean := ⟨RX5, TX5, 12, tyX5, rfl, by decide, uw_X5, gT_in 159 (by decide +kernel) rfl, tyX5_ok, nmX5, rfl, (by decide +kernel)⟩
theorem fl_X5_69 : gF RX5 69 4 8 := ⟨RX5, TX5, 12, rfl, by decide, uw_X5, gT_in 160 (by decide +kernel) rfl⟩
theorem fp_X5_69 : gFp RX5 69 4 8 .boolean := ⟨RX5, TX5, 12, tyX5, rfl, by decide, uw_X5, gT_in 160 (by decide +kernel) rfl, tyX5_ok, nmX5, rfl, (by decide +kernel)⟩
theorem fl_X5_66 : gF RX5 66 4 9 := ⟨RX5, TX5, 12, rfl, by decide, uw_X5, gT_in 161 (by decide +kernel) rfl⟩
theorem fp_X5_66 : gFp RX5 66 4 9 .int := ⟨RX5, TX5, 12, tyX5, rfl, by decide, uw_X5, gT_in 161 (by decide +kernel) rfl, tyX5_ok, nmX5, rfl, (by decide +kernel)⟩
theorem fl_X5_177 : gF RX5 177 4 10 := ⟨RX5, TX5, 12, rfl, by decide, uw_X5, gT_in 162 (by decide +kernel) rfl⟩
theorem fp_X5_177 : gFp RX5 177 4 10 .int := ⟨RX5, TX5, 12, tyX5, rfl, by decide, uw_X5, gT_in 162 (by decide +kernel) rfl, tyX5_ok, nmX5, rfl, (by decide +kernel)⟩
theorem fl_X5_191 : gF RX5 191 4 11 := ⟨RX5, TX5, 12, rfl, by decide, uw_X5, gT_in 163 (by decide +kernel) rfl⟩
theorem fp_X5_191 : gFp RX5 191 4 11 .int := ⟨RX5, TX5, 12, tyX5, rfl, by decide, uw_X5, gT_in 163 (by decide +kernel) rfl, tyX5_ok, nmX5, rfl, (by decide +kernel)⟩
theorem ml_L_13 : Cond.methodLink RL 13 yX5_letter ∈ gT := gT_in 189 (by decide +kernel) rfl
theorem ml_X5_52 : Cond.methodLink RX5 52 yX2_add ∈ gT := gT_in 193 (by decide +kernel) rfl
theorem ml_L_18 : Cond.methodLink RL 18 yX5_blank ∈ gT := gT_in 197 (by decide +kernel) rfl
theorem ml_L_23 : Cond.methodLink RL 23 yX5_fault ∈ gT := gT_in 201 (by decide +kernel) rfl
theorem ml_X5_55 : Cond.methodLink RX5 55 yX2_readInto ∈ gT := gT_in 205 (by decide +kernel) rfl
theorem ml_X2_22 : Cond.methodLink RX2 22 yX4_forgetAll ∈ gT := gT_in 209 (by decide +kernel) rfl
theorem ml_X4_41 : Cond.methodLink RX4 41 yX4_unmarkAll ∈ gT := gT_in 213 (by decide +kernel) rfl
theorem ml_X2_27 : Cond.methodLink RX2 27 yX2_readNumber ∈ gT := gT_in 217 (by decide +kernel) rfl
theorem ml_X2_66 : Cond.methodLink RX2 66 yX2_codeAt ∈ gT := gT_in 221 (by decide +kernel) rfl
theorem ml_X2_37 : Cond.methodLink RX2 37 yX2_readSign ∈ gT := gT_in 225 (by decide +kernel) rfl
theorem ml_X2_41 : Cond.methodLink RX2 41 yX2_readClue ∈ gT := gT_in 229 (by decide +kernel) rfl
theorem ml_X2_45 : Cond.methodLink RX2 45 yX4_length ∈ gT := gT_in 233 (by decide +kernel) rfl
theorem ml_X2_49 : Cond.methodLink RX2 49 yX2_readKind ∈ gT := gT_in 237 (by decide +kernel) rfl
theorem ml_X2_71 : Cond.methodLink RX2 71 yJ0_indexOf_0f7a4 ∈ gT := gT_in 242 (by decide +kernel) rfl
theorem ml_J0_633 : Cond.methodLink RJ0 633 yJ0_indexOf_7cf53 ∈ gT := gT_in 246 (by decide +kernel) rfl
theorem ml_J0_492 : Cond.methodLink RJ0 492 yJ0_isLatin1_aae02 ∈ gT := gT_in 250 (by decide +kernel) rfl
theorem fk_J0_38 : Cond.fieldLink RJ0 38 "java/lang/String" "COMPACT_STRINGS" "Z" ∈ gT := gT_in 254 (by decide +kernel) rfl
theorem ml_J0_505 : Cond.methodLink RJ0 505 yJ0_length_8abf5 ∈ gT := gT_in 256 (by decide +kernel) rfl
theorem ml_J0_335 : Cond.methodLink RJ0 335 yJ0_coder_7d493 ∈ gT := gT_in 260 (by decide +kernel) rfl
theorem ml_J0_637 : Cond.methodLink RJ0 637 yJ1_indexOf_4cfef ∈ gT := gT_in 264 (by decide +kernel) rfl
theorem ml_J1_88 : Cond.methodLink RJ1 88 yJ1_canEncode_9a6ad ∈ gT := gT_in 267 (by decide +kernel) rfl
theorem ml_J1_92 : Cond.methodLink RJ1 92 yJ9_max_7cf53 ∈ gT := gT_in 270 (by decide +kernel) rfl
theorem ml_J1_38 : Cond.methodLink RJ1 38 yJ9_min_7cf53 ∈ gT := gT_in 271 (by decide +kernel) rfl
theorem ml_J1_95 : Cond.methodLink RJ1 95 yJ1_indexOfChar_4cfef ∈ gT := gT_in 274 (by decide +kernel) rfl
theorem ml_J0_640 : Cond.methodLink RJ0 640 yJ2_indexOf_4cfef ∈ gT := gT_in 277 (by decide +kernel) rfl
theorem ml_J2_224 : Cond.methodLink RJ2 224 yJ9_max_7cf53 ∈ gT := gT_in 280 (by decide +kernel) rfl
theorem ml_J2_183 : Cond.methodLink RJ2 183 yJ9_min_7cf53 ∈ gT := gT_in 281 (by decide +kernel) rfl
theorem ck_J2_227 : Cond.constant RJ2 227 (65536) ∈ gT := gT_in 282 (by decide +kernel) rfl
theorem ml_J2_228 : Cond.methodLink RJ2 228 yJ2_indexOfChar_4cfef ∈ gT := gT_in 283 (by decide +kernel) rfl
theorem ml_J2_96 : Cond.methodLink RJ2 96 yJ2_checkBoundsBeginEnd_d044e ∈ gT := gT_in 286 (by decide +kernel) rfl
theorem ml_J2_48 : Cond.methodLink RJ2 48 yJ2_length_9d52b ∈ gT := gT_in 289 (by decide +kernel) rfl
theorem ml_J2_241 : Cond.methodLink RJ2 241 yJ0_checkBoundsBeginEnd_23922 ∈ gT := gT_in 292 (by decide +kernel) rfl
theorem ml_J0_1062 : Cond.methodLink RJ0 1062 yJ3_checkFromToIndex_8c36e ∈ gT := gT_in 297 (by decide +kernel) rfl
theorem ml_J2_244 : Cond.methodLink RJ2 244 yJ2_indexOfCharUnsafe_4cfef ∈ gT := gT_in 300 (by decide +kernel) rfl
theorem ml_J2_71 : Cond.methodLink RJ2 71 yJ2_getChar_3b067 ∈ gT := gT_in 303 (by decide +kernel) rfl
theorem ml_J2_232 : Cond.methodLink RJ2 232 yJ2_indexOfSupplementary_4cfef ∈ gT := gT_in 312 (by decide +kernel) rfl
theorem ml_J2_164 : Cond.methodLink RJ2 164 yJ11_isValidCodePoint_9a6ad ∈ gT := gT_in 315 (by decide +kernel) rfl
theorem ml_J2_157 : Cond.methodLink RJ2 157 yJ11_highSurrogate_5068e ∈ gT := gT_in 318 (by decide +kernel) rfl
theorem ck_J11_110 : Cond.constant RJ11 110 (55232) ∈ gT := gT_in 321 (by decide +kernel) rfl
theorem ml_J2_161 : Cond.methodLink RJ2 161 yJ11_lowSurrogate_5068e ∈ gT := gT_in 322 (by decide +kernel) rfl
theorem ck_J11_76 : Cond.constant RJ11 76 (56320) ∈ gT := gT_in 325 (by decide +kernel) rfl
theorem ml_X2_53 : Cond.methodLink RX2 53 yX1_hasSecond ∈ gT := gT_in 326 (by decide +kernel) rfl
theorem ml_X1_9 : Cond.methodLink RX1 9 yX1_isSuch ∈ gT := gT_in 329 (by decide +kernel) rfl
theorem ml_X2_59 : Cond.methodLink RX2 59 yX1_mostSecond ∈ gT := gT_in 332 (by decide +kernel) rfl
theorem ml_X1_15 : Cond.methodLink RX1 15 yJ9_max_7cf53 ∈ gT := gT_in 335 (by decide +kernel) rfl
theorem ml_X2_62 : Cond.methodLink RX2 62 yX4_setClue ∈ gT := gT_in 336 (by decide +kernel) rfl
theorem ml_X4_61 : Cond.methodLink RX4 61 yX4_hasLine ∈ gT := gT_in 340 (by decide +kernel) rfl
theorem ml_X4_50 : Cond.methodLink RX4 50 yX4_lines ∈ gT := gT_in 344 (by decide +kernel) rfl
theorem ml_L_27 : Cond.methodLink RL 27 yX5_board ∈ gT := gT_in 349 (by decide +kernel) rfl
theorem ml_X5_62 : Cond.methodLink RX5 62 yX4_copyFrom ∈ gT := gT_in 353 (by decide +kernel) rfl
theorem ml_X5_76 : Cond.methodLink RX5 76 yX4_cells ∈ gT := gT_in 357 (by decide +kernel) rfl
theorem ml_L_31 : Cond.methodLink RL 31 yX5_line ∈ gT := gT_in 361 (by decide +kernel) rfl
theorem ml_X5_80 : Cond.methodLink RX5 80 yX4_hasLine ∈ gT := gT_in 365 (by decide +kernel) rfl
theorem ml_X5_94 : Cond.methodLink RX5 94 yX4_length ∈ gT := gT_in 366 (by decide +kernel) rfl
theorem ml_X5_98 : Cond.methodLink RX5 98 yX5_isSpare ∈ gT := gT_in 367 (by decide +kernel) rfl
theorem ml_X5_122 : Cond.methodLink RX5 122 yX5_settled ∈ gT := gT_in 371 (by decide +kernel) rfl
theorem ml_X5_256 : Cond.methodLink RX5 256 yX3_take ∈ gT := gT_in 375 (by decide +kernel) rfl
theorem ml_X3_37 : Cond.methodLink RX3 37 yX4_lines ∈ gT := gT_in 379 (by decide +kernel) rfl
theorem ml_X3_41 : Cond.methodLink RX3 41 yX4_length ∈ gT := gT_in 380 (by decide +kernel) rfl
theorem ml_X3_54 : Cond.methodLink RX3 54 yX1_keeping ∈ gT := gT_in 381 (by decide +kernel) rfl
theorem ml_X1_31 : Cond.methodLink RX1 31 yX1_isKept ∈ gT := gT_in 384 (by decide +kernel) rfl
theorem ml_X1_35 : Cond.methodLink RX1 35 yJ6_bitCount_0f7a4 ∈ gT := gT_in 387 (by decide +kernel) rfl
theorem ck_J6_265 : Cond.constant RJ6 265 (1431655765) ∈ gT := gT_in 390 (by decide +kernel) rfl
theorem ck_J6_266 : Cond.constant RJ6 266 (858993459) ∈ gT := gT_in 391 (by decide +kernel) rfl
theorem ck_J6_267 : Cond.constant RJ6 267 (252645135) ∈ gT := gT_in 392 (by decide +kernel) rfl
theorem ml_X5_259 : Cond.methodLink RX5 259 yX0_empty ∈ gT := gT_in 393 (by decide +kernel) rfl
theorem ml_X5_262 : Cond.methodLink RX5 262 yX3_run ∈ gT := gT_in 397 (by decide +kernel) rfl
theorem ml_X3_70 : Cond.methodLink RX3 70 yX3_openColumn ∈ gT := gT_in 401 (by decide +kernel) rfl
theorem ml_X3_74 : Cond.methodLink RX3 74 yX3_lay ∈ gT := gT_in 405 (by decide +kernel) rfl
theorem ml_X3_78 : Cond.methodLink RX3 78 yX0_add ∈ gT := gT_in 409 (by decide +kernel) rfl
theorem ml_X3_84 : Cond.methodLink RX3 84 yX3_spread ∈ gT := gT_in 413 (by decide +kernel) rfl
theorem ml_X3_87 : Cond.methodLink RX3 87 yX3_canGoOn ∈ gT := gT_in 416 (by decide +kernel) rfl
theorem ml_X5_266 : Cond.methodLink RX5 266 yX1_anyCells ∈ gT := gT_in 420 (by decide +kernel) rfl
theorem ml_X5_269 : Cond.methodLink RX5 269 yX3_countWith ∈ gT := gT_in 423 (by decide +kernel) rfl
theorem ml_X3_60 : Cond.methodLink RX3 60 yX3_run ∈ gT := gT_in 427 (by decide +kernel) rfl
theorem ml_X5_101 : Cond.methodLink RX5 101 yX4_sorts ∈ gT := gT_in 428 (by decide +kernel) rfl
theorem ml_X4_73 : Cond.methodLink RX4 73 yX4_canBeOf ∈ gT := gT_in 432 (by decide +kernel) rfl
theorem ml_X4_77 : Cond.methodLink RX4 77 yX4_wouldKeep ∈ gT := gT_in 436 (by decide +kernel) rfl
theorem ml_X4_81 : Cond.methodLink RX4 81 yX1_isKept ∈ gT := gT_in 440 (by decide +kernel) rfl
theorem ml_X5_104 : Cond.methodLink RX5 104 yX4_nextTry ∈ gT := gT_in 441 (by decide +kernel) rfl
theorem ml_X4_87 : Cond.methodLink RX4 87 yX4_sorts ∈ gT := gT_in 445 (by decide +kernel) rfl
theorem ml_X4_68 : Cond.methodLink RX4 68 yJ6_bitCount_0f7a4 ∈ gT := gT_in 446 (by decide +kernel) rfl
theorem ml_X4_57 : Cond.methodLink RX4 57 yX4_length ∈ gT := gT_in 447 (by decide +kernel) rfl
theorem ml_X4_90 : Cond.methodLink RX4 90 yX4_worstOfTry ∈ gT := gT_in 448 (by decide +kernel) rfl
theorem ml_X4_94 : Cond.methodLink RX4 94 yJ9_max_7cf53 ∈ gT := gT_in 452 (by decide +kernel) rfl
theorem ml_L_36 : Cond.methodLink RL 36 yX5_as ∈ gT := gT_in 453 (by decide +kernel) rfl
theorem ml_X5_107 : Cond.methodLink RX5 107 yX1_isKind ∈ gT := gT_in 457 (by decide +kernel) rfl
theorem ml_X5_112 : Cond.methodLink RX5 112 yX1_isSuch ∈ gT := gT_in 460 (by decide +kernel) rfl
theorem ml_L_40 : Cond.methodLink RL 40 yX5_cell ∈ gT := gT_in 461 (by decide +kernel) rfl
theorem ml_X5_116 : Cond.methodLink RX5 116 yX4_hasCell ∈ gT := gT_in 465 (by decide +kernel) rfl
theorem ml_X4_54 : Cond.methodLink RX4 54 yX4_cells ∈ gT := gT_in 469 (by decide +kernel) rfl
theorem ml_X5_119 : Cond.methodLink RX5 119 yX4_howMarked ∈ gT := gT_in 470 (by decide +kernel) rfl
theorem ml_X5_126 : Cond.methodLink RX5 126 yX0_blackIn ∈ gT := gT_in 474 (by decide +kernel) rfl
theorem ml_X5_129 : Cond.methodLink RX5 129 yX0_sure ∈ gT := gT_in 478 (by decide +kernel) rfl
theorem ml_X0_39 : Cond.methodLink RX0 39 yX0_blackIn ∈ gT := gT_in 482 (by decide +kernel) rfl
theorem ml_L_44 : Cond.methodLink RL 44 yX5_keeps ∈ gT := gT_in 483 (by decide +kernel) rfl
theorem ml_X5_132 : Cond.methodLink RX5 132 yX4_hasCellsOf ∈ gT := gT_in 487 (by decide +kernel) rfl
theorem ml_X5_135 : Cond.methodLink RX5 135 yX1_isKept ∈ gT := gT_in 491 (by decide +kernel) rfl
theorem ml_L_48 : Cond.methodLink RL 48 yX5_mark ∈ gT := gT_in 492 (by decide +kernel) rfl
theorem ml_X5_139 : Cond.methodLink RX5 139 yX4_setMark ∈ gT := gT_in 496 (by decide +kernel) rfl
theorem ml_L_52 : Cond.methodLink RL 52 yX5_clear ∈ gT := gT_in 500 (by decide +kernel) rfl
theorem ml_X5_143 : Cond.methodLink RX5 143 yX4_markedCells ∈ gT := gT_in 504 (by decide +kernel) rfl
theorem ml_X4_65 : Cond.methodLink RX4 65 yX4_marked ∈ gT := gT_in 508 (by decide +kernel) rfl
theorem ml_X5_146 : Cond.methodLink RX5 146 yX4_unmarkAll ∈ gT := gT_in 512 (by decide +kernel) rfl
theorem ml_L_56 : Cond.methodLink RL 56 yX5_clue ∈ gT := gT_in 513 (by decide +kernel) rfl
theorem ml_X5_149 : Cond.methodLink RX5 149 yX1_allows ∈ gT := gT_in 517 (by decide +kernel) rfl
theorem ml_X1_21 : Cond.methodLink RX1 21 yX1_isKind ∈ gT := gT_in 520 (by decide +kernel) rfl
theorem ml_X1_25 : Cond.methodLink RX1 25 yX1_hasSecond ∈ gT := gT_in 521 (by decide +kernel) rfl
theorem ml_X1_28 : Cond.methodLink RX1 28 yX1_mostSecond ∈ gT := gT_in 522 (by decide +kernel) rfl
theorem ml_X5_152 : Cond.methodLink RX5 152 yX4_setClue ∈ gT := gT_in 523 (by decide +kernel) rfl
theorem ml_L_61 : Cond.methodLink RL 61 yX5_left ∈ gT := gT_in 524 (by decide +kernel) rfl
theorem ml_X5_156 : Cond.methodLink RX5 156 yX4_isBoard ∈ gT := gT_in 528 (by decide +kernel) rfl
theorem ml_L_65 : Cond.methodLink RL 65 yX5_picture ∈ gT := gT_in 532 (by decide +kernel) rfl
theorem ml_X5_161 : Cond.methodLink RX5 161 yX0_at ∈ gT := gT_in 536 (by decide +kernel) rfl
theorem ml_L_69 : Cond.methodLink RL 69 yX5_look ∈ gT := gT_in 540 (by decide +kernel) rfl
theorem ml_X5_164 : Cond.methodLink RX5 164 yX4_marked ∈ gT := gT_in 544 (by decide +kernel) rfl
theorem ml_X5_167 : Cond.methodLink RX5 167 yX0_bestLook ∈ gT := gT_in 545 (by decide +kernel) rfl
theorem ml_L_73 : Cond.methodLink RL 73 yX5_odds ∈ gT := gT_in 549 (by decide +kernel) rfl
theorem ml_X5_171 : Cond.methodLink RX5 171 yX5_commonDivisor ∈ gT := gT_in 553 (by decide +kernel) rfl
theorem ml_L_77 : Cond.methodLink RL 77 yX5_hints ∈ gT := gT_in 556 (by decide +kernel) rfl
theorem ml_X5_174 : Cond.methodLink RX5 174 yX0_holds ∈ gT := gT_in 560 (by decide +kernel) rfl
theorem ml_X0_31 : Cond.methodLink RX0 31 yX0_at ∈ gT := gT_in 564 (by decide +kernel) rfl
theorem ml_X5_180 : Cond.methodLink RX5 180 yX5_fewestHints ∈ gT := gT_in 565 (by decide +kernel) rfl
theorem ml_X5_273 : Cond.methodLink RX5 273 yX5_growHints ∈ gT := gT_in 569 (by decide +kernel) rfl
theorem ml_X5_277 : Cond.methodLink RX5 277 yX0_tells ∈ gT := gT_in 573 (by decide +kernel) rfl
theorem ml_X5_183 : Cond.methodLink RX5 183 yJ6_bitCount_0f7a4 ∈ gT := gT_in 577 (by decide +kernel) rfl
theorem ml_X5_188 : Cond.methodLink RX5 188 yX5_cellAt ∈ gT := gT_in 578 (by decide +kernel) rfl
theorem ml_L_81 : Cond.methodLink RL 81 yX5_one ∈ gT := gT_in 581 (by decide +kernel) rfl
theorem ml_X5_194 : Cond.methodLink RX5 194 yX4_lines ∈ gT := gT_in 585 (by decide +kernel) rfl
theorem ml_X5_197 : Cond.methodLink RX5 197 yX5_changeToOne ∈ gT := gT_in 586 (by decide +kernel) rfl
theorem ml_X5_280 : Cond.methodLink RX5 280 yX1_mostSecond ∈ gT := gT_in 590 (by decide +kernel) rfl
theorem ml_X5_283 : Cond.methodLink RX5 283 yX5_leavesOne ∈ gT := gT_in 591 (by decide +kernel) rfl
theorem ml_X5_289 : Cond.methodLink RX5 289 yX1_keeping ∈ gT := gT_in 595 (by decide +kernel) rfl
theorem ml_X5_286 : Cond.methodLink RX5 286 yX1_hasSecond ∈ gT := gT_in 596 (by decide +kernel) rfl
theorem ml_L_85 : Cond.methodLink RL 85 yX5_see ∈ gT := gT_in 597 (by decide +kernel) rfl
theorem ml_X5_203 : Cond.methodLink RX5 203 yX4_addSeen ∈ gT := gT_in 601 (by decide +kernel) rfl
theorem ml_L_90 : Cond.methodLink RL 90 yX5_forget ∈ gT := gT_in 605 (by decide +kernel) rfl
theorem ml_L_94 : Cond.methodLink RL 94 yX5_games ∈ gT := gT_in 609 (by decide +kernel) rfl
theorem ml_X5_207 : Cond.methodLink RX5 207 yX5_nextSeed ∈ gT := gT_in 613 (by decide +kernel) rfl
theorem ck_X5_292 : Cond.constantLong RX5 292 (1103515245) ∈ gT := gT_in 616 (by decide +kernel) rfl
theorem ck_X5_294 : Cond.constantLong RX5 294 (12345) ∈ gT := gT_in 617 (by decide +kernel) rfl
theorem ck_X5_296 : Cond.constantLong RX5 296 (2147483648) ∈ gT := gT_in 618 (by decide +kernel) rfl
theorem ck_X5_211 : Cond.constantLong RX5 211 (65536) ∈ gT := gT_in 619 (by decide +kernel) rfl
theorem ml_X5_213 : Cond.methodLink RX5 213 yX5_playGame ∈ gT := gT_in 620 (by decide +kernel) rfl
theorem ml_X5_298 : Cond.methodLink RX5 298 yX0_copyFrom ∈ gT := gT_in 624 (by decide +kernel) rfl
theorem ml_X0_28 : Cond.methodLink RX0 28 yX0_empty ∈ gT := gT_in 628 (by decide +kernel) rfl
theorem ml_X0_35 : Cond.methodLink RX0 35 yX0_add ∈ gT := gT_in 629 (by decide +kernel) rfl
theorem ml_X5_301 : Cond.methodLink RX5 301 yX0_keepLike ∈ gT := gT_in 630 (by decide +kernel) rfl
theorem ml_L_99 : Cond.methodLink RL 99 yX5_image ∈ gT := gT_in 634 (by decide +kernel) rfl
theorem ml_L_103 : Cond.methodLink RL 103 yX5_restore ∈ gT := gT_in 638 (by decide +kernel) rfl
theorem ml_L_107 : Cond.methodLink RL 107 yX5_count ∈ gT := gT_in 642 (by decide +kernel) rfl
theorem ml_X5_228 : Cond.methodLink RX5 228 yX5_sureCells ∈ gT := gT_in 646 (by decide +kernel) rfl
theorem ml_L_111 : Cond.methodLink RL 111 yX5_digest ∈ gT := gT_in 650 (by decide +kernel) rfl
theorem ck_X5_231 : Cond.constantLong RX5 231 (1301) ∈ gT := gT_in 654 (by decide +kernel) rfl
theorem ck_X5_233 : Cond.constantLong RX5 233 (31) ∈ gT := gT_in 655 (by decide +kernel) rfl
theorem ml_X5_235 : Cond.methodLink RX5 235 yX5_line ∈ gT := gT_in 656 (by decide +kernel) rfl
theorem ml_X5_238 : Cond.methodLink RX5 238 yX5_cell ∈ gT := gT_in 657 (by decide +kernel) rfl
theorem ml_X5_241 : Cond.methodLink RX5 241 yX5_left ∈ gT := gT_in 658 (by decide +kernel) rfl
theorem ml_X5_244 : Cond.methodLink RX5 244 yX5_picture ∈ gT := gT_in 659 (by decide +kernel) rfl
theorem ml_X5_247 : Cond.methodLink RX5 247 yX5_look ∈ gT := gT_in 660 (by decide +kernel) rfl
theorem ml_X5_250 : Cond.methodLink RX5 250 yX2_codeAt ∈ gT := gT_in 661 (by decide +kernel) rfl
theorem ml_X5_253 : Cond.methodLink RX5 253 yX5_count ∈ gT := gT_in 662 (by decide +kernel) rfl
theorem ml_L_12 : Cond.methodLink RL 12 yX6_init ∈ gT := gT_in 665 (by decide +kernel) rfl
theorem fl_X6_7 : gF RX6 7 5 0 := ⟨RX6, TX6, 41, rfl, by decide, uw_X6, gT_in 669 (by decide +kernel) rfl⟩
theorem fl_X6_82 : gF RX6 82 5 1 := ⟨RX6, TX6, 41, rfl, by decide, uw_X6, gT_in 670 (by decide +kernel) rfl⟩
theorem fp_X6_82 : gFp RX6 82 5 1 .int := ⟨RX6, TX6, 41, tyX6, rfl, by decide, uw_X6, gT_in 670 (by decide +kernel) rfl, tyX6_ok, nmX6, rfl, (by decide +kernel)⟩
theorem fl_X6_85 : gF RX6 85 5 2 := ⟨RX6, TX6, 41, rfl, by decide, uw_X6, gT_in 671 (by decide +kernel) rfl⟩
theorem fp_X6_85 : gFp RX6 85 5 2 .int := ⟨RX6, TX6, 41, tyX6, rfl, by decide, uw_X6, gT_in 671 (by decide +kernel) rfl, tyX6_ok, nmX6, rfl, (by decide +kernel)⟩
theorem fl_X6_99 : gF RX6 99 5 3 := ⟨RX6, TX6, 41, rfl, by decide, uw_X6, gT_in 672 (by decide +kernel) rfl⟩
theorem fp_X6_99 : gFp RX6 99 5 3 .int := ⟨RX6, TX6, 41, tyX6, rfl, by decide, uw_X6, gT_in 672 (by decide +kernel) rfl, tyX6_ok, nmX6, rfl, (by decide +kernel)⟩
theorem fl_X6_96 : gF RX6 96 5 4 := ⟨RX6, TX6, 41, rfl, by decide, uw_X6, gT_in 673 (by decide +kernel) rfl⟩
theorem fp_X6_96 : gFp RX6 96 5 4 .int := ⟨RX6, TX6, 41, tyX6, rfl, by decide, uw_X6, gT_in 673 (by decide +kernel) rfl, tyX6_ok, nmX6, rfl, (by decide +kernel)⟩
theorem fl_X6_102 : gF RX6 102 5 5 := ⟨RX6, TX6, 41, rfl, by decide, uw_X6, gT_in 674 (by decide +kernel) rfl⟩
theorem fp_X6_102 : gFp RX6 102 5 5 .int := ⟨RX6, TX6, 41, tyX6, rfl, by decide, uw_X6, gT_in 674 (by decide +kernel) rfl, tyX6_ok, nmX6, rfl, (by decide +kernel)⟩
theorem fl_X6_13 : gF RX6 13 5 6 := ⟨RX6, TX6, 41, rfl, by decide, uw_X6, gT_in 675 (by decide +kernel) rfl⟩
theorem fl_X6_16 : gF RX6 16 5 7 := ⟨RX6, TX6, 41, rfl, by decide, uw_X6, gT_in 676 (by decide +kernel) rfl⟩
theorem fl_X6_19 : gF RX6 19 5 8 := ⟨RX6, TX6, 41, rfl, by decide, uw_X6, gT_in 677 (by decide +kernel) rfl⟩
theorem fl_X6_141 : gF RX6 141 5 9 := ⟨RX6, TX6, 41, rfl, by decide, uw_X6, gT_in 678 (by decide +kernel) rfl⟩
theorem fp_X6_141 : gFp RX6 141 5 9 .int := ⟨RX6, TX6, 41, tyX6, rfl, by decide, uw_X6, gT_in 678 (by decide +kernel) rfl, tyX6_ok, nmX6, rfl, (by decide +kernel)⟩
theorem fl_X6_144 : gF RX6 144 5 10 := ⟨RX6, TX6, 41, rfl, by decide, uw_X6, gT_in 679 (by decide +kernel) rfl⟩
theorem fp_X6_144 : gFp RX6 144 5 10 .int := ⟨RX6, TX6, 41, tyX6, rfl, by decide, uw_X6, gT_in 679 (by decide +kernel) rfl, tyX6_ok, nmX6, rfl, (by decide +kernel)⟩
theorem fl_X6_154 : gF RX6 154 5 11 := ⟨RX6, TX6, 41, rfl, by decide, uw_X6, gT_in 680 (by decide +kernel) rfl⟩
theorem fp_X6_154 : gFp RX6 154 5 11 .int := ⟨RX6, TX6, 41, tyX6, rfl, by decide, uw_X6, gT_in 680 (by decide +kernel) rfl, tyX6_ok, nmX6, rfl, (by decide +kernel)⟩
theorem fl_X6_22 : gF RX6 22 5 12 := ⟨RX6, TX6, 41, rfl, by decide, uw_X6, gT_in 681 (by decide +kernel) rfl⟩
theorem fl_X6_25 : gF RX6 25 5 13 := ⟨RX6, TX6, 41, rfl, by decide, uw_X6, gT_in 682 (by decide +kernel) rfl⟩
theorem fl_X6_28 : gF RX6 28 5 14 := ⟨RX6, TX6, 41, rfl, by decide, uw_X6, gT_in 683 (by decide +kernel) rfl⟩
theorem fl_X6_31 : gF RX6 31 5 15 := ⟨RX6, TX6, 41, rfl, by decide, uw_X6, gT_in 684 (by decide +kernel) rfl⟩
theorem fl_X6_157 : gF RX6 157 5 16 := ⟨RX6, TX6, 41, rfl, by decide, uw_X6, gT_in 685 (by decide +kernel) rfl⟩
theorem fp_X6_157 : gFp RX6 157 5 16 .int := ⟨RX6, TX6, 41, tyX6, rfl, by decide, uw_X6, gT_in 685 (by decide +kernel) rfl, tyX6_ok, nmX6, rfl, (by decide +kernel)⟩
theorem fl_X6_160 : gF RX6 160 5 17 := ⟨RX6, TX6, 41, rfl, by decide, uw_X6, gT_in 686 (by decide +kernel) rfl⟩
theorem fp_X6_160 : gFp RX6 160 5 17 .int := ⟨RX6, TX6, 41, tyX6, rfl, by decide, uw_X6, gT_in 686 (by decide +kernel) rfl, tyX6_ok, nmX6, rfl, (by decide +kernel)⟩
theorem fl_X6_163 : gF RX6 163 5 18 := ⟨RX6, TX6, 41, rfl, by decide, uw_X6, gT_in 687 (by decide +kernel) rfl⟩
theorem fp_X6_163 : gFp RX6 163 5 18 .int := ⟨RX6, TX6, 41, tyX6, rfl, by decide, uw_X6, gT_in 687 (by decide +kernel) rfl, tyX6_ok, nmX6, rfl, (by decide +kernel)⟩
theorem fl_X6_166 : gF RX6 166 5 19 := ⟨RX6, TX6, 41, rfl, by decide, uw_X6, gT_in 688 (by decide +kernel) rfl⟩
theorem fp_X6_166 : gFp RX6 166 5 19 .int := ⟨RX6, TX6, 41, tyX6, rfl, by decide, uw_X6, gT_in 688 (by decide +kernel) rfl, tyX6_ok, nmX6, rfl, (by decide +kernel)⟩
theorem fl_X6_72 : gF RX6 72 5 20 := ⟨RX6, TX6, 41, rfl, by decide, uw_X6, gT_in 689 (by decide +kernel) rfl⟩
theorem fp_X6_72 : gFp RX6 72 5 20 .boolean := ⟨RX6, TX6, 41, tyX6, rfl, by decide, uw_X6, gT_in 689 (by decide +kernel) rfl, tyX6_ok, nmX6, rfl, (by decide +kernel)⟩
theorem fl_X6_34 : gF RX6 34 5 21 := ⟨RX6, TX6, 41, rfl, by decide, uw_X6, gT_in 690 (by decide +kernel) rfl⟩
theorem fl_X6_201 : gF RX6 201 5 22 := ⟨RX6, TX6, 41, rfl, by decide, uw_X6, gT_in 691 (by decide +kernel) rfl⟩
theorem fp_X6_201 : gFp RX6 201 5 22 .int := ⟨RX6, TX6, 41, tyX6, rfl, by decide, uw_X6, gT_in 691 (by decide +kernel) rfl, tyX6_ok, nmX6, rfl, (by decide +kernel)⟩
theorem fl_X6_38 : gF RX6 38 5 23 := ⟨RX6, TX6, 41, rfl, by decide, uw_X6, gT_in 692 (by decide +kernel) rfl⟩
theorem fl_X6_41 : gF RX6 41 5 24 := ⟨RX6, TX6, 41, rfl, by decide, uw_X6, gT_in 693 (by decide +kernel) rfl⟩
theorem fl_X6_189 : gF RX6 189 5 25 := ⟨RX6, TX6, 41, rfl, by decide, uw_X6, gT_in 694 (by decide +kernel) rfl⟩
theorem fp_X6_189 : gFp RX6 189 5 25 .int := ⟨RX6, TX6, 41, tyX6, rfl, by decide, uw_X6, gT_in 694 (by decide +kernel) rfl, tyX6_ok, nmX6, rfl, (by decide +kernel)⟩
theorem fl_X6_288 : gF RX6 288 5 26 := ⟨RX6, TX6, 41, rfl, by decide, uw_X6, gT_in 695 (by decide +kernel) rfl⟩
theorem fp_X6_288 : gFp RX6 288 5 26 .int := ⟨RX6, TX6, 41, tyX6, rfl, by decide, uw_X6, gT_in 695 (by decide +kernel) rfl, tyX6_ok, nmX6, rfl, (by decide +kernel)⟩
theorem fl_X6_300 : gF RX6 300 5 27 := ⟨RX6, TX6, 41, rfl, by decide, uw_X6, gT_in 696 (by decide +kernel) rfl⟩
theorem fp_X6_300 : gFp RX6 300 5 27 .int := ⟨RX6, TX6, 41, tyX6, rfl, by decide, uw_X6, gT_in 696 (by decide +kernel) rfl, tyX6_ok, nmX6, rfl, (by decide +kernel)⟩
theorem fl_X6_151 : gF RX6 151 5 28 := ⟨RX6, TX6, 41, rfl, by decide, uw_X6, gT_in 697 (by decide +kernel) rfl⟩
theorem fp_X6_151 : gFp RX6 151 5 28 .int := ⟨RX6, TX6, 41, tyX6, rfl, by decide, uw_X6, gT_in 697 (by decide +kernel) rfl, tyX6_ok, nmX6, rfl, (by decide +kernel)⟩
theorem fl_X6_44 : gF RX6 44 5 29 := ⟨RX6, TX6, 41, rfl, by decide, uw_X6, gT_in 698 (by decide +kernel) rfl⟩
theorem fl_X6_311 : gF RX6 311 5 30 := ⟨RX6, TX6, 41, rfl, by decide, uw_X6, gT_in 699 (by decide +kernel) rfl⟩
theorem fp_X6_311 : gFp RX6 311 5 30 .int := ⟨RX6, TX6, 41, tyX6, rfl, by decide, uw_X6, gT_in 699 (by decide +kernel) rfl, tyX6_ok, nmX6, rfl, (by decide +kernel)⟩
theorem fl_X6_47 : gF RX6 47 5 31 := ⟨RX6, TX6, 41, rfl, by decide, uw_X6, gT_in 700 (by decide +kernel) rfl⟩
theorem fl_X6_50 : gF RX6 50 5 32 := ⟨RX6, TX6, 41, rfl, by decide, uw_X6, gT_in 701 (by decide +kernel) rfl⟩
theorem fl_X6_68 : gF RX6 68 5 33 := ⟨RX6, TX6, 41, rfl, by decide, uw_X6, gT_in 702 (by decide +kernel) rfl⟩
theorem fp_X6_68 : gFp RX6 68 5 33 .int := ⟨RX6, TX6, 41, tyX6, rfl, by decide, uw_X6, gT_in 702 (by decide +kernel) rfl, tyX6_ok, nmX6, rfl, (by decide +kernel)⟩
theorem fl_X6_332 : gF RX6 332 5 34 := ⟨RX6, TX6, 41, rfl, by decide, uw_X6, gT_in 703 (by decide +kernel) rfl⟩
theorem fp_X6_332 : gFp RX6 332 5 34 .int := ⟨RX6, TX6, 41, tyX6, rfl, by decide, uw_X6, gT_in 703 (by decide +kernel) rfl, tyX6_ok, nmX6, rfl, (by decide +kernel)⟩
theorem fl_X6_53 : gF RX6 53 5 35 := ⟨RX6, TX6, 41, rfl, by decide, uw_X6, gT_in 704 (by decide +kernel) rfl⟩
theorem fl_X6_56 : gF RX6 56 5 36 := ⟨RX6, TX6, 41, rfl, by decide, uw_X6, gT_in 705 (by decide +kernel) rfl⟩
theorem fl_X6_59 : gF RX6 59 5 37 := ⟨RX6, TX6, 41, rfl, by decide, uw_X6, gT_in 706 (by decide +kernel) rfl⟩
theorem fl_X6_62 : gF RX6 62 5 38 := ⟨RX6, TX6, 41, rfl, by decide, uw_X6, gT_in 707 (by decide +kernel) rfl⟩
theorem fl_X6_65 : gF RX6 65 5 39 := ⟨RX6, TX6, 41, rfl, by decide, uw_X6, gT_in 708 (by decide +kernel) rfl⟩
theorem fl_X6_343 : gF RX6 343 5 40 := ⟨RX6, TX6, 41, rfl, by decide, uw_X6, gT_in 709 (by decide +kernel) rfl⟩
theorem fp_X6_343 : gFp RX6 343 5 40 .long := ⟨RX6, TX6, 41, tyX6, rfl, by decide, uw_X6, gT_in 709 (by decide +kernel) rfl, tyX6_ok, nmX6, rfl, (by decide +kernel)⟩
theorem ml_L_17 : Cond.methodLink RL 17 yX6_letter ∈ gT := gT_in 794 (by decide +kernel) rfl
theorem ck_X6_76 : Cond.constantLong RX6 76 (126) ∈ gT := gT_in 798 (by decide +kernel) rfl
theorem ml_X6_78 : Cond.methodLink RX6 78 yX6_in ∈ gT := gT_in 799 (by decide +kernel) rfl
theorem ml_L_22 : Cond.methodLink RL 22 yX6_blank ∈ gT := gT_in 802 (by decide +kernel) rfl
theorem ml_L_26 : Cond.methodLink RL 26 yX6_fault ∈ gT := gT_in 806 (by decide +kernel) rfl
theorem ml_X6_138 : Cond.methodLink RX6 138 yX6_faultOf ∈ gT := gT_in 810 (by decide +kernel) rfl
theorem ml_X6_135 : Cond.methodLink RX6 135 yX6_isGood ∈ gT := gT_in 814 (by decide +kernel) rfl
theorem ck_X6_119 : Cond.constantLong RX6 119 (50) ∈ gT := gT_in 818 (by decide +kernel) rfl
theorem ck_X6_121 : Cond.constantLong RX6 121 (52) ∈ gT := gT_in 819 (by decide +kernel) rfl
theorem ml_X6_123 : Cond.methodLink RX6 123 yX6_isKindLetter ∈ gT := gT_in 820 (by decide +kernel) rfl
theorem ml_X6_92 : Cond.methodLink RX6 92 yX6_kindBy ∈ gT := gT_in 824 (by decide +kernel) rfl
theorem ml_X6_126 : Cond.methodLink RX6 126 yX6_isFirstLetter ∈ gT := gT_in 827 (by decide +kernel) rfl
theorem ml_X6_105 : Cond.methodLink RX6 105 yX6_isDouble ∈ gT := gT_in 831 (by decide +kernel) rfl
theorem ml_X6_109 : Cond.methodLink RX6 109 yX6_readCells ∈ gT := gT_in 834 (by decide +kernel) rfl
theorem ml_X6_88 : Cond.methodLink RX6 88 yX6_readHigh ∈ gT := gT_in 838 (by decide +kernel) rfl
theorem ml_X6_129 : Cond.methodLink RX6 129 yX6_isSecondLetter ∈ gT := gT_in 842 (by decide +kernel) rfl
theorem ml_X6_112 : Cond.methodLink RX6 112 yX6_mostSecond ∈ gT := gT_in 846 (by decide +kernel) rfl
theorem ml_X6_132 : Cond.methodLink RX6 132 yX6_isBehindLetter ∈ gT := gT_in 849 (by decide +kernel) rfl
theorem ml_X6_116 : Cond.methodLink RX6 116 yX6_readLines ∈ gT := gT_in 853 (by decide +kernel) rfl
theorem ml_L_30 : Cond.methodLink RL 30 yX6_board ∈ gT := gT_in 857 (by decide +kernel) rfl
theorem ml_X6_147 : Cond.methodLink RX6 147 yX6_copy ∈ gT := gT_in 861 (by decide +kernel) rfl
theorem ml_L_47 : Cond.methodLink RL 47 yX6_keeps ∈ gT := gT_in 864 (by decide +kernel) rfl
theorem ml_X6_180 : Cond.methodLink RX6 180 yX6_isLine ∈ gT := gT_in 868 (by decide +kernel) rfl
theorem ml_X6_183 : Cond.methodLink RX6 183 yX6_cellsOf ∈ gT := gT_in 872 (by decide +kernel) rfl
theorem ml_X6_186 : Cond.methodLink RX6 186 yX6_keepsOf ∈ gT := gT_in 876 (by decide +kernel) rfl
theorem ml_X6_176 : Cond.methodLink RX6 176 yX6_isKept ∈ gT := gT_in 880 (by decide +kernel) rfl
theorem ml_X6_169 : Cond.methodLink RX6 169 yX6_layRuns ∈ gT := gT_in 884 (by decide +kernel) rfl
theorem ml_X6_173 : Cond.methodLink RX6 173 yX6_ones ∈ gT := gT_in 888 (by decide +kernel) rfl
theorem ml_L_64 : Cond.methodLink RL 64 yX6_left ∈ gT := gT_in 891 (by decide +kernel) rfl
theorem ml_X6_223 : Cond.methodLink RX6 223 yX6_lacks ∈ gT := gT_in 895 (by decide +kernel) rfl
theorem ml_X6_227 : Cond.methodLink RX6 227 yX6_leftOf ∈ gT := gT_in 899 (by decide +kernel) rfl
theorem ml_X6_220 : Cond.methodLink RX6 220 yX6_freshen ∈ gT := gT_in 903 (by decide +kernel) rfl
theorem ml_X6_211 : Cond.methodLink RX6 211 yX6_layFit ∈ gT := gT_in 907 (by decide +kernel) rfl
theorem ml_X6_198 : Cond.methodLink RX6 198 yX6_layTable ∈ gT := gT_in 911 (by decide +kernel) rfl
theorem ml_X6_204 : Cond.methodLink RX6 204 yX6_marked ∈ gT := gT_in 915 (by decide +kernel) rfl
theorem ml_X6_207 : Cond.methodLink RX6 207 yX6_isFitting ∈ gT := gT_in 919 (by decide +kernel) rfl
theorem ml_X6_192 : Cond.methodLink RX6 192 yX6_rowOf ∈ gT := gT_in 923 (by decide +kernel) rfl
theorem ml_X6_195 : Cond.methodLink RX6 195 yX6_columnOf ∈ gT := gT_in 927 (by decide +kernel) rfl
theorem ml_L_68 : Cond.methodLink RL 68 yX6_picture ∈ gT := gT_in 931 (by decide +kernel) rfl
theorem ml_X6_233 : Cond.methodLink RX6 233 yX6_pictureOf ∈ gT := gT_in 935 (by decide +kernel) rfl
theorem ml_X6_230 : Cond.methodLink RX6 230 yX6_soManieth ∈ gT := gT_in 939 (by decide +kernel) rfl
theorem ml_X6_217 : Cond.methodLink RX6 217 yX6_nextFit ∈ gT := gT_in 943 (by decide +kernel) rfl
theorem ml_X6_214 : Cond.methodLink RX6 214 yX6_isFit ∈ gT := gT_in 947 (by decide +kernel) rfl
theorem ml_L_43 : Cond.methodLink RL 43 yX6_cell ∈ gT := gT_in 951 (by decide +kernel) rfl
theorem ml_X6_242 : Cond.methodLink RX6 242 yX6_isCell ∈ gT := gT_in 955 (by decide +kernel) rfl
theorem ml_X6_245 : Cond.methodLink RX6 245 yX6_tellCell ∈ gT := gT_in 959 (by decide +kernel) rfl
theorem ml_X6_236 : Cond.methodLink RX6 236 yX6_blackOf ∈ gT := gT_in 963 (by decide +kernel) rfl
theorem ml_X6_239 : Cond.methodLink RX6 239 yX6_sureOf ∈ gT := gT_in 967 (by decide +kernel) rfl
theorem ml_L_35 : Cond.methodLink RL 35 yX6_line ∈ gT := gT_in 971 (by decide +kernel) rfl
theorem ml_X6_257 : Cond.methodLink RX6 257 yX6_tellLine ∈ gT := gT_in 975 (by decide +kernel) rfl
theorem ml_X6_248 : Cond.methodLink RX6 248 yX6_spareOf ∈ gT := gT_in 979 (by decide +kernel) rfl
theorem ml_X6_251 : Cond.methodLink RX6 251 yX6_sortsOf ∈ gT := gT_in 983 (by decide +kernel) rfl
theorem ml_X6_306 : Cond.methodLink RX6 306 yX6_keptBy ∈ gT := gT_in 987 (by decide +kernel) rfl
theorem ml_X6_254 : Cond.methodLink RX6 254 yX6_tryOf ∈ gT := gT_in 991 (by decide +kernel) rfl
theorem ml_L_39 : Cond.methodLink RL 39 yX6_as ∈ gT := gT_in 995 (by decide +kernel) rfl
theorem ck_X6_260 : Cond.constantLong RX6 260 (4) ∈ gT := gT_in 999 (by decide +kernel) rfl
theorem ml_L_51 : Cond.methodLink RL 51 yX6_mark ∈ gT := gT_in 1000 (by decide +kernel) rfl
theorem ck_X6_262 : Cond.constantLong RX6 262 (2) ∈ gT := gT_in 1004 (by decide +kernel) rfl
theorem ml_L_55 : Cond.methodLink RL 55 yX6_clear ∈ gT := gT_in 1005 (by decide +kernel) rfl
theorem ml_X6_264 : Cond.methodLink RX6 264 yX6_markedMany ∈ gT := gT_in 1009 (by decide +kernel) rfl
theorem ml_L_60 : Cond.methodLink RL 60 yX6_clue ∈ gT := gT_in 1013 (by decide +kernel) rfl
theorem ml_L_72 : Cond.methodLink RL 72 yX6_look ∈ gT := gT_in 1017 (by decide +kernel) rfl
theorem ml_X6_272 : Cond.methodLink RX6 272 yX6_lookOf ∈ gT := gT_in 1021 (by decide +kernel) rfl
theorem ml_X6_268 : Cond.methodLink RX6 268 yX6_bestCell ∈ gT := gT_in 1025 (by decide +kernel) rfl
theorem ck_X6_267 : Cond.constant RX6 267 (100000) ∈ gT := gT_in 1029 (by decide +kernel) rfl
theorem ml_L_76 : Cond.methodLink RL 76 yX6_odds ∈ gT := gT_in 1030 (by decide +kernel) rfl
theorem ml_X6_275 : Cond.methodLink RX6 275 yX6_oddsOf ∈ gT := gT_in 1034 (by decide +kernel) rfl
theorem ml_L_80 : Cond.methodLink RL 80 yX6_hints ∈ gT := gT_in 1038 (by decide +kernel) rfl
theorem ck_X6_286 : Cond.constantLong RX6 286 (3) ∈ gT := gT_in 1042 (by decide +kernel) rfl
theorem ml_X6_291 : Cond.methodLink RX6 291 yX6_hintsOf ∈ gT := gT_in 1043 (by decide +kernel) rfl
theorem ml_X6_282 : Cond.methodLink RX6 282 yX6_telling ∈ gT := gT_in 1047 (by decide +kernel) rfl
theorem ml_X6_278 : Cond.methodLink RX6 278 yX6_isTelling ∈ gT := gT_in 1051 (by decide +kernel) rfl
theorem ml_L_84 : Cond.methodLink RL 84 yX6_one ∈ gT := gT_in 1055 (by decide +kernel) rfl
theorem ml_X6_303 : Cond.methodLink RX6 303 yX6_oneOfAll ∈ gT := gT_in 1059 (by decide +kernel) rfl
theorem ml_X6_297 : Cond.methodLink RX6 297 yX6_oneOf ∈ gT := gT_in 1063 (by decide +kernel) rfl
theorem ml_X6_294 : Cond.methodLink RX6 294 yX6_isOneBy ∈ gT := gT_in 1067 (by decide +kernel) rfl
theorem ml_L_89 : Cond.methodLink RL 89 yX6_see ∈ gT := gT_in 1071 (by decide +kernel) rfl
theorem ml_L_93 : Cond.methodLink RL 93 yX6_forget ∈ gT := gT_in 1075 (by decide +kernel) rfl
theorem ml_L_98 : Cond.methodLink RL 98 yX6_games ∈ gT := gT_in 1079 (by decide +kernel) rfl
theorem ck_X6_325 : Cond.constantLong RX6 325 (10) ∈ gT := gT_in 1083 (by decide +kernel) rfl
theorem ck_X6_327 : Cond.constantLong RX6 327 (200) ∈ gT := gT_in 1084 (by decide +kernel) rfl
theorem ml_X6_329 : Cond.methodLink RX6 329 yX6_gameOne ∈ gT := gT_in 1085 (by decide +kernel) rfl
theorem ml_X6_319 : Cond.methodLink RX6 319 yX6_laySome ∈ gT := gT_in 1089 (by decide +kernel) rfl
theorem ml_X6_322 : Cond.methodLink RX6 322 yX6_draw ∈ gT := gT_in 1093 (by decide +kernel) rfl
theorem ck_X6_309 : Cond.constantLong RX6 309 (1103515245) ∈ gT := gT_in 1097 (by decide +kernel) rfl
theorem ck_X6_314 : Cond.constantLong RX6 314 (12345) ∈ gT := gT_in 1098 (by decide +kernel) rfl
theorem ck_X6_316 : Cond.constantLong RX6 316 (2147483647) ∈ gT := gT_in 1099 (by decide +kernel) rfl
theorem ck_X6_318 : Cond.constant RX6 318 (65536) ∈ gT := gT_in 1100 (by decide +kernel) rfl
theorem ml_L_102 : Cond.methodLink RL 102 yX6_image ∈ gT := gT_in 1101 (by decide +kernel) rfl
theorem ml_L_106 : Cond.methodLink RL 106 yX6_restore ∈ gT := gT_in 1105 (by decide +kernel) rfl
theorem ml_L_110 : Cond.methodLink RL 110 yX6_count ∈ gT := gT_in 1109 (by decide +kernel) rfl
theorem ml_X6_338 : Cond.methodLink RX6 338 yX6_countOf ∈ gT := gT_in 1113 (by decide +kernel) rfl
theorem ml_X6_335 : Cond.methodLink RX6 335 yX6_sureMany ∈ gT := gT_in 1117 (by decide +kernel) rfl
theorem ml_L_115 : Cond.methodLink RL 115 yX6_digest ∈ gT := gT_in 1121 (by decide +kernel) rfl
theorem ck_X6_351 : Cond.constantLong RX6 351 (1301) ∈ gT := gT_in 1125 (by decide +kernel) rfl
theorem ml_X6_353 : Cond.methodLink RX6 353 yX6_sayLine ∈ gT := gT_in 1126 (by decide +kernel) rfl
theorem ml_X6_347 : Cond.methodLink RX6 347 yX6_say ∈ gT := gT_in 1130 (by decide +kernel) rfl
theorem ck_X6_341 : Cond.constantLong RX6 341 (31) ∈ gT := gT_in 1134 (by decide +kernel) rfl
theorem fk_J0_15 : Cond.fieldLink RJ0 15 "java/lang/String" "coder" "B" ∈ gT := gT_in 1135 (by decide +kernel) rfl
theorem fk_J0_9 : Cond.fieldLink RJ0 9 "java/lang/String" "value" "[B" ∈ gT := gT_in 1136 (by decide +kernel) rfl
theorem mm_st : Cond.static Lib.Math.max.name ∈ gT := gT_in 139 (by decide +kernel) rfl
theorem mm_co : Cond.code Lib.Math.max.name Lib.Math.max.code 2 (some .int) ∈ gT := gT_in 140 (by decide +kernel) rfl
theorem mi_st : Cond.static Lib.Math.min.name ∈ gT := gT_in 272 (by decide +kernel) rfl
theorem mi_co : Cond.code Lib.Math.min.name Lib.Math.min.code 2 (some .int) ∈ gT := gT_in 273 (by decide +kernel) rfl
theorem mm_in : Cond.initialized "java/lang/Math" ∈ gT := gT_in 6 (by decide +kernel) rfl
theorem yv_X0_empty : gYv yX0_empty cX0_empty 2 none 0 := ⟨⟨ini_X0, gT_in 396 (by decide +kernel) rfl, by decide, by decide, (by decide +kernel)⟩, gT_in 394 (by decide +kernel) rfl, gT_in 395 (by decide +kernel) rfl⟩
theorem yv_X0_add : gYv yX0_add cX0_add 3 none 1 := ⟨⟨ini_X0, gT_in 412 (by decide +kernel) rfl, by decide, by decide, (by decide +kernel)⟩, gT_in 410 (by decide +kernel) rfl, gT_in 411 (by decide +kernel) rfl⟩
theorem yv_X0_copyFrom : gYv yX0_copyFrom cX0_copyFrom 3 none 1 := ⟨⟨ini_X0, gT_in 627 (by decide +kernel) rfl, by decide, by decide, (by decide +kernel)⟩, gT_in 625 (by decide +kernel) rfl, gT_in 626 (by decide +kernel) rfl⟩
theorem yv_X0_at : gYv yX0_at cX0_at 2 (some .int) 1 := ⟨⟨ini_X0, gT_in 539 (by decide +kernel) rfl, by decide, by decide, (by decide +kernel)⟩, gT_in 537 (by decide +kernel) rfl, gT_in 538 (by decide +kernel) rfl⟩
theorem yv_X0_blackIn : gYv yX0_blackIn cX0_blackIn 2 (some .int) 1 := ⟨⟨ini_X0, gT_in 477 (by decide +kernel) rfl, by decide, by decide, (by decide +kernel)⟩, gT_in 475 (by decide +kernel) rfl, gT_in 476 (by decide +kernel) rfl⟩
theorem yv_X0_sure : gYv yX0_sure cX0_sure 3 (some .int) 1 := ⟨⟨ini_X0, gT_in 481 (by decide +kernel) rfl, by decide, by decide, (by decide +kernel)⟩, gT_in 479 (by decide +kernel) rfl, gT_in 480 (by decide +kernel) rfl⟩
theorem yv_X0_holds : gYv yX0_holds cX0_holds 3 (some .boolean) 1 := ⟨⟨ini_X0, gT_in 563 (by decide +kernel) rfl, by decide, by decide, (by decide +kernel)⟩, gT_in 561 (by decide +kernel) rfl, gT_in 562 (by decide +kernel) rfl⟩
theorem yv_X0_bestLook : gYv yX0_bestLook cX0_bestLook 7 (some .int) 2 := ⟨⟨ini_X0, gT_in 548 (by decide +kernel) rfl, by decide, by decide, (by decide +kernel)⟩, gT_in 546 (by decide +kernel) rfl, gT_in 547 (by decide +kernel) rfl⟩
theorem yv_X0_keepLike : gYv yX0_keepLike cX0_keepLike 6 none 2 := ⟨⟨ini_X0, gT_in 633 (by decide +kernel) rfl, by decide, by decide, (by decide +kernel)⟩, gT_in 631 (by decide +kernel) rfl, gT_in 632 (by decide +kernel) rfl⟩
theorem yv_X0_tells : gYv yX0_tells cX0_tells 5 (some .boolean) 2 := ⟨⟨ini_X0, gT_in 576 (by decide +kernel) rfl, by decide, by decide, (by decide +kernel)⟩, gT_in 574 (by decide +kernel) rfl, gT_in 575 (by decide +kernel) rfl⟩
theorem ys_X1_isKind : gYs yX1_isKind cX1_isKind 1 (some .boolean) 1 := ⟨⟨ini_X1, gT_in 459 (by decide +kernel) rfl, by decide, by decide, (by decide +kernel)⟩, gT_in 458 (by decide +kernel) rfl⟩
theorem ys_X1_isSuch : gYs yX1_isSuch cX1_isSuch 2 (some .boolean) 2 := ⟨⟨ini_X1, gT_in 331 (by decide +kernel) rfl, by decide, by decide, (by decide +kernel)⟩, gT_in 330 (by decide +kernel) rfl⟩
theorem ys_X1_hasSecond : gYs yX1_hasSecond cX1_hasSecond 1 (some .boolean) 1 := ⟨⟨ini_X1, gT_in 328 (by decide +kernel) rfl, by decide, by decide, (by decide +kernel)⟩, gT_in 327 (by decide +kernel) rfl⟩
theorem ys_X1_mostSecond : gYs yX1_mostSecond cX1_mostSecond 2 (some .int) 2 := ⟨⟨ini_X1, gT_in 334 (by decide +kernel) rfl, by decide, by decide, (by decide +kernel)⟩, gT_in 333 (by decide +kernel) rfl⟩
theorem ys_X1_allows : gYs yX1_allows cX1_allows 4 (some .boolean) 4 := ⟨⟨ini_X1, gT_in 519 (by decide +kernel) rfl, by decide, by decide, (by decide +kernel)⟩, gT_in 518 (by decide +kernel) rfl⟩
theorem ys_X1_anyCells : gYs yX1_anyCells cX1_anyCells 1 (some .int) 1 := ⟨⟨ini_X1, gT_in 422 (by decide +kernel) rfl, by decide, by decide, (by decide +kernel)⟩, gT_in 421 (by decide +kernel) rfl⟩
theorem ys_X1_keeping : gYs yX1_keeping cX1_keeping 6 (some .int) 4 := ⟨⟨ini_X1, gT_in 383 (by decide +kernel) rfl, by decide, by decide, (by decide +kernel)⟩, gT_in 382 (by decide +kernel) rfl⟩
theorem ys_X1_isKept : gYs yX1_isKept cX1_isKept 10 (some .boolean) 4 := ⟨⟨ini_X1, gT_in 386 (by decide +kernel) rfl, by decide, by decide, (by decide +kernel)⟩, gT_in 385 (by decide +kernel) rfl⟩
theorem yv_X2_add : gYv yX2_add cX2_add 2 none 1 := ⟨⟨ini_X2, gT_in 196 (by decide +kernel) rfl, by decide, by decide, (by decide +kernel)⟩, gT_in 194 (by decide +kernel) rfl, gT_in 195 (by decide +kernel) rfl⟩
theorem yv_X2_codeAt : gYv yX2_codeAt cX2_codeAt 2 (some .int) 1 := ⟨⟨ini_X2, gT_in 224 (by decide +kernel) rfl, by decide, by decide, (by decide +kernel)⟩, gT_in 222 (by decide +kernel) rfl, gT_in 223 (by decide +kernel) rfl⟩
theorem yv_X2_readInto : gYv yX2_readInto cX2_readInto 6 (some .boolean) 1 := ⟨⟨ini_X2, gT_in 208 (by decide +kernel) rfl, by decide, by decide, (by decide +kernel)⟩, gT_in 206 (by decide +kernel) rfl, gT_in 207 (by decide +kernel) rfl⟩
theorem yv_X2_readClue : gYv yX2_readClue cX2_readClue 7 (some .boolean) 2 := ⟨⟨ini_X2, gT_in 232 (by decide +kernel) rfl, by decide, by decide, (by decide +kernel)⟩, gT_in 231 (by decide +kernel) rfl, gT_sel (q := (yX2_readClue, 3)) 2 (by decide +kernel) rfl⟩
theorem yv_X2_readNumber : gYv yX2_readNumber cX2_readNumber 4 (some .int) 2 := ⟨⟨ini_X2, gT_in 220 (by decide +kernel) rfl, by decide, by decide, (by decide +kernel)⟩, gT_in 219 (by decide +kernel) rfl, gT_sel (q := (yX2_readNumber, 3)) 0 (by decide +kernel) rfl⟩
theorem yv_X2_readKind : gYv yX2_readKind cX2_readKind 2 (some .int) 0 := ⟨⟨ini_X2, gT_in 240 (by decide +kernel) rfl, by decide, by decide, (by decide +kernel)⟩, gT_in 239 (by decide +kernel) rfl, gT_sel (q := (yX2_readKind, 3)) 3 (by decide +kernel) rfl⟩
theorem yv_X2_readSign : gYv yX2_readSign cX2_readSign 2 (some .boolean) 1 := ⟨⟨ini_X2, gT_in 228 (by decide +kernel) rfl, by decide, by decide, (by decide +kernel)⟩, gT_in 227 (by decide +kernel) rfl, gT_sel (q := (yX2_readSign, 3)) 1 (by decide +kernel) rfl⟩
theorem yv_X3_take : gYv yX3_take cX3_take 3 none 1 := ⟨⟨ini_X3, gT_in 378 (by decide +kernel) rfl, by decide, by decide, (by decide +kernel)⟩, gT_in 376 (by decide +kernel) rfl, gT_in 377 (by decide +kernel) rfl⟩
theorem yv_X3_countWith : gYv yX3_countWith cX3_countWith 5 (some .int) 3 := ⟨⟨ini_X3, gT_in 426 (by decide +kernel) rfl, by decide, by decide, (by decide +kernel)⟩, gT_in 424 (by decide +kernel) rfl, gT_in 425 (by decide +kernel) rfl⟩
theorem yv_X3_run : gYv yX3_run cX3_run 5 none 2 := ⟨⟨ini_X3, gT_in 400 (by decide +kernel) rfl, by decide, by decide, (by decide +kernel)⟩, gT_in 398 (by decide +kernel) rfl, gT_in 399 (by decide +kernel) rfl⟩
theorem yv_X3_openColumn : gYv yX3_openColumn cX3_openColumn 7 none 2 := ⟨⟨ini_X3, gT_in 404 (by decide +kernel) rfl, by decide, by decide, (by decide +kernel)⟩, gT_in 403 (by decide +kernel) rfl, gT_sel (q := (yX3_openColumn, 8)) 6 (by decide +kernel) rfl⟩
theorem yv_X3_lay : gYv yX3_lay cX3_lay 10 none 4 := ⟨⟨ini_X3, gT_in 408 (by decide +kernel) rfl, by decide, by decide, (by decide +kernel)⟩, gT_in 407 (by decide +kernel) rfl, gT_sel (q := (yX3_lay, 8)) 7 (by decide +kernel) rfl⟩
theorem ys_X3_spread : gYs yX3_spread cX3_spread 1 (some .int) 1 := ⟨⟨ini_X3, gT_in 415 (by decide +kernel) rfl, by decide, by decide, (by decide +kernel)⟩, gT_in 414 (by decide +kernel) rfl⟩
theorem yv_X3_canGoOn : gYv yX3_canGoOn cX3_canGoOn 6 (some .boolean) 2 := ⟨⟨ini_X3, gT_in 419 (by decide +kernel) rfl, by decide, by decide, (by decide +kernel)⟩, gT_in 418 (by decide +kernel) rfl, gT_sel (q := (yX3_canGoOn, 8)) 8 (by decide +kernel) rfl⟩
theorem yv_X4_forgetAll : gYv yX4_forgetAll cX4_forgetAll 1 none 0 := ⟨⟨ini_X4, gT_in 212 (by decide +kernel) rfl, by decide, by decide, (by decide +kernel)⟩, gT_in 210 (by decide +kernel) rfl, gT_in 211 (by decide +kernel) rfl⟩
theorem yv_X4_copyFrom : gYv yX4_copyFrom cX4_copyFrom 3 none 1 := ⟨⟨ini_X4, gT_in 356 (by decide +kernel) rfl, by decide, by decide, (by decide +kernel)⟩, gT_in 354 (by decide +kernel) rfl, gT_in 355 (by decide +kernel) rfl⟩
theorem yv_X4_isBoard : gYv yX4_isBoard cX4_isBoard 1 (some .boolean) 0 := ⟨⟨ini_X4, gT_in 531 (by decide +kernel) rfl, by decide, by decide, (by decide +kernel)⟩, gT_in 529 (by decide +kernel) rfl, gT_in 530 (by decide +kernel) rfl⟩
theorem yv_X4_lines : gYv yX4_lines cX4_lines 1 (some .int) 0 := ⟨⟨ini_X4, gT_in 347 (by decide +kernel) rfl, by decide, by decide, (by decide +kernel)⟩, gT_in 345 (by decide +kernel) rfl, gT_in 346 (by decide +kernel) rfl⟩
theorem yv_X4_cells : gYv yX4_cells cX4_cells 1 (some .int) 0 := ⟨⟨ini_X4, gT_in 360 (by decide +kernel) rfl, by decide, by decide, (by decide +kernel)⟩, gT_in 358 (by decide +kernel) rfl, gT_in 359 (by decide +kernel) rfl⟩
theorem yv_X4_hasLine : gYv yX4_hasLine cX4_hasLine 2 (some .boolean) 1 := ⟨⟨ini_X4, gT_in 343 (by decide +kernel) rfl, by decide, by decide, (by decide +kernel)⟩, gT_in 341 (by decide +kernel) rfl, gT_in 342 (by decide +kernel) rfl⟩
theorem yv_X4_hasCell : gYv yX4_hasCell cX4_hasCell 2 (some .boolean) 1 := ⟨⟨ini_X4, gT_in 468 (by decide +kernel) rfl, by decide, by decide, (by decide +kernel)⟩, gT_in 466 (by decide +kernel) rfl, gT_in 467 (by decide +kernel) rfl⟩
theorem yv_X4_length : gYv yX4_length cX4_length 2 (some .int) 1 := ⟨⟨ini_X4, gT_in 236 (by decide +kernel) rfl, by decide, by decide, (by decide +kernel)⟩, gT_in 234 (by decide +kernel) rfl, gT_in 235 (by decide +kernel) rfl⟩
theorem yv_X4_hasCellsOf : gYv yX4_hasCellsOf cX4_hasCellsOf 3 (some .boolean) 2 := ⟨⟨ini_X4, gT_in 490 (by decide +kernel) rfl, by decide, by decide, (by decide +kernel)⟩, gT_in 488 (by decide +kernel) rfl, gT_in 489 (by decide +kernel) rfl⟩
theorem yv_X4_setClue : gYv yX4_setClue cX4_setClue 5 none 4 := ⟨⟨ini_X4, gT_in 339 (by decide +kernel) rfl, by decide, by decide, (by decide +kernel)⟩, gT_in 337 (by decide +kernel) rfl, gT_in 338 (by decide +kernel) rfl⟩
theorem yv_X4_marked : gYv yX4_marked cX4_marked 1 (some .int) 0 := ⟨⟨ini_X4, gT_in 511 (by decide +kernel) rfl, by decide, by decide, (by decide +kernel)⟩, gT_in 509 (by decide +kernel) rfl, gT_in 510 (by decide +kernel) rfl⟩
theorem yv_X4_markedCells : gYv yX4_markedCells cX4_markedCells 1 (some .int) 0 := ⟨⟨ini_X4, gT_in 507 (by decide +kernel) rfl, by decide, by decide, (by decide +kernel)⟩, gT_in 505 (by decide +kernel) rfl, gT_in 506 (by decide +kernel) rfl⟩
theorem yv_X4_howMarked : gYv yX4_howMarked cX4_howMarked 2 (some .int) 1 := ⟨⟨ini_X4, gT_in 473 (by decide +kernel) rfl, by decide, by decide, (by decide +kernel)⟩, gT_in 471 (by decide +kernel) rfl, gT_in 472 (by decide +kernel) rfl⟩
theorem yv_X4_setMark : gYv yX4_setMark cX4_setMark 4 none 2 := ⟨⟨ini_X4, gT_in 499 (by decide +kernel) rfl, by decide, by decide, (by decide +kernel)⟩, gT_in 497 (by decide +kernel) rfl, gT_in 498 (by decide +kernel) rfl⟩
theorem yv_X4_unmarkAll : gYv yX4_unmarkAll cX4_unmarkAll 1 none 0 := ⟨⟨ini_X4, gT_in 216 (by decide +kernel) rfl, by decide, by decide, (by decide +kernel)⟩, gT_in 214 (by decide +kernel) rfl, gT_in 215 (by decide +kernel) rfl⟩
theorem yv_X4_addSeen : gYv yX4_addSeen cX4_addSeen 4 none 3 := ⟨⟨ini_X4, gT_in 604 (by decide +kernel) rfl, by decide, by decide, (by decide +kernel)⟩, gT_in 602 (by decide +kernel) rfl, gT_in 603 (by decide +kernel) rfl⟩
theorem yv_X4_sorts : gYv yX4_sorts cX4_sorts 4 (some .int) 1 := ⟨⟨ini_X4, gT_in 431 (by decide +kernel) rfl, by decide, by decide, (by decide +kernel)⟩, gT_in 429 (by decide +kernel) rfl, gT_in 430 (by decide +kernel) rfl⟩
theorem yv_X4_canBeOf : gYv yX4_canBeOf cX4_canBeOf 4 (some .boolean) 2 := ⟨⟨ini_X4, gT_in 435 (by decide +kernel) rfl, by decide, by decide, (by decide +kernel)⟩, gT_in 434 (by decide +kernel) rfl, gT_sel (q := (yX4_canBeOf, 11)) 9 (by decide +kernel) rfl⟩
theorem yv_X4_wouldKeep : gYv yX4_wouldKeep cX4_wouldKeep 4 (some .boolean) 3 := ⟨⟨ini_X4, gT_in 439 (by decide +kernel) rfl, by decide, by decide, (by decide +kernel)⟩, gT_in 438 (by decide +kernel) rfl, gT_sel (q := (yX4_wouldKeep, 11)) 10 (by decide +kernel) rfl⟩
theorem yv_X4_nextTry : gYv yX4_nextTry cX4_nextTry 7 (some .int) 1 := ⟨⟨ini_X4, gT_in 444 (by decide +kernel) rfl, by decide, by decide, (by decide +kernel)⟩, gT_in 442 (by decide +kernel) rfl, gT_in 443 (by decide +kernel) rfl⟩
theorem yv_X4_worstOfTry : gYv yX4_worstOfTry cX4_worstOfTry 6 (some .int) 3 := ⟨⟨ini_X4, gT_in 451 (by decide +kernel) rfl, by decide, by decide, (by decide +kernel)⟩, gT_in 450 (by decide +kernel) rfl, gT_sel (q := (yX4_worstOfTry, 11)) 11 (by decide +kernel) rfl⟩
theorem yv_X5_letter : gYv yX5_letter cX5_letter 2 (some .int) 1 := ⟨⟨ini_X5, gT_in 192 (by decide +kernel) rfl, by decide, by decide, (by decide +kernel)⟩, gT_in 190 (by decide +kernel) rfl, gT_in 191 (by decide +kernel) rfl⟩
theorem yv_X5_blank : gYv yX5_blank cX5_blank 2 (some .int) 0 := ⟨⟨ini_X5, gT_in 200 (by decide +kernel) rfl, by decide, by decide, (by decide +kernel)⟩, gT_in 198 (by decide +kernel) rfl, gT_in 199 (by decide +kernel) rfl⟩
theorem yv_X5_fault : gYv yX5_fault cX5_fault 1 (some .int) 0 := ⟨⟨ini_X5, gT_in 204 (by decide +kernel) rfl, by decide, by decide, (by decide +kernel)⟩, gT_in 202 (by decide +kernel) rfl, gT_in 203 (by decide +kernel) rfl⟩
theorem yv_X5_board : gYv yX5_board cX5_board 1 (some .int) 0 := ⟨⟨ini_X5, gT_in 352 (by decide +kernel) rfl, by decide, by decide, (by decide +kernel)⟩, gT_in 350 (by decide +kernel) rfl, gT_in 351 (by decide +kernel) rfl⟩
theorem yv_X5_line : gYv yX5_line cX5_line 3 (some .int) 2 := ⟨⟨ini_X5, gT_in 364 (by decide +kernel) rfl, by decide, by decide, (by decide +kernel)⟩, gT_in 362 (by decide +kernel) rfl, gT_in 363 (by decide +kernel) rfl⟩
theorem yv_X5_as : gYv yX5_as cX5_as 3 (some .int) 2 := ⟨⟨ini_X5, gT_in 456 (by decide +kernel) rfl, by decide, by decide, (by decide +kernel)⟩, gT_in 454 (by decide +kernel) rfl, gT_in 455 (by decide +kernel) rfl⟩
theorem yv_X5_cell : gYv yX5_cell cX5_cell 3 (some .int) 2 := ⟨⟨ini_X5, gT_in 464 (by decide +kernel) rfl, by decide, by decide, (by decide +kernel)⟩, gT_in 462 (by decide +kernel) rfl, gT_in 463 (by decide +kernel) rfl⟩
theorem yv_X5_keeps : gYv yX5_keeps cX5_keeps 3 (some .int) 2 := ⟨⟨ini_X5, gT_in 486 (by decide +kernel) rfl, by decide, by decide, (by decide +kernel)⟩, gT_in 484 (by decide +kernel) rfl, gT_in 485 (by decide +kernel) rfl⟩
theorem yv_X5_mark : gYv yX5_mark cX5_mark 4 (some .int) 2 := ⟨⟨ini_X5, gT_in 495 (by decide +kernel) rfl, by decide, by decide, (by decide +kernel)⟩, gT_in 493 (by decide +kernel) rfl, gT_in 494 (by decide +kernel) rfl⟩
theorem yv_X5_clear : gYv yX5_clear cX5_clear 2 (some .int) 0 := ⟨⟨ini_X5, gT_in 503 (by decide +kernel) rfl, by decide, by decide, (by decide +kernel)⟩, gT_in 501 (by decide +kernel) rfl, gT_in 502 (by decide +kernel) rfl⟩
theorem yv_X5_clue : gYv yX5_clue cX5_clue 6 (some .int) 4 := ⟨⟨ini_X5, gT_in 516 (by decide +kernel) rfl, by decide, by decide, (by decide +kernel)⟩, gT_in 514 (by decide +kernel) rfl, gT_in 515 (by decide +kernel) rfl⟩
theorem yv_X5_left : gYv yX5_left cX5_left 1 (some .int) 0 := ⟨⟨ini_X5, gT_in 527 (by decide +kernel) rfl, by decide, by decide, (by decide +kernel)⟩, gT_in 525 (by decide +kernel) rfl, gT_in 526 (by decide +kernel) rfl⟩
theorem yv_X5_picture : gYv yX5_picture cX5_picture 2 (some .int) 1 := ⟨⟨ini_X5, gT_in 535 (by decide +kernel) rfl, by decide, by decide, (by decide +kernel)⟩, gT_in 533 (by decide +kernel) rfl, gT_in 534 (by decide +kernel) rfl⟩
theorem yv_X5_look : gYv yX5_look cX5_look 1 (some .int) 0 := ⟨⟨ini_X5, gT_in 543 (by decide +kernel) rfl, by decide, by decide, (by decide +kernel)⟩, gT_in 541 (by decide +kernel) rfl, gT_in 542 (by decide +kernel) rfl⟩
theorem yv_X5_odds : gYv yX5_odds cX5_odds 6 (some .int) 2 := ⟨⟨ini_X5, gT_in 552 (by decide +kernel) rfl, by decide, by decide, (by decide +kernel)⟩, gT_in 550 (by decide +kernel) rfl, gT_in 551 (by decide +kernel) rfl⟩
theorem yv_X5_hints : gYv yX5_hints cX5_hints 4 (some .int) 2 := ⟨⟨ini_X5, gT_in 559 (by decide +kernel) rfl, by decide, by decide, (by decide +kernel)⟩, gT_in 557 (by decide +kernel) rfl, gT_in 558 (by decide +kernel) rfl⟩
theorem yv_X5_one : gYv yX5_one cX5_one 3 (some .int) 0 := ⟨⟨ini_X5, gT_in 584 (by decide +kernel) rfl, by decide, by decide, (by decide +kernel)⟩, gT_in 582 (by decide +kernel) rfl, gT_in 583 (by decide +kernel) rfl⟩
theorem yv_X5_see : gYv yX5_see cX5_see 4 (some .int) 3 := ⟨⟨ini_X5, gT_in 600 (by decide +kernel) rfl, by decide, by decide, (by decide +kernel)⟩, gT_in 598 (by decide +kernel) rfl, gT_in 599 (by decide +kernel) rfl⟩
theorem yv_X5_forget : gYv yX5_forget cX5_forget 2 (some .int) 0 := ⟨⟨ini_X5, gT_in 608 (by decide +kernel) rfl, by decide, by decide, (by decide +kernel)⟩, gT_in 606 (by decide +kernel) rfl, gT_in 607 (by decide +kernel) rfl⟩
theorem yv_X5_games : gYv yX5_games cX5_games 11 (some .int) 3 := ⟨⟨ini_X5, gT_in 612 (by decide +kernel) rfl, by decide, by decide, (by decide +kernel)⟩, gT_in 610 (by decide +kernel) rfl, gT_in 611 (by decide +kernel) rfl⟩
theorem yv_X5_image : gYv yX5_image cX5_image 1 (some .int) 0 := ⟨⟨ini_X5, gT_in 637 (by decide +kernel) rfl, by decide, by decide, (by decide +kernel)⟩, gT_in 635 (by decide +kernel) rfl, gT_in 636 (by decide +kernel) rfl⟩
theorem yv_X5_restore : gYv yX5_restore cX5_restore 1 (some .int) 0 := ⟨⟨ini_X5, gT_in 641 (by decide +kernel) rfl, by decide, by decide, (by decide +kernel)⟩, gT_in 639 (by decide +kernel) rfl, gT_in 640 (by decide +kernel) rfl⟩
theorem yv_X5_count : gYv yX5_count cX5_count 2 (some .int) 1 := ⟨⟨ini_X5, gT_in 645 (by decide +kernel) rfl, by decide, by decide, (by decide +kernel)⟩, gT_in 643 (by decide +kernel) rfl, gT_in 644 (by decide +kernel) rfl⟩
theorem yv_X5_digest : gYv yX5_digest cX5_digest 5 (some .long) 0 := ⟨⟨ini_X5, gT_in 653 (by decide +kernel) rfl, by decide, by decide, (by decide +kernel)⟩, gT_in 651 (by decide +kernel) rfl, gT_in 652 (by decide +kernel) rfl⟩
theorem yv_X5_settled : gYv yX5_settled cX5_settled 1 (some (.object "EdgePicture$Fits")) 0 := ⟨⟨ini_X5, gT_in 374 (by decide +kernel) rfl, by decide, by decide, (by decide +kernel)⟩, gT_in 373 (by decide +kernel) rfl, gT_sel (q := (yX5_settled, 12)) 5 (by decide +kernel) rfl⟩
theorem yv_X5_isSpare : gYv yX5_isSpare cX5_isSpare 4 (some .boolean) 1 := ⟨⟨ini_X5, gT_in 370 (by decide +kernel) rfl, by decide, by decide, (by decide +kernel)⟩, gT_in 369 (by decide +kernel) rfl, gT_sel (q := (yX5_isSpare, 12)) 4 (by decide +kernel) rfl⟩
theorem yv_X5_sureCells : gYv yX5_sureCells cX5_sureCells 3 (some .int) 0 := ⟨⟨ini_X5, gT_in 649 (by decide +kernel) rfl, by decide, by decide, (by decide +kernel)⟩, gT_in 648 (by decide +kernel) rfl, gT_sel (q := (yX5_sureCells, 12)) 17 (by decide +kernel) rfl⟩
theorem ys_X5_commonDivisor : gYs yX5_commonDivisor cX5_commonDivisor 6 (some .int) 2 := ⟨⟨ini_X5, gT_in 555 (by decide +kernel) rfl, by decide, by decide, (by decide +kernel)⟩, gT_in 554 (by decide +kernel) rfl⟩
theorem yv_X5_fewestHints : gYv yX5_fewestHints cX5_fewestHints 4 (some .int) 1 := ⟨⟨ini_X5, gT_in 568 (by decide +kernel) rfl, by decide, by decide, (by decide +kernel)⟩, gT_in 567 (by decide +kernel) rfl, gT_sel (q := (yX5_fewestHints, 12)) 12 (by decide +kernel) rfl⟩
theorem yv_X5_growHints : gYv yX5_growHints cX5_growHints 7 (some .int) 4 := ⟨⟨ini_X5, gT_in 572 (by decide +kernel) rfl, by decide, by decide, (by decide +kernel)⟩, gT_in 571 (by decide +kernel) rfl, gT_sel (q := (yX5_growHints, 12)) 13 (by decide +kernel) rfl⟩
theorem ys_X5_cellAt : gYs yX5_cellAt cX5_cellAt 4 (some .int) 2 := ⟨⟨ini_X5, gT_in 580 (by decide +kernel) rfl, by decide, by decide, (by decide +kernel)⟩, gT_in 579 (by decide +kernel) rfl⟩
theorem yv_X5_changeToOne : gYv yX5_changeToOne cX5_changeToOne 8 (some .int) 1 := ⟨⟨ini_X5, gT_in 589 (by decide +kernel) rfl, by decide, by decide, (by decide +kernel)⟩, gT_in 588 (by decide +kernel) rfl, gT_sel (q := (yX5_changeToOne, 12)) 14 (by decide +kernel) rfl⟩
theorem yv_X5_leavesOne : gYv yX5_leavesOne cX5_leavesOne 6 (some .boolean) 4 := ⟨⟨ini_X5, gT_in 594 (by decide +kernel) rfl, by decide, by decide, (by decide +kernel)⟩, gT_in 593 (by decide +kernel) rfl, gT_sel (q := (yX5_leavesOne, 12)) 15 (by decide +kernel) rfl⟩
theorem ys_X5_nextSeed : gYs yX5_nextSeed cX5_nextSeed 2 (some .long) 1 := ⟨⟨ini_X5, gT_in 615 (by decide +kernel) rfl, by decide, by decide, (by decide +kernel)⟩, gT_in 614 (by decide +kernel) rfl⟩
theorem yv_X5_playGame : gYv yX5_playGame cX5_playGame 5 (some .int) 1 := ⟨⟨ini_X5, gT_in 623 (by decide +kernel) rfl, by decide, by decide, (by decide +kernel)⟩, gT_in 622 (by decide +kernel) rfl, gT_sel (q := (yX5_playGame, 12)) 16 (by decide +kernel) rfl⟩
theorem ys_X6_in : gYs yX6_in cX6_in 6 (some .boolean) 3 := ⟨⟨ini_X6, gT_in 801 (by decide +kernel) rfl, by decide, by decide, (by decide +kernel)⟩, gT_in 800 (by decide +kernel) rfl⟩
theorem ys_X6_copy : gYs yX6_copy cX6_copy 3 none 2 := ⟨⟨ini_X6, gT_in 863 (by decide +kernel) rfl, by decide, by decide, (by decide +kernel)⟩, gT_in 862 (by decide +kernel) rfl⟩
theorem ys_X6_ones : gYs yX6_ones cX6_ones 3 (some .int) 1 := ⟨⟨ini_X6, gT_in 890 (by decide +kernel) rfl, by decide, by decide, (by decide +kernel)⟩, gT_in 889 (by decide +kernel) rfl⟩
theorem yv_X6_letter : gYv yX6_letter cX6_letter 2 (some .int) 1 := ⟨⟨ini_X6, gT_in 797 (by decide +kernel) rfl, by decide, by decide, (by decide +kernel)⟩, gT_in 795 (by decide +kernel) rfl, gT_in 796 (by decide +kernel) rfl⟩
theorem yv_X6_blank : gYv yX6_blank cX6_blank 2 (some .int) 0 := ⟨⟨ini_X6, gT_in 805 (by decide +kernel) rfl, by decide, by decide, (by decide +kernel)⟩, gT_in 803 (by decide +kernel) rfl, gT_in 804 (by decide +kernel) rfl⟩
theorem ys_X6_kindBy : gYs yX6_kindBy cX6_kindBy 1 (some .int) 1 := ⟨⟨ini_X6, gT_in 826 (by decide +kernel) rfl, by decide, by decide, (by decide +kernel)⟩, gT_in 825 (by decide +kernel) rfl⟩
theorem ys_X6_isDouble : gYs yX6_isDouble cX6_isDouble 1 (some .boolean) 1 := ⟨⟨ini_X6, gT_in 833 (by decide +kernel) rfl, by decide, by decide, (by decide +kernel)⟩, gT_in 832 (by decide +kernel) rfl⟩
theorem ys_X6_mostSecond : gYs yX6_mostSecond cX6_mostSecond 2 (some .int) 2 := ⟨⟨ini_X6, gT_in 848 (by decide +kernel) rfl, by decide, by decide, (by decide +kernel)⟩, gT_in 847 (by decide +kernel) rfl⟩
theorem yv_X6_readHigh : gYv yX6_readHigh cX6_readHigh 1 (some .int) 0 := ⟨⟨ini_X6, gT_in 841 (by decide +kernel) rfl, by decide, by decide, (by decide +kernel)⟩, gT_in 840 (by decide +kernel) rfl, gT_sel (q := (yX6_readHigh, 41)) 23 (by decide +kernel) rfl⟩
theorem yv_X6_readLines : gYv yX6_readLines cX6_readLines 1 (some .int) 0 := ⟨⟨ini_X6, gT_in 856 (by decide +kernel) rfl, by decide, by decide, (by decide +kernel)⟩, gT_in 855 (by decide +kernel) rfl, gT_sel (q := (yX6_readLines, 41)) 26 (by decide +kernel) rfl⟩
theorem yv_X6_readCells : gYv yX6_readCells cX6_readCells 1 (some .int) 0 := ⟨⟨ini_X6, gT_in 837 (by decide +kernel) rfl, by decide, by decide, (by decide +kernel)⟩, gT_in 836 (by decide +kernel) rfl, gT_sel (q := (yX6_readCells, 41)) 22 (by decide +kernel) rfl⟩
theorem yv_X6_isKindLetter : gYv yX6_isKindLetter cX6_isKindLetter 2 (some .boolean) 1 := ⟨⟨ini_X6, gT_in 823 (by decide +kernel) rfl, by decide, by decide, (by decide +kernel)⟩, gT_in 822 (by decide +kernel) rfl, gT_sel (q := (yX6_isKindLetter, 41)) 20 (by decide +kernel) rfl⟩
theorem yv_X6_isFirstLetter : gYv yX6_isFirstLetter cX6_isFirstLetter 2 (some .boolean) 1 := ⟨⟨ini_X6, gT_in 830 (by decide +kernel) rfl, by decide, by decide, (by decide +kernel)⟩, gT_in 829 (by decide +kernel) rfl, gT_sel (q := (yX6_isFirstLetter, 41)) 21 (by decide +kernel) rfl⟩
theorem yv_X6_isSecondLetter : gYv yX6_isSecondLetter cX6_isSecondLetter 2 (some .boolean) 1 := ⟨⟨ini_X6, gT_in 845 (by decide +kernel) rfl, by decide, by decide, (by decide +kernel)⟩, gT_in 844 (by decide +kernel) rfl, gT_sel (q := (yX6_isSecondLetter, 41)) 24 (by decide +kernel) rfl⟩
theorem yv_X6_isBehindLetter : gYv yX6_isBehindLetter cX6_isBehindLetter 2 (some .boolean) 1 := ⟨⟨ini_X6, gT_in 852 (by decide +kernel) rfl, by decide, by decide, (by decide +kernel)⟩, gT_in 851 (by decide +kernel) rfl, gT_sel (q := (yX6_isBehindLetter, 41)) 25 (by decide +kernel) rfl⟩
theorem yv_X6_isGood : gYv yX6_isGood cX6_isGood 3 (some .boolean) 1 := ⟨⟨ini_X6, gT_in 817 (by decide +kernel) rfl, by decide, by decide, (by decide +kernel)⟩, gT_in 816 (by decide +kernel) rfl, gT_sel (q := (yX6_isGood, 41)) 19 (by decide +kernel) rfl⟩
theorem yv_X6_faultOf : gYv yX6_faultOf cX6_faultOf 2 (some .int) 0 := ⟨⟨ini_X6, gT_in 813 (by decide +kernel) rfl, by decide, by decide, (by decide +kernel)⟩, gT_in 812 (by decide +kernel) rfl, gT_sel (q := (yX6_faultOf, 41)) 18 (by decide +kernel) rfl⟩
theorem yv_X6_fault : gYv yX6_fault cX6_fault 1 (some .int) 0 := ⟨⟨ini_X6, gT_in 809 (by decide +kernel) rfl, by decide, by decide, (by decide +kernel)⟩, gT_in 807 (by decide +kernel) rfl, gT_in 808 (by decide +kernel) rfl⟩
theorem yv_X6_board : gYv yX6_board cX6_board 2 (some .int) 0 := ⟨⟨ini_X6, gT_in 860 (by decide +kernel) rfl, by decide, by decide, (by decide +kernel)⟩, gT_in 858 (by decide +kernel) rfl, gT_in 859 (by decide +kernel) rfl⟩
theorem yv_X6_lacks : gYv yX6_lacks cX6_lacks 1 (some .boolean) 0 := ⟨⟨ini_X6, gT_in 898 (by decide +kernel) rfl, by decide, by decide, (by decide +kernel)⟩, gT_in 897 (by decide +kernel) rfl, gT_sel (q := (yX6_lacks, 41)) 32 (by decide +kernel) rfl⟩
theorem yv_X6_isLine : gYv yX6_isLine cX6_isLine 2 (some .boolean) 1 := ⟨⟨ini_X6, gT_in 871 (by decide +kernel) rfl, by decide, by decide, (by decide +kernel)⟩, gT_in 870 (by decide +kernel) rfl, gT_sel (q := (yX6_isLine, 41)) 27 (by decide +kernel) rfl⟩
theorem yv_X6_isCell : gYv yX6_isCell cX6_isCell 2 (some .boolean) 1 := ⟨⟨ini_X6, gT_in 958 (by decide +kernel) rfl, by decide, by decide, (by decide +kernel)⟩, gT_in 957 (by decide +kernel) rfl, gT_sel (q := (yX6_isCell, 41)) 45 (by decide +kernel) rfl⟩
theorem yv_X6_cellsOf : gYv yX6_cellsOf cX6_cellsOf 2 (some .int) 1 := ⟨⟨ini_X6, gT_in 875 (by decide +kernel) rfl, by decide, by decide, (by decide +kernel)⟩, gT_in 874 (by decide +kernel) rfl, gT_sel (q := (yX6_cellsOf, 41)) 28 (by decide +kernel) rfl⟩
theorem yv_X6_layRuns : gYv yX6_layRuns cX6_layRuns 4 none 1 := ⟨⟨ini_X6, gT_in 887 (by decide +kernel) rfl, by decide, by decide, (by decide +kernel)⟩, gT_in 886 (by decide +kernel) rfl, gT_sel (q := (yX6_layRuns, 41)) 31 (by decide +kernel) rfl⟩
theorem yv_X6_isKept : gYv yX6_isKept cX6_isKept 5 (some .boolean) 4 := ⟨⟨ini_X6, gT_in 883 (by decide +kernel) rfl, by decide, by decide, (by decide +kernel)⟩, gT_in 882 (by decide +kernel) rfl, gT_sel (q := (yX6_isKept, 41)) 30 (by decide +kernel) rfl⟩
theorem yv_X6_keepsOf : gYv yX6_keepsOf cX6_keepsOf 3 (some .int) 2 := ⟨⟨ini_X6, gT_in 879 (by decide +kernel) rfl, by decide, by decide, (by decide +kernel)⟩, gT_in 878 (by decide +kernel) rfl, gT_sel (q := (yX6_keepsOf, 41)) 29 (by decide +kernel) rfl⟩
theorem yv_X6_keeps : gYv yX6_keeps cX6_keeps 3 (some .int) 2 := ⟨⟨ini_X6, gT_in 867 (by decide +kernel) rfl, by decide, by decide, (by decide +kernel)⟩, gT_in 865 (by decide +kernel) rfl, gT_in 866 (by decide +kernel) rfl⟩
theorem yv_X6_layTable : gYv yX6_layTable cX6_layTable 3 none 0 := ⟨⟨ini_X6, gT_in 914 (by decide +kernel) rfl, by decide, by decide, (by decide +kernel)⟩, gT_in 913 (by decide +kernel) rfl, gT_sel (q := (yX6_layTable, 41)) 36 (by decide +kernel) rfl⟩
theorem yv_X6_rowOf : gYv yX6_rowOf cX6_rowOf 3 (some .int) 2 := ⟨⟨ini_X6, gT_in 926 (by decide +kernel) rfl, by decide, by decide, (by decide +kernel)⟩, gT_in 925 (by decide +kernel) rfl, gT_sel (q := (yX6_rowOf, 41)) 39 (by decide +kernel) rfl⟩
theorem yv_X6_columnOf : gYv yX6_columnOf cX6_columnOf 5 (some .int) 2 := ⟨⟨ini_X6, gT_in 930 (by decide +kernel) rfl, by decide, by decide, (by decide +kernel)⟩, gT_in 929 (by decide +kernel) rfl, gT_sel (q := (yX6_columnOf, 41)) 40 (by decide +kernel) rfl⟩
theorem yv_X6_isFitting : gYv yX6_isFitting cX6_isFitting 5 (some .boolean) 3 := ⟨⟨ini_X6, gT_in 922 (by decide +kernel) rfl, by decide, by decide, (by decide +kernel)⟩, gT_in 921 (by decide +kernel) rfl, gT_sel (q := (yX6_isFitting, 41)) 38 (by decide +kernel) rfl⟩
theorem yv_X6_marked : gYv yX6_marked cX6_marked 4 (some .int) 1 := ⟨⟨ini_X6, gT_in 918 (by decide +kernel) rfl, by decide, by decide, (by decide +kernel)⟩, gT_in 917 (by decide +kernel) rfl, gT_sel (q := (yX6_marked, 41)) 37 (by decide +kernel) rfl⟩
theorem yv_X6_layFit : gYv yX6_layFit cX6_layFit 5 none 0 := ⟨⟨ini_X6, gT_in 910 (by decide +kernel) rfl, by decide, by decide, (by decide +kernel)⟩, gT_in 909 (by decide +kernel) rfl, gT_sel (q := (yX6_layFit, 41)) 35 (by decide +kernel) rfl⟩
theorem yv_X6_freshen : gYv yX6_freshen cX6_freshen 1 none 0 := ⟨⟨ini_X6, gT_in 906 (by decide +kernel) rfl, by decide, by decide, (by decide +kernel)⟩, gT_in 905 (by decide +kernel) rfl, gT_sel (q := (yX6_freshen, 41)) 34 (by decide +kernel) rfl⟩
theorem yv_X6_isFit : gYv yX6_isFit cX6_isFit 2 (some .boolean) 1 := ⟨⟨ini_X6, gT_in 950 (by decide +kernel) rfl, by decide, by decide, (by decide +kernel)⟩, gT_in 949 (by decide +kernel) rfl, gT_sel (q := (yX6_isFit, 41)) 44 (by decide +kernel) rfl⟩
theorem yv_X6_nextFit : gYv yX6_nextFit cX6_nextFit 3 (some .int) 1 := ⟨⟨ini_X6, gT_in 946 (by decide +kernel) rfl, by decide, by decide, (by decide +kernel)⟩, gT_in 945 (by decide +kernel) rfl, gT_sel (q := (yX6_nextFit, 41)) 43 (by decide +kernel) rfl⟩
theorem yv_X6_soManieth : gYv yX6_soManieth cX6_soManieth 4 (some .int) 1 := ⟨⟨ini_X6, gT_in 942 (by decide +kernel) rfl, by decide, by decide, (by decide +kernel)⟩, gT_in 941 (by decide +kernel) rfl, gT_sel (q := (yX6_soManieth, 41)) 42 (by decide +kernel) rfl⟩
theorem yv_X6_leftOf : gYv yX6_leftOf cX6_leftOf 1 (some .int) 0 := ⟨⟨ini_X6, gT_in 902 (by decide +kernel) rfl, by decide, by decide, (by decide +kernel)⟩, gT_in 901 (by decide +kernel) rfl, gT_sel (q := (yX6_leftOf, 41)) 33 (by decide +kernel) rfl⟩
theorem yv_X6_left : gYv yX6_left cX6_left 1 (some .int) 0 := ⟨⟨ini_X6, gT_in 894 (by decide +kernel) rfl, by decide, by decide, (by decide +kernel)⟩, gT_in 892 (by decide +kernel) rfl, gT_in 893 (by decide +kernel) rfl⟩
theorem yv_X6_pictureOf : gYv yX6_pictureOf cX6_pictureOf 2 (some .int) 1 := ⟨⟨ini_X6, gT_in 938 (by decide +kernel) rfl, by decide, by decide, (by decide +kernel)⟩, gT_in 937 (by decide +kernel) rfl, gT_sel (q := (yX6_pictureOf, 41)) 41 (by decide +kernel) rfl⟩
theorem yv_X6_picture : gYv yX6_picture cX6_picture 2 (some .int) 1 := ⟨⟨ini_X6, gT_in 934 (by decide +kernel) rfl, by decide, by decide, (by decide +kernel)⟩, gT_in 932 (by decide +kernel) rfl, gT_in 933 (by decide +kernel) rfl⟩
theorem yv_X6_sureOf : gYv yX6_sureOf cX6_sureOf 2 (some .int) 1 := ⟨⟨ini_X6, gT_in 970 (by decide +kernel) rfl, by decide, by decide, (by decide +kernel)⟩, gT_in 969 (by decide +kernel) rfl, gT_sel (q := (yX6_sureOf, 41)) 48 (by decide +kernel) rfl⟩
theorem yv_X6_blackOf : gYv yX6_blackOf cX6_blackOf 2 (some .int) 1 := ⟨⟨ini_X6, gT_in 966 (by decide +kernel) rfl, by decide, by decide, (by decide +kernel)⟩, gT_in 965 (by decide +kernel) rfl, gT_sel (q := (yX6_blackOf, 41)) 47 (by decide +kernel) rfl⟩
theorem yv_X6_tellCell : gYv yX6_tellCell cX6_tellCell 3 (some .int) 2 := ⟨⟨ini_X6, gT_in 962 (by decide +kernel) rfl, by decide, by decide, (by decide +kernel)⟩, gT_in 961 (by decide +kernel) rfl, gT_sel (q := (yX6_tellCell, 41)) 46 (by decide +kernel) rfl⟩
theorem yv_X6_cell : gYv yX6_cell cX6_cell 3 (some .int) 2 := ⟨⟨ini_X6, gT_in 954 (by decide +kernel) rfl, by decide, by decide, (by decide +kernel)⟩, gT_in 952 (by decide +kernel) rfl, gT_in 953 (by decide +kernel) rfl⟩
theorem yv_X6_spareOf : gYv yX6_spareOf cX6_spareOf 4 (some .int) 1 := ⟨⟨ini_X6, gT_in 982 (by decide +kernel) rfl, by decide, by decide, (by decide +kernel)⟩, gT_in 981 (by decide +kernel) rfl, gT_sel (q := (yX6_spareOf, 41)) 50 (by decide +kernel) rfl⟩
theorem yv_X6_tellLine : gYv yX6_tellLine cX6_tellLine 3 (some .int) 2 := ⟨⟨ini_X6, gT_in 978 (by decide +kernel) rfl, by decide, by decide, (by decide +kernel)⟩, gT_in 977 (by decide +kernel) rfl, gT_sel (q := (yX6_tellLine, 41)) 49 (by decide +kernel) rfl⟩
theorem yv_X6_line : gYv yX6_line cX6_line 3 (some .int) 2 := ⟨⟨ini_X6, gT_in 974 (by decide +kernel) rfl, by decide, by decide, (by decide +kernel)⟩, gT_in 972 (by decide +kernel) rfl, gT_in 973 (by decide +kernel) rfl⟩
theorem yv_X6_as : gYv yX6_as cX6_as 4 (some .int) 2 := ⟨⟨ini_X6, gT_in 998 (by decide +kernel) rfl, by decide, by decide, (by decide +kernel)⟩, gT_in 996 (by decide +kernel) rfl, gT_in 997 (by decide +kernel) rfl⟩
theorem yv_X6_mark : gYv yX6_mark cX6_mark 4 (some .int) 2 := ⟨⟨ini_X6, gT_in 1003 (by decide +kernel) rfl, by decide, by decide, (by decide +kernel)⟩, gT_in 1001 (by decide +kernel) rfl, gT_in 1002 (by decide +kernel) rfl⟩
theorem yv_X6_markedMany : gYv yX6_markedMany cX6_markedMany 1 (some .int) 0 := ⟨⟨ini_X6, gT_in 1012 (by decide +kernel) rfl, by decide, by decide, (by decide +kernel)⟩, gT_in 1011 (by decide +kernel) rfl, gT_sel (q := (yX6_markedMany, 41)) 54 (by decide +kernel) rfl⟩
theorem yv_X6_clear : gYv yX6_clear cX6_clear 3 (some .int) 0 := ⟨⟨ini_X6, gT_in 1008 (by decide +kernel) rfl, by decide, by decide, (by decide +kernel)⟩, gT_in 1006 (by decide +kernel) rfl, gT_in 1007 (by decide +kernel) rfl⟩
theorem yv_X6_clue : gYv yX6_clue cX6_clue 6 (some .int) 4 := ⟨⟨ini_X6, gT_in 1016 (by decide +kernel) rfl, by decide, by decide, (by decide +kernel)⟩, gT_in 1014 (by decide +kernel) rfl, gT_in 1015 (by decide +kernel) rfl⟩
theorem yv_X6_bestCell : gYv yX6_bestCell cX6_bestCell 8 (some .int) 3 := ⟨⟨ini_X6, gT_in 1028 (by decide +kernel) rfl, by decide, by decide, (by decide +kernel)⟩, gT_in 1027 (by decide +kernel) rfl, gT_sel (q := (yX6_bestCell, 41)) 56 (by decide +kernel) rfl⟩
theorem yv_X6_lookOf : gYv yX6_lookOf cX6_lookOf 1 (some .int) 0 := ⟨⟨ini_X6, gT_in 1024 (by decide +kernel) rfl, by decide, by decide, (by decide +kernel)⟩, gT_in 1023 (by decide +kernel) rfl, gT_sel (q := (yX6_lookOf, 41)) 55 (by decide +kernel) rfl⟩
theorem yv_X6_look : gYv yX6_look cX6_look 1 (some .int) 0 := ⟨⟨ini_X6, gT_in 1020 (by decide +kernel) rfl, by decide, by decide, (by decide +kernel)⟩, gT_in 1018 (by decide +kernel) rfl, gT_in 1019 (by decide +kernel) rfl⟩
theorem yv_X6_oddsOf : gYv yX6_oddsOf cX6_oddsOf 6 (some .int) 2 := ⟨⟨ini_X6, gT_in 1037 (by decide +kernel) rfl, by decide, by decide, (by decide +kernel)⟩, gT_in 1036 (by decide +kernel) rfl, gT_sel (q := (yX6_oddsOf, 41)) 57 (by decide +kernel) rfl⟩
theorem yv_X6_odds : gYv yX6_odds cX6_odds 3 (some .int) 2 := ⟨⟨ini_X6, gT_in 1033 (by decide +kernel) rfl, by decide, by decide, (by decide +kernel)⟩, gT_in 1031 (by decide +kernel) rfl, gT_in 1032 (by decide +kernel) rfl⟩
theorem yv_X6_isTelling : gYv yX6_isTelling cX6_isTelling 4 (some .boolean) 2 := ⟨⟨ini_X6, gT_in 1054 (by decide +kernel) rfl, by decide, by decide, (by decide +kernel)⟩, gT_in 1053 (by decide +kernel) rfl, gT_sel (q := (yX6_isTelling, 41)) 60 (by decide +kernel) rfl⟩
theorem yv_X6_telling : gYv yX6_telling cX6_telling 9 (some .int) 3 := ⟨⟨ini_X6, gT_in 1050 (by decide +kernel) rfl, by decide, by decide, (by decide +kernel)⟩, gT_in 1049 (by decide +kernel) rfl, gT_sel (q := (yX6_telling, 41)) 59 (by decide +kernel) rfl⟩
theorem yv_X6_hintsOf : gYv yX6_hintsOf cX6_hintsOf 9 (some .int) 2 := ⟨⟨ini_X6, gT_in 1046 (by decide +kernel) rfl, by decide, by decide, (by decide +kernel)⟩, gT_in 1045 (by decide +kernel) rfl, gT_sel (q := (yX6_hintsOf, 41)) 58 (by decide +kernel) rfl⟩
theorem yv_X6_hints : gYv yX6_hints cX6_hints 3 (some .int) 2 := ⟨⟨ini_X6, gT_in 1041 (by decide +kernel) rfl, by decide, by decide, (by decide +kernel)⟩, gT_in 1039 (by decide +kernel) rfl, gT_in 1040 (by decide +kernel) rfl⟩
theorem yv_X6_isOneBy : gYv yX6_isOneBy cX6_isOneBy 8 (some .boolean) 4 := ⟨⟨ini_X6, gT_in 1070 (by decide +kernel) rfl, by decide, by decide, (by decide +kernel)⟩, gT_in 1069 (by decide +kernel) rfl, gT_sel (q := (yX6_isOneBy, 41)) 63 (by decide +kernel) rfl⟩
theorem yv_X6_oneOf : gYv yX6_oneOf cX6_oneOf 4 (some .int) 1 := ⟨⟨ini_X6, gT_in 1066 (by decide +kernel) rfl, by decide, by decide, (by decide +kernel)⟩, gT_in 1065 (by decide +kernel) rfl, gT_sel (q := (yX6_oneOf, 41)) 62 (by decide +kernel) rfl⟩
theorem yv_X6_oneOfAll : gYv yX6_oneOfAll cX6_oneOfAll 3 (some .int) 0 := ⟨⟨ini_X6, gT_in 1062 (by decide +kernel) rfl, by decide, by decide, (by decide +kernel)⟩, gT_in 1061 (by decide +kernel) rfl, gT_sel (q := (yX6_oneOfAll, 41)) 61 (by decide +kernel) rfl⟩
theorem yv_X6_one : gYv yX6_one cX6_one 1 (some .int) 0 := ⟨⟨ini_X6, gT_in 1058 (by decide +kernel) rfl, by decide, by decide, (by decide +kernel)⟩, gT_in 1056 (by decide +kernel) rfl, gT_in 1057 (by decide +kernel) rfl⟩
theorem yv_X6_see : gYv yX6_see cX6_see 4 (some .int) 3 := ⟨⟨ini_X6, gT_in 1074 (by decide +kernel) rfl, by decide, by decide, (by decide +kernel)⟩, gT_in 1072 (by decide +kernel) rfl, gT_in 1073 (by decide +kernel) rfl⟩
theorem yv_X6_forget : gYv yX6_forget cX6_forget 2 (some .int) 0 := ⟨⟨ini_X6, gT_in 1078 (by decide +kernel) rfl, by decide, by decide, (by decide +kernel)⟩, gT_in 1076 (by decide +kernel) rfl, gT_in 1077 (by decide +kernel) rfl⟩
theorem yv_X6_keptBy : gYv yX6_keptBy cX6_keptBy 5 (some .int) 2 := ⟨⟨ini_X6, gT_in 990 (by decide +kernel) rfl, by decide, by decide, (by decide +kernel)⟩, gT_in 989 (by decide +kernel) rfl, gT_sel (q := (yX6_keptBy, 41)) 52 (by decide +kernel) rfl⟩
theorem yv_X6_sortsOf : gYv yX6_sortsOf cX6_sortsOf 5 (some .int) 1 := ⟨⟨ini_X6, gT_in 986 (by decide +kernel) rfl, by decide, by decide, (by decide +kernel)⟩, gT_in 985 (by decide +kernel) rfl, gT_sel (q := (yX6_sortsOf, 41)) 51 (by decide +kernel) rfl⟩
theorem yv_X6_tryOf : gYv yX6_tryOf cX6_tryOf 9 (some .int) 1 := ⟨⟨ini_X6, gT_in 994 (by decide +kernel) rfl, by decide, by decide, (by decide +kernel)⟩, gT_in 993 (by decide +kernel) rfl, gT_sel (q := (yX6_tryOf, 41)) 53 (by decide +kernel) rfl⟩
theorem yv_X6_draw : gYv yX6_draw cX6_draw 2 (some .int) 1 := ⟨⟨ini_X6, gT_in 1096 (by decide +kernel) rfl, by decide, by decide, (by decide +kernel)⟩, gT_in 1095 (by decide +kernel) rfl, gT_sel (q := (yX6_draw, 41)) 66 (by decide +kernel) rfl⟩
theorem yv_X6_laySome : gYv yX6_laySome cX6_laySome 3 (some .int) 0 := ⟨⟨ini_X6, gT_in 1092 (by decide +kernel) rfl, by decide, by decide, (by decide +kernel)⟩, gT_in 1091 (by decide +kernel) rfl, gT_sel (q := (yX6_laySome, 41)) 65 (by decide +kernel) rfl⟩
theorem yv_X6_gameOne : gYv yX6_gameOne cX6_gameOne 8 (some .int) 0 := ⟨⟨ini_X6, gT_in 1088 (by decide +kernel) rfl, by decide, by decide, (by decide +kernel)⟩, gT_in 1087 (by decide +kernel) rfl, gT_sel (q := (yX6_gameOne, 41)) 64 (by decide +kernel) rfl⟩
theorem yv_X6_games : gYv yX6_games cX6_games 8 (some .int) 3 := ⟨⟨ini_X6, gT_in 1082 (by decide +kernel) rfl, by decide, by decide, (by decide +kernel)⟩, gT_in 1080 (by decide +kernel) rfl, gT_in 1081 (by decide +kernel) rfl⟩
theorem yv_X6_image : gYv yX6_image cX6_image 1 (some .int) 0 := ⟨⟨ini_X6, gT_in 1104 (by decide +kernel) rfl, by decide, by decide, (by decide +kernel)⟩, gT_in 1102 (by decide +kernel) rfl, gT_in 1103 (by decide +kernel) rfl⟩
theorem yv_X6_restore : gYv yX6_restore cX6_restore 1 (some .int) 0 := ⟨⟨ini_X6, gT_in 1108 (by decide +kernel) rfl, by decide, by decide, (by decide +kernel)⟩, gT_in 1106 (by decide +kernel) rfl, gT_in 1107 (by decide +kernel) rfl⟩
theorem yv_X6_sureMany : gYv yX6_sureMany cX6_sureMany 3 (some .int) 0 := ⟨⟨ini_X6, gT_in 1120 (by decide +kernel) rfl, by decide, by decide, (by decide +kernel)⟩, gT_in 1119 (by decide +kernel) rfl, gT_sel (q := (yX6_sureMany, 41)) 68 (by decide +kernel) rfl⟩
theorem yv_X6_countOf : gYv yX6_countOf cX6_countOf 2 (some .int) 1 := ⟨⟨ini_X6, gT_in 1116 (by decide +kernel) rfl, by decide, by decide, (by decide +kernel)⟩, gT_in 1115 (by decide +kernel) rfl, gT_sel (q := (yX6_countOf, 41)) 67 (by decide +kernel) rfl⟩
theorem yv_X6_count : gYv yX6_count cX6_count 2 (some .int) 1 := ⟨⟨ini_X6, gT_in 1112 (by decide +kernel) rfl, by decide, by decide, (by decide +kernel)⟩, gT_in 1110 (by decide +kernel) rfl, gT_in 1111 (by decide +kernel) rfl⟩
theorem yv_X6_say : gYv yX6_say cX6_say 3 none 1 := ⟨⟨ini_X6, gT_in 1133 (by decide +kernel) rfl, by decide, by decide, (by decide +kernel)⟩, gT_in 1132 (by decide +kernel) rfl, gT_sel (q := (yX6_say, 41)) 70 (by decide +kernel) rfl⟩
theorem yv_X6_sayLine : gYv yX6_sayLine cX6_sayLine 3 none 1 := ⟨⟨ini_X6, gT_in 1129 (by decide +kernel) rfl, by decide, by decide, (by decide +kernel)⟩, gT_in 1128 (by decide +kernel) rfl, gT_sel (q := (yX6_sayLine, 41)) 69 (by decide +kernel) rfl⟩
theorem yv_X6_digest : gYv yX6_digest cX6_digest 2 (some .long) 0 := ⟨⟨ini_X6, gT_in 1124 (by decide +kernel) rfl, by decide, by decide, (by decide +kernel)⟩, gT_in 1122 (by decide +kernel) rfl, gT_in 1123 (by decide +kernel) rfl⟩
theorem ys_J6_bitCount_0f7a4 : gYs yJ6_bitCount_0f7a4 cJ6_bitCount_0f7a4 1 (some .int) 1 := ⟨⟨ini_J6, gT_in 389 (by decide +kernel) rfl, by decide, by decide, (by decide +kernel)⟩, gT_in 388 (by decide +kernel) rfl⟩
theorem yv_J0_length_8abf5 : gYv yJ0_length_8abf5 cJ0_length_8abf5 1 (some .int) 0 := ⟨⟨ini_J0, gT_in 259 (by decide +kernel) rfl, by decide, by decide, (by decide +kernel)⟩, gT_in 257 (by decide +kernel) rfl, gT_in 258 (by decide +kernel) rfl⟩
theorem yv_J0_indexOf_0f7a4 : gYv yJ0_indexOf_0f7a4 cJ0_indexOf_0f7a4 2 (some .int) 1 := ⟨⟨ini_J0, gT_in 245 (by decide +kernel) rfl, by decide, by decide, (by decide +kernel)⟩, gT_in 243 (by decide +kernel) rfl, gT_in 244 (by decide +kernel) rfl⟩
theorem yv_J0_indexOf_7cf53 : gYv yJ0_indexOf_7cf53 cJ0_indexOf_7cf53 3 (some .int) 2 := ⟨⟨ini_J0, gT_in 249 (by decide +kernel) rfl, by decide, by decide, (by decide +kernel)⟩, gT_in 247 (by decide +kernel) rfl, gT_in 248 (by decide +kernel) rfl⟩
theorem yv_J0_coder_7d493 : gYv yJ0_coder_7d493 cJ0_coder_7d493 1 (some .byte) 0 := ⟨⟨ini_J0, gT_in 263 (by decide +kernel) rfl, by decide, by decide, (by decide +kernel)⟩, gT_in 261 (by decide +kernel) rfl, gT_in 262 (by decide +kernel) rfl⟩
theorem yv_J0_isLatin1_aae02 : gYv yJ0_isLatin1_aae02 cJ0_isLatin1_aae02 1 (some .boolean) 0 := ⟨⟨ini_J0, gT_in 253 (by decide +kernel) rfl, by decide, by decide, (by decide +kernel)⟩, gT_in 251 (by decide +kernel) rfl, gT_in 252 (by decide +kernel) rfl⟩
theorem ys_J0_checkBoundsBeginEnd_23922 : gYs yJ0_checkBoundsBeginEnd_23922 cJ0_checkBoundsBeginEnd_23922 3 none 3 := ⟨⟨ini_J0, gT_in 294 (by decide +kernel) rfl, by decide, by decide, (by decide +kernel)⟩, gT_in 293 (by decide +kernel) rfl⟩
theorem ys_J1_canEncode_9a6ad : gYs yJ1_canEncode_9a6ad cJ1_canEncode_9a6ad 1 (some .boolean) 1 := ⟨⟨ini_J1, gT_in 269 (by decide +kernel) rfl, by decide, by decide, (by decide +kernel)⟩, gT_in 268 (by decide +kernel) rfl⟩
theorem ys_J1_indexOf_4cfef : gYs yJ1_indexOf_4cfef cJ1_indexOf_4cfef 4 (some .int) 4 := ⟨⟨ini_J1, gT_in 266 (by decide +kernel) rfl, by decide, by decide, (by decide +kernel)⟩, gT_in 265 (by decide +kernel) rfl⟩
theorem ys_J1_indexOfChar_4cfef : gYs yJ1_indexOfChar_4cfef cJ1_indexOfChar_4cfef 6 (some .int) 4 := ⟨⟨ini_J1, gT_in 276 (by decide +kernel) rfl, by decide, by decide, (by decide +kernel)⟩, gT_in 275 (by decide +kernel) rfl⟩
/-! worlds -/
abbrev wFits (cI : ClassId) (cN o : Nat) (a : Nat → Nat) (S : Ob) : va_W := [(o, .inr (0, [.ref (a 0), .ref (a 1), .int (S.1 2)])), (a 0, .inl (cI, cN, .inl (S.2 0))), (a 1, .inl (cI, 16, .inl (S.2 1)))]
abbrev wPage (cC : ClassId) (o : Nat) (a : Nat → Nat) (S : Ob) : va_W := [(o, .inr (1, [.ref (a 0), .int (S.1 1), .int (S.1 2)])), (a 0, .inl (cC, 36, .inl (S.2 0)))]
abbrev wSrch (cI : ClassId) (o : Nat) (a : Nat → Nat) (S : Ob) : va_W := [(o, .inr (2, [.int (S.1 0), .int (S.1 1), .int (S.1 2), .int (S.1 3), .ref (a 4), .ref (a 5), .int (S.1 6), .int (S.1 7)])), (a 4, .inl (cI, 8, .inl (S.2 4))), (a 5, .inl (cI, 16, .inl (S.2 5)))]
abbrev wTab (cI cZ : ClassId) (o : Nat) (a : Nat → Nat) (S : Ob) : va_W := [(o, .inr (3, [.int (S.1 0), .int (S.1 1), .ref (a 2), .ref (a 3), .ref (a 4), .int (S.1 5), .int (S.1 6), .ref (a 7), .ref (a 8), .ref (a 9), .int (S.1 10)])), (a 2, .inl (cI, 8, .inl (S.2 2))), (a 3, .inl (cI, 8, .inl (S.2 3))), (a 4, .inl (cI, 8, .inl (S.2 4))), (a 7, .inl (cI, 6, .inl (S.2 7))), (a 8, .inl (cI, 6, .inl (S.2 8))), (a 9, .inl (cZ, 6, .inl (S.2 9)))]
abbrev wArr (cI : ClassId) (cN b : Nat) (f : Nat → Int32) : va_W := [(b, .inl (cI, cN, .inl f))]
abbrev wEP (cC cI cZ : ClassId) (o : Nat) (so : Nat → Nat) (sa : Nat → Nat → Nat) (E : OE) : va_W := [(o, .inr (4, [.ref (so 0), .ref (so 1), .ref (so 2), .ref (so 3), .ref (so 4), .ref (so 5), .ref (so 6), .int (E.1 7), .int (E.1 8), .int (E.1 9), .int (E.1 10), .int (E.1 11)]))] ++ (wPage cC (so 0) (sa 0) (E.2 0) ++ (wTab cI cZ (so 1) (sa 1) (E.2 1) ++ (wTab cI cZ (so 2) (sa 2) (E.2 2) ++ (wTab cI cZ (so 3) (sa 3) (E.2 3) ++ (wSrch cI (so 4) (sa 4) (E.2 4) ++ (wFits cI 1690 (so 5) (sa 5) (E.2 5) ++ wFits cI 200 (so 6) (sa 6) (E.2 6)))))))
abbrev wMod (cI cJ : ClassId) (o : Nat) (a : Nat → Nat) (M : OM) : va_W := [(o, .inr (5, [.ref (a 0), .int (M.1 1), .int (M.1 2), .int (M.1 3), .int (M.1 4), .int (M.1 5), .ref (a 6), .ref (a 7), .ref (a 8), .int (M.1 9), .int (M.1 10), .int (M.1 11), .ref (a 12), .ref (a 13), .ref (a 14), .ref (a 15), .int (M.1 16), .int (M.1 17), .int (M.1 18), .int (M.1 19), .int (M.1 20), .ref (a 21), .int (M.1 22), .ref (a 23), .ref (a 24), .int (M.1 25), .int (M.1 26), .int (M.1 27), .int (M.1 28), .ref (a 29), .int (M.1 30), .ref (a 31), .ref (a 32), .int (M.1 33), .int (M.1 34), .ref (a 35), .ref (a 36), .ref (a 37), .ref (a 38), .ref (a 39), .long M.2.2.1])), (a 0, .inl (cI, 36, .inl (M.2.1 0))), (a 6, .inl (cI, 8, .inl (M.2.1 6))), (a 7, .inl (cI, 8, .inl (M.2.1 7))), (a 8, .inl (cI, 8, .inl (M.2.1 8))), (a 12, .inl (cI, 8, .inl (M.2.1 12))), (a 13, .inl (cI, 8, .inl (M.2.1 13))), (a 14, .inl (cI, 8, .inl (M.2.1 14))), (a 15, .inl (cI, 16, .inl (M.2.1 15))), (a 21, .inl (cJ, 1024, .inr (.inl M.2.2.2))), (a 23, .inl (cI, 16, .inl (M.2.1 23))), (a 24, .inl (cI, 128, .inl (M.2.1 24))), (a 29, .inl (cI, 18, .inl (M.2.1 29))), (a 31, .inl (cI, 200, .inl (M.2.1 31))), (a 32, .inl (cI, 16, .inl (M.2.1 32))), (a 35, .inl (cI, 8, .inl (M.2.1 35))), (a 36, .inl (cI, 8, .inl (M.2.1 36))), (a 37, .inl (cI, 8, .inl (M.2.1 37))), (a 38, .inl (cI, 16, .inl (M.2.1 38))), (a 39, .inl (cI, 18, .inl (M.2.1 39)))]
