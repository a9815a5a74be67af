-- OrbitBox$Handler.<init>(LOrbitBox$Craft;LOrbitBox$Table;LOrbitBox$Table;LOrbitBox$Row;)V
theorem d_Handler_init_0 : ob_dv ob_ac k_Handler_init 0 1 0 (.aload_n 0) 1 := ⟨by decide +kernel, rfl, rfl⟩
theorem d_Handler_init_1 : ob_dc k_Handler_init 1 (.invokespecial 3) 3 4 := ⟨by decide +kernel, rfl⟩
theorem d_Handler_init_4 : ob_dv ob_ac k_Handler_init 4 5 0 (.aload_n 0) 1 := ⟨by decide +kernel, rfl, rfl⟩
theorem d_Handler_init_5 : ob_dv ob_ac k_Handler_init 5 6 1 (.aload_n 1) 1 := ⟨by decide +kernel, rfl, rfl⟩
theorem d_Handler_init_6 : ob_dc k_Handler_init 6 (.putfield 9) 3 9 := ⟨by decide +kernel, rfl⟩
theorem d_Handler_init_9 : ob_dv ob_ac k_Handler_init 9 10 0 (.aload_n 0) 1 := ⟨by decide +kernel, rfl, rfl⟩
theorem d_Handler_init_10 : ob_dv ob_ac k_Handler_init 10 11 1 (.aload_n 1) 1 := ⟨by decide +kernel, rfl, rfl⟩
theorem d_Handler_init_11 : ob_dc k_Handler_init 11 (.getfield 15) 3 14 := ⟨by decide +kernel, rfl⟩
theorem d_Handler_init_14 : ob_dc k_Handler_init 14 (.putfield 21) 3 17 := ⟨by decide +kernel, rfl⟩
theorem d_Handler_init_17 : ob_dv ob_ac k_Handler_init 17 18 0 (.aload_n 0) 1 := ⟨by decide +kernel, rfl, rfl⟩
theorem d_Handler_init_18 : ob_dv ob_ac k_Handler_init 18 19 1 (.aload_n 1) 1 := ⟨by decide +kernel, rfl, rfl⟩
theorem d_Handler_init_19 : ob_dc k_Handler_init 19 (.getfield 22) 3 22 := ⟨by decide +kernel, rfl⟩
theorem d_Handler_init_22 : ob_dc k_Handler_init 22 (.putfield 26) 3 25 := ⟨by decide +kernel, rfl⟩
theorem d_Handler_init_25 : ob_dv ob_ac k_Handler_init 25 26 0 (.aload_n 0) 1 := ⟨by decide +kernel, rfl, rfl⟩
theorem d_Handler_init_26 : ob_dv ob_ac k_Handler_init 26 27 1 (.aload_n 1) 1 := ⟨by decide +kernel, rfl, rfl⟩
theorem d_Handler_init_27 : ob_dc k_Handler_init 27 (.getfield 27) 3 30 := ⟨by decide +kernel, rfl⟩
theorem d_Handler_init_30 : ob_dc k_Handler_init 30 (.putfield 31) 3 33 := ⟨by decide +kernel, rfl⟩
theorem d_Handler_init_33 : ob_dv ob_ac k_Handler_init 33 34 0 (.aload_n 0) 1 := ⟨by decide +kernel, rfl, rfl⟩
theorem d_Handler_init_34 : ob_dv ob_ac k_Handler_init 34 35 1 (.aload_n 1) 1 := ⟨by decide +kernel, rfl, rfl⟩
theorem d_Handler_init_35 : ob_dc k_Handler_init 35 (.getfield 32) 3 38 := ⟨by decide +kernel, rfl⟩
theorem d_Handler_init_38 : ob_dc k_Handler_init 38 (.putfield 36) 3 41 := ⟨by decide +kernel, rfl⟩
theorem d_Handler_init_41 : ob_dv ob_ac k_Handler_init 41 42 0 (.aload_n 0) 1 := ⟨by decide +kernel, rfl, rfl⟩
theorem d_Handler_init_42 : ob_dv ob_ac k_Handler_init 42 43 2 (.aload_n 2) 1 := ⟨by decide +kernel, rfl, rfl⟩
theorem d_Handler_init_43 : ob_dc k_Handler_init 43 (.putfield 37) 3 46 := ⟨by decide +kernel, rfl⟩
theorem d_Handler_init_46 : ob_dv ob_ac k_Handler_init 46 47 0 (.aload_n 0) 1 := ⟨by decide +kernel, rfl, rfl⟩
theorem d_Handler_init_47 : ob_dv ob_ac k_Handler_init 47 48 3 (.aload_n 3) 1 := ⟨by decide +kernel, rfl, rfl⟩
theorem d_Handler_init_48 : ob_dc k_Handler_init 48 (.putfield 41) 3 51 := ⟨by decide +kernel, rfl⟩
theorem d_Handler_init_51 : ob_dv ob_ac k_Handler_init 51 52 0 (.aload_n 0) 1 := ⟨by decide +kernel, rfl, rfl⟩
theorem d_Handler_init_52 : ob_dv ob_ac k_Handler_init 52 54 4 (.aload 4) 2 := ⟨by decide +kernel, rfl, rfl⟩
theorem d_Handler_init_54 : ob_dc k_Handler_init 54 (.putfield 44) 3 57 := ⟨by decide +kernel, rfl⟩
theorem d_Handler_init_57 : ob_dv ob_ac k_Handler_init 57 58 0 (.aload_n 0) 1 := ⟨by decide +kernel, rfl, rfl⟩
theorem d_Handler_init_58 : ob_dc k_Handler_init 58 (.new 48) 3 61 := ⟨by decide +kernel, rfl⟩
theorem d_Handler_init_61 : ob_dc k_Handler_init 61 (.dup) 1 62 := ⟨by decide +kernel, rfl⟩
theorem d_Handler_init_62 : ob_dk k_Handler_init 62 65 (252 : Int32) (.sipush 252) 3 := ⟨by decide +kernel, rfl, show (Int16.ofInt 252).toInt32 = (252 : Int32) by decide +kernel⟩
theorem d_Handler_init_65 : ob_dc k_Handler_init 65 (.invokespecial 50) 3 68 := ⟨by decide +kernel, rfl⟩
theorem d_Handler_init_68 : ob_dc k_Handler_init 68 (.putfield 53) 3 71 := ⟨by decide +kernel, rfl⟩
theorem d_Handler_init_71 : ob_dc k_Handler_init 71 (.return_) 1 72 := ⟨by decide +kernel, rfl⟩
theorem c_Handler_init_50 : ob_id k_Handler_init k_Row_init 50 1 := ⟨cw_Row_init, yd_Row_init, w_399, w_32, w_2, ⟨by decide, by decide⟩, rfl, rfl⟩
def f_Handler_init (v0 : Nat) (v1 : Nat) (v2 : Nat) (v3 : Nat) (v4 : Nat) (S : ob_S) (D : ob_D) : Option (ob_S × ob_D) :=
  ob_lt (ob_pR D v0 0 v1) fun D1 => ob_gt (D1.2.1 v1 2 ≠ 0) <| ob_lt (ob_pR D1 v0 1 (D1.2.1 v1 2)) fun D7 => ob_gt (D7.2.1 v1 3 ≠ 0) <| ob_lt (ob_pR D7 v0 2 (D7.2.1 v1 3)) fun D13 => ob_gt (D13.2.1 v1 4 ≠ 0) <| ob_lt (ob_pR D13 v0 3 (D13.2.1 v1 4)) fun D19 => ob_gt (D19.2.1 v1 5 ≠ 0) <| ob_lt (ob_pR D19 v0 4 (D19.2.1 v1 5)) fun D25 => ob_lt (ob_pR D25 v0 5 v2) fun D27 => ob_lt (ob_pR D27 v0 6 v3) fun D29 => ob_lt (ob_pR D29 v0 7 v4) fun D31 => ob_lt (ob_new S 2 0 2) fun S33 => ob_lt (ob_z D31 S.2.2.1) fun D34 => ob_bd (f_Row_init (S.2.2.1) (252 : Int32) S33 D34) fun S43 D44 => ob_lt (ob_pR D44 v0 8 (S.2.2.1)) fun D52 => some (S43, D52)
theorem e_Handler_init {v0 : Nat} {v1 : Nat} {v2 : Nat} {v3 : Nat} {v4 : Nat} {S T : ob_S} {D D' : ob_D} (h : f_Handler_init v0 v1 v2 v3 v4 S D = some (T, D')) : ob_ext S T := by
  rw [f_Handler_init] at h
  obtain ⟨D1, hD2, h⟩ := ob_lt_x h
  obtain ⟨hg3, h⟩ := ob_gt_e h
  obtain ⟨D7, hD8, h⟩ := ob_lt_x h
  obtain ⟨hg9, h⟩ := ob_gt_e h
  obtain ⟨D13, hD14, h⟩ := ob_lt_x h
  obtain ⟨hg15, h⟩ := ob_gt_e h
  obtain ⟨D19, hD20, h⟩ := ob_lt_x h
  obtain ⟨hg21, h⟩ := ob_gt_e h
  obtain ⟨D25, hD26, h⟩ := ob_lt_x h
  obtain ⟨D27, hD28, h⟩ := ob_lt_x h
  obtain ⟨D29, hD30, h⟩ := ob_lt_x h
  obtain ⟨D31, hD32, h⟩ := ob_lt_x h
  obtain ⟨S33, hS35, h⟩ := ob_lt_x h
  obtain ⟨D34, hD36, h⟩ := ob_lt_x h
  obtain ⟨S43, D44, h45, h⟩ := ob_bd_e h
  obtain ⟨D52, hD53, h⟩ := ob_lt_x h
  obtain ⟨he1, he2⟩ := ob_pe h
  have x_S43 : ob_ext S43 T := ob_ext_eq he1
  have x_S33 : ob_ext S33 T := (e_Row_init h45).tr x_S43
  have x_S : ob_ext S T := (ob_ext_new hS35).tr x_S33
  exact x_S
theorem c_Handler_init {l : Launch} {E : ob_E} {S T : ob_S} {D D' : ob_D} {v0 : Nat} {v1 : Nat} {v2 : Nat} {v3 : Nat} {v4 : Nat} (hp_v0 : S.1 v0 = 12) (hp_v1 : S.1 v1 = 11) (hp_v2 : S.1 v2 = 8) (hp_v3 : S.1 v3 = 8) (hp_v4 : S.1 v4 = 2) (h : f_Handler_init v0 v1 v2 v3 v4 S D = some (T, D')) : ob_M l E k_Handler_init [.ref v0, .ref v1, .ref v2, .ref v3, .ref v4] S D none T D' := by
  have xx := e_Handler_init h
  refine ob_ofV (lo := [(0, .ref v0), (1, .ref v1), (2, .ref v2), (3, .ref v3), (4, .ref v4)]) (by decide) rfl (Nat.le_of_ble_eq_true rfl) rfl xx.1 xx.2.1 ?_
  rw [f_Handler_init] at h
  refine ob_withH fun H0 hH0 => ?_
  have kd_v0 := ob_kdH hH0 hp_v0
  have kd_v1 := ob_kdH hH0 hp_v1
  have kd_v2 := ob_kdH hH0 hp_v2
  have kd_v3 := ob_kdH hH0 hp_v3
  have kd_v4 := ob_kdH hH0 hp_v4
  obtain ⟨D1, hD2, h⟩ := ob_lt_x h
  obtain ⟨hg3, h⟩ := ob_gt_e h
  obtain ⟨D7, hD8, h⟩ := ob_lt_x h
  obtain ⟨hg9, h⟩ := ob_gt_e h
  obtain ⟨D13, hD14, h⟩ := ob_lt_x h
  obtain ⟨hg15, h⟩ := ob_gt_e h
  obtain ⟨D19, hD20, h⟩ := ob_lt_x h
  obtain ⟨hg21, h⟩ := ob_gt_e h
  obtain ⟨D25, hD26, h⟩ := ob_lt_x h
  obtain ⟨D27, hD28, h⟩ := ob_lt_x h
  obtain ⟨D29, hD30, h⟩ := ob_lt_x h
  obtain ⟨D31, hD32, h⟩ := ob_lt_x h
  obtain ⟨S33, hS35, h⟩ := ob_lt_x h
  obtain ⟨D34, hD36, h⟩ := ob_lt_x h
  obtain ⟨S43, D44, h45, h⟩ := ob_bd_e h
  obtain ⟨D52, hD53, h⟩ := ob_lt_x h
  obtain ⟨he1, he2⟩ := ob_pe h
  have x_S43 : ob_ext S43 T := ob_ext_eq he1
  have x_S33 : ob_ext S33 T := (e_Row_init h45).tr x_S43
  have x_S : ob_ext S T := (ob_ext_new hS35).tr x_S33
  refine ob_aload d_Handler_init_0 rfl ?_
  refine ob_objI d_Handler_init_1 w_397 w_27 w_28 (by decide) (Nat.le_of_ble_eq_true rfl) ?_
  refine ob_aload d_Handler_init_4 rfl ?_
  refine ob_aload d_Handler_init_5 rfl ?_
  refine ob_xI hD2 (ob_putFR d_Handler_init_6 F_11_0 w_400 ⟨rfl, rfl⟩ (fty := (.object "OrbitBox$Craft")) (by decide) rfl rfl kd_v0.1 kd_v1.1) ?_
  refine ob_aload d_Handler_init_9 rfl ?_
  refine ob_aload d_Handler_init_10 rfl ?_
  refine ob_getR d_Handler_init_11 F_10_2 l_Handler_15 kd_v1.1 hg3 (fun hk4 => ?_)
  refine ob_withH fun H5 hH5 => ?_
  have hk6 := ob_kdH hH5 hk4
  refine ob_xI hD8 (ob_putFR d_Handler_init_14 F_11_1 w_401 ⟨rfl, rfl⟩ (fty := (.object "OrbitBox$Gate")) (by decide) rfl rfl kd_v0.1 hk6.1) ?_
  refine ob_aload d_Handler_init_17 rfl ?_
  refine ob_aload d_Handler_init_18 rfl ?_
  refine ob_getR d_Handler_init_19 F_10_3 l_Handler_22 kd_v1.1 hg9 (fun hk10 => ?_)
  refine ob_withH fun H11 hH11 => ?_
  have hk12 := ob_kdH hH11 hk10
  refine ob_xI hD14 (ob_putFR d_Handler_init_22 F_11_2 w_402 ⟨rfl, rfl⟩ (fty := (.object "OrbitBox$Timetable")) (by decide) rfl rfl kd_v0.1 hk12.1) ?_
  refine ob_aload d_Handler_init_25 rfl ?_
  refine ob_aload d_Handler_init_26 rfl ?_
  refine ob_getR d_Handler_init_27 F_10_4 l_Handler_27 kd_v1.1 hg15 (fun hk16 => ?_)
  refine ob_withH fun H17 hH17 => ?_
  have hk18 := ob_kdH hH17 hk16
  refine ob_xI hD20 (ob_putFR d_Handler_init_30 F_11_3 w_403 ⟨rfl, rfl⟩ (fty := (.object "OrbitBox$Events")) (by decide) rfl rfl kd_v0.1 hk18.1) ?_
  refine ob_aload d_Handler_init_33 rfl ?_
  refine ob_aload d_Handler_init_34 rfl ?_
  refine ob_getR d_Handler_init_35 F_10_5 l_Handler_32 kd_v1.1 hg21 (fun hk22 => ?_)
  refine ob_withH fun H23 hH23 => ?_
  have hk24 := ob_kdH hH23 hk22
  refine ob_xI hD26 (ob_putFR d_Handler_init_38 F_11_4 w_404 ⟨rfl, rfl⟩ (fty := (.object "OrbitBox$Reports")) (by decide) rfl rfl kd_v0.1 hk24.1) ?_
  refine ob_aload d_Handler_init_41 rfl ?_
  refine ob_aload d_Handler_init_42 rfl ?_
  refine ob_xI hD28 (ob_putFR d_Handler_init_43 F_11_5 w_405 ⟨rfl, rfl⟩ (fty := (.object "OrbitBox$Table")) (by decide) rfl rfl kd_v0.1 kd_v2.1) ?_
  refine ob_aload d_Handler_init_46 rfl ?_
  refine ob_aload d_Handler_init_47 rfl ?_
  refine ob_xI hD30 (ob_putFR d_Handler_init_48 F_11_6 w_406 ⟨rfl, rfl⟩ (fty := (.object "OrbitBox$Table")) (by decide) rfl rfl kd_v0.1 kd_v3.1) ?_
  refine ob_aload d_Handler_init_51 rfl ?_
  refine ob_aload d_Handler_init_52 rfl ?_
  refine ob_xI hD32 (ob_putFR d_Handler_init_54 F_11_7 w_407 ⟨rfl, rfl⟩ (fty := (.object "OrbitBox$Row")) (by decide) rfl rfl kd_v0.1 kd_v4.1) ?_
  refine ob_aload d_Handler_init_57 rfl ?_
  refine ob_newO d_Handler_init_58 N_1 w_398 hS35 hD36 x_S33 ?_
  have hk37 := ob_kd_new hS35 kd_v0
  have hk38 := ob_kd_new hS35 kd_v1
  have hk39 := ob_kd_new hS35 kd_v2
  have hk40 := ob_kd_new hS35 kd_v3
  have hk41 := ob_kd_new hS35 kd_v4
  have hk42 : ob_kd S33 S.2.2.1 2 := ob_kd_this hS35 (by decide)
  refine ob_dup d_Handler_init_61 rfl ?_
  refine ob_push d_Handler_init_62 ?_
  refine ob_callI (As := [.int (252 : Int32)]) (rest := [.ref (S.2.2.1), .ref v0]) d_Handler_init_65 c_Handler_init_50 rfl rfl (Nat.le_of_ble_eq_true rfl) (c_Row_init hk42.1 h45) (ob_ext_m (e_Row_init h45)) (ob_ext_m x_S43) ?_
  have hk46 := ob_kd_ext (e_Row_init h45) hk37
  have hk47 := ob_kd_ext (e_Row_init h45) hk38
  have hk48 := ob_kd_ext (e_Row_init h45) hk39
  have hk49 := ob_kd_ext (e_Row_init h45) hk40
  have hk50 := ob_kd_ext (e_Row_init h45) hk41
  have hk51 := ob_kd_ext (e_Row_init h45) hk42
  refine ob_xI hD53 (ob_putFR d_Handler_init_68 F_11_8 w_408 ⟨rfl, rfl⟩ (fty := (.object "OrbitBox$Row")) (by decide) rfl rfl hk46.1 hk51.1) ?_
  exact ob_vee he1 he2 (ob_vret d_Handler_init_71 rfl)
-- OrbitBox$Handler.isRightLength(III)Z
theorem d_Handler_isRightLength_1 : ob_dk k_Handler_isRightLength 1 2 (-1 : Int32) (.iconst (-1)) 1 := ⟨by decide +kernel, rfl, show Int32.ofInt (-1) = (-1 : Int32) by decide +kernel⟩
theorem d_Handler_isRightLength_24 : ob_dk k_Handler_isRightLength 24 25 (-1 : Int32) (.iconst (-1)) 1 := ⟨by decide +kernel, rfl, show Int32.ofInt (-1) = (-1 : Int32) by decide +kernel⟩
theorem d_Handler_isRightLength_51 : ob_dk k_Handler_isRightLength 51 52 (0 : Int32) (.iconst 0) 1 := ⟨by decide +kernel, rfl, show Int32.ofInt 0 = (0 : Int32) by decide +kernel⟩
theorem d_Handler_isRightLength_52 : ob_dc k_Handler_isRightLength 52 (.ireturn) 1 53 := ⟨by decide +kernel, rfl⟩
theorem d_Handler_isRightLength_47 : ob_dk k_Handler_isRightLength 47 48 (1 : Int32) (.iconst 1) 1 := ⟨by decide +kernel, rfl, show Int32.ofInt 1 = (1 : Int32) by decide +kernel⟩
theorem d_Handler_isRightLength_48 : ob_db k_Handler_isRightLength 48 (.goto 4) 4 51 52 := ⟨by decide +kernel, rfl, by decide⟩
theorem d_Handler_isRightLength_44 : ob_db k_Handler_isRightLength 44 (.if_icmp .ne 7) 7 47 51 := ⟨by decide +kernel, rfl, by decide⟩
theorem d_Handler_isRightLength_43 : ob_dv ob_lc k_Handler_isRightLength 43 44 0 (.iload_n 0) 1 := ⟨by decide +kernel, rfl, rfl⟩
theorem d_Handler_isRightLength_42 : ob_dv ob_lc k_Handler_isRightLength 42 43 1 (.iload_n 1) 1 := ⟨by decide +kernel, rfl, rfl⟩
theorem d_Handler_isRightLength_38 : ob_dk k_Handler_isRightLength 38 39 (0 : Int32) (.iconst 0) 1 := ⟨by decide +kernel, rfl, show Int32.ofInt 0 = (0 : Int32) by decide +kernel⟩
theorem d_Handler_isRightLength_39 : ob_db k_Handler_isRightLength 39 (.goto 13) 13 42 52 := ⟨by decide +kernel, rfl, by decide⟩
theorem d_Handler_isRightLength_34 : ob_dk k_Handler_isRightLength 34 35 (1 : Int32) (.iconst 1) 1 := ⟨by decide +kernel, rfl, show Int32.ofInt 1 = (1 : Int32) by decide +kernel⟩
theorem d_Handler_isRightLength_35 : ob_db k_Handler_isRightLength 35 (.goto 17) 17 38 52 := ⟨by decide +kernel, rfl, by decide⟩
theorem d_Handler_isRightLength_31 : ob_db k_Handler_isRightLength 31 (.if_icmp .lt 7) 7 34 38 := ⟨by decide +kernel, rfl, by decide⟩
theorem d_Handler_isRightLength_30 : ob_dc k_Handler_isRightLength 30 (.ineg) 1 31 := ⟨by decide +kernel, rfl⟩
theorem d_Handler_isRightLength_29 : ob_dv ob_lc k_Handler_isRightLength 29 30 0 (.iload_n 0) 1 := ⟨by decide +kernel, rfl, rfl⟩
theorem d_Handler_isRightLength_28 : ob_dv ob_lc k_Handler_isRightLength 28 29 1 (.iload_n 1) 1 := ⟨by decide +kernel, rfl, rfl⟩
theorem d_Handler_isRightLength_25 : ob_db k_Handler_isRightLength 25 (.if_icmp .ge 17) 17 28 42 := ⟨by decide +kernel, rfl, by decide⟩
theorem d_Handler_isRightLength_23 : ob_dv ob_lc k_Handler_isRightLength 23 24 0 (.iload_n 0) 1 := ⟨by decide +kernel, rfl, rfl⟩
theorem d_Handler_isRightLength_6 : ob_dk k_Handler_isRightLength 6 7 (3 : Int32) (.iconst 3) 1 := ⟨by decide +kernel, rfl, show Int32.ofInt 3 = (3 : Int32) by decide +kernel⟩
theorem d_Handler_isRightLength_21 : ob_dk k_Handler_isRightLength 21 22 (0 : Int32) (.iconst 0) 1 := ⟨by decide +kernel, rfl, show Int32.ofInt 0 = (0 : Int32) by decide +kernel⟩
theorem d_Handler_isRightLength_22 : ob_dc k_Handler_isRightLength 22 (.ireturn) 1 23 := ⟨by decide +kernel, rfl⟩
theorem d_Handler_isRightLength_11 : ob_dk k_Handler_isRightLength 11 12 (3 : Int32) (.iconst 3) 1 := ⟨by decide +kernel, rfl, show Int32.ofInt 3 = (3 : Int32) by decide +kernel⟩
theorem d_Handler_isRightLength_17 : ob_dk k_Handler_isRightLength 17 18 (1 : Int32) (.iconst 1) 1 := ⟨by decide +kernel, rfl, show Int32.ofInt 1 = (1 : Int32) by decide +kernel⟩
theorem d_Handler_isRightLength_18 : ob_db k_Handler_isRightLength 18 (.goto 4) 4 21 22 := ⟨by decide +kernel, rfl, by decide⟩
theorem d_Handler_isRightLength_14 : ob_db k_Handler_isRightLength 14 (.if_icmp .ne 7) 7 17 21 := ⟨by decide +kernel, rfl, by decide⟩
theorem d_Handler_isRightLength_13 : ob_dc k_Handler_isRightLength 13 (.iadd) 1 14 := ⟨by decide +kernel, rfl⟩
theorem d_Handler_isRightLength_12 : ob_dv ob_lc k_Handler_isRightLength 12 13 2 (.iload_n 2) 1 := ⟨by decide +kernel, rfl, rfl⟩
theorem d_Handler_isRightLength_10 : ob_dv ob_lc k_Handler_isRightLength 10 11 1 (.iload_n 1) 1 := ⟨by decide +kernel, rfl, rfl⟩
theorem d_Handler_isRightLength_7 : ob_db k_Handler_isRightLength 7 (.if_icmp .lt 14) 14 10 21 := ⟨by decide +kernel, rfl, by decide⟩
theorem d_Handler_isRightLength_5 : ob_dv ob_lc k_Handler_isRightLength 5 6 1 (.iload_n 1) 1 := ⟨by decide +kernel, rfl, rfl⟩
theorem d_Handler_isRightLength_2 : ob_db k_Handler_isRightLength 2 (.if_icmp .ne 21) 21 5 23 := ⟨by decide +kernel, rfl, by decide⟩
theorem d_Handler_isRightLength_0 : ob_dv ob_lc k_Handler_isRightLength 0 1 0 (.iload_n 0) 1 := ⟨by decide +kernel, rfl, rfl⟩
def f_Handler_isRightLength (S : ob_S) (v0 : Int32) (v1 : Int32) (v2 : Int32) (D : ob_D) : Option (Int32 × ob_D) :=
  (if v0 = (-1 : Int32) then (if v1 < (3 : Int32) then some ((0 : Int32), D) else (if v1 = ((3 : Int32) + v2) then some ((1 : Int32), D) else some ((0 : Int32), D))) else (if (-1 : Int32) ≤ v0 then (if v1 = v0 then some ((1 : Int32), D) else some ((0 : Int32), D)) else (if v1 < (-v0) then some ((0 : Int32), D) else some ((1 : Int32), D))))
theorem c_Handler_isRightLength {l : Launch} {E : ob_E} {S : ob_S} {D : ob_D} {v0 : Int32} {v1 : Int32} {v2 : Int32} {r : Int32} {D' : ob_D}  (h : f_Handler_isRightLength S v0 v1 v2 D = some (r, D')) : ob_M l E k_Handler_isRightLength [.int v0, .int v1, .int v2] S D (some (.int r)) S D' := by
  refine ob_ofV (lo := [(0, .int v0), (1, .int v1), (2, .int v2)]) (by decide) rfl (Nat.le_of_ble_eq_true rfl) rfl (Nat.le_refl _) (Nat.le_refl _) ?_
  rw [f_Handler_isRightLength] at h
  refine ob_iload d_Handler_isRightLength_0 rfl ?_
  refine ob_push d_Handler_isRightLength_1 ?_
  refine ob_icmp_ne d_Handler_isRightLength_2 (fun hc => ?_) (fun hc => ?_)
  · replace h := ob_iff hc h
    refine ob_iload d_Handler_isRightLength_23 rfl ?_
    refine ob_push d_Handler_isRightLength_24 ?_
    refine ob_icmp_ge d_Handler_isRightLength_25 (fun hc => ?_) (fun hc => ?_)
    · replace h := ob_ift hc h
      refine ob_iload d_Handler_isRightLength_42 rfl ?_
      refine ob_iload d_Handler_isRightLength_43 rfl ?_
      refine ob_icmp_ne d_Handler_isRightLength_44 (fun hc => ?_) (fun hc => ?_)
      · replace h := ob_iff hc h
        refine ob_push d_Handler_isRightLength_51 ?_
        exact ob_ie h (ob_iret d_Handler_isRightLength_52 rfl rfl)
      · replace h := ob_ift hc h
        refine ob_push d_Handler_isRightLength_47 ?_
        refine ob_goto d_Handler_isRightLength_48 ?_
        exact ob_ie h (ob_iret d_Handler_isRightLength_52 rfl rfl)
    · replace h := ob_iff hc h
      refine ob_iload d_Handler_isRightLength_28 rfl ?_
      refine ob_iload d_Handler_isRightLength_29 rfl ?_
      refine ob_ineg d_Handler_isRightLength_30 ?_
      refine ob_icmp_lt d_Handler_isRightLength_31 (fun hc => ?_) (fun hc => ?_)
      · replace h := ob_ift hc h
        refine ob_push d_Handler_isRightLength_38 ?_
        refine ob_goto d_Handler_isRightLength_39 ?_
        exact ob_ie h (ob_iret d_Handler_isRightLength_52 rfl rfl)
      · replace h := ob_iff hc h
        refine ob_push d_Handler_isRightLength_34 ?_
        refine ob_goto d_Handler_isRightLength_35 ?_
        exact ob_ie h (ob_iret d_Handler_isRightLength_52 rfl rfl)
  · replace h := ob_ift hc h
    refine ob_iload d_Handler_isRightLength_5 rfl ?_
    refine ob_push d_Handler_isRightLength_6 ?_
    refine ob_icmp_lt d_Handler_isRightLength_7 (fun hc => ?_) (fun hc => ?_)
    · replace h := ob_ift hc h
      refine ob_push d_Handler_isRightLength_21 ?_
      exact ob_ie h (ob_iret d_Handler_isRightLength_22 rfl rfl)
    · replace h := ob_iff hc h
      refine ob_iload d_Handler_isRightLength_10 rfl ?_
      refine ob_push d_Handler_isRightLength_11 ?_
      refine ob_iload d_Handler_isRightLength_12 rfl ?_
      refine ob_iadd d_Handler_isRightLength_13 ?_
      refine ob_icmp_ne d_Handler_isRightLength_14 (fun hc => ?_) (fun hc => ?_)
      · replace h := ob_iff hc h
        refine ob_push d_Handler_isRightLength_21 ?_
        exact ob_ie h (ob_iret d_Handler_isRightLength_22 rfl rfl)
      · replace h := ob_ift hc h
        refine ob_push d_Handler_isRightLength_17 ?_
        refine ob_goto d_Handler_isRightLength_18 ?_
        exact ob_ie h (ob_iret d_Handler_isRightLength_22 rfl rfl)
-- OrbitBox$Handler.kindFaultOf(LOrbitBox$Row;II)I
theorem d_Handler_kindFaultOf_2 : ob_dk k_Handler_kindFaultOf 2 4 (7 : Int32) (.bipush 7) 2 := ⟨by decide +kernel, rfl, show (Int8.ofInt 7).toInt32 = (7 : Int32) by decide +kernel⟩
theorem d_Handler_kindFaultOf_5 : ob_dk k_Handler_kindFaultOf 5 6 (2 : Int32) (.iconst 2) 1 := ⟨by decide +kernel, rfl, show Int32.ofInt 2 = (2 : Int32) by decide +kernel⟩
theorem d_Handler_kindFaultOf_10 : ob_dk k_Handler_kindFaultOf 10 11 (0 : Int32) (.iconst 0) 1 := ⟨by decide +kernel, rfl, show Int32.ofInt 0 = (0 : Int32) by decide +kernel⟩
theorem d_Handler_kindFaultOf_15 : ob_dk k_Handler_kindFaultOf 15 16 (1 : Int32) (.iconst 1) 1 := ⟨by decide +kernel, rfl, show Int32.ofInt 1 = (1 : Int32) by decide +kernel⟩
theorem d_Handler_kindFaultOf_77 : ob_dk k_Handler_kindFaultOf 77 79 (6 : Int32) (.bipush 6) 2 := ⟨by decide +kernel, rfl, show (Int8.ofInt 6).toInt32 = (6 : Int32) by decide +kernel⟩
theorem d_Handler_kindFaultOf_79 : ob_dc k_Handler_kindFaultOf 79 (.ireturn) 1 80 := ⟨by decide +kernel, rfl⟩
theorem d_Handler_kindFaultOf_71 : ob_di k_Handler_kindFaultOf 71 74 4 2 (2 : Int32) := ⟨by decide +kernel, rfl, by decide +kernel, by decide +kernel⟩
theorem d_Handler_kindFaultOf_74 : ob_db k_Handler_kindFaultOf 74 (.goto (-61)) (-61) 77 13 := ⟨by decide +kernel, rfl, by decide⟩
theorem d_Handler_kindFaultOf_36 : ob_dk k_Handler_kindFaultOf 36 38 (11 : Int32) (.bipush 11) 2 := ⟨by decide +kernel, rfl, show (Int8.ofInt 11).toInt32 = (11 : Int32) by decide +kernel⟩
theorem d_Handler_kindFaultOf_39 : ob_dk k_Handler_kindFaultOf 39 40 (2 : Int32) (.iconst 2) 1 := ⟨by decide +kernel, rfl, show Int32.ofInt 2 = (2 : Int32) by decide +kernel⟩
theorem d_Handler_kindFaultOf_41 : ob_dk k_Handler_kindFaultOf 41 42 (1 : Int32) (.iconst 1) 1 := ⟨by decide +kernel, rfl, show Int32.ofInt 1 = (1 : Int32) by decide +kernel⟩
theorem d_Handler_kindFaultOf_52 : ob_dk k_Handler_kindFaultOf 52 53 (1 : Int32) (.iconst 1) 1 := ⟨by decide +kernel, rfl, show Int32.ofInt 1 = (1 : Int32) by decide +kernel⟩
theorem d_Handler_kindFaultOf_68 : ob_dk k_Handler_kindFaultOf 68 70 (7 : Int32) (.bipush 7) 2 := ⟨by decide +kernel, rfl, show (Int8.ofInt 7).toInt32 = (7 : Int32) by decide +kernel⟩
theorem d_Handler_kindFaultOf_70 : ob_dc k_Handler_kindFaultOf 70 (.ireturn) 1 71 := ⟨by decide +kernel, rfl⟩
theorem d_Handler_kindFaultOf_64 : ob_dk k_Handler_kindFaultOf 64 65 (0 : Int32) (.iconst 0) 1 := ⟨by decide +kernel, rfl, show Int32.ofInt 0 = (0 : Int32) by decide +kernel⟩
theorem d_Handler_kindFaultOf_65 : ob_db k_Handler_kindFaultOf 65 (.goto 5) 5 68 70 := ⟨by decide +kernel, rfl, by decide⟩
theorem d_Handler_kindFaultOf_61 : ob_db k_Handler_kindFaultOf 61 (.ifCond .eq 7) 7 64 68 := ⟨by decide +kernel, rfl, by decide⟩
theorem d_Handler_kindFaultOf_58 : ob_dc k_Handler_kindFaultOf 58 (.invokestatic 176) 3 61 := ⟨by decide +kernel, rfl⟩
theorem d_Handler_kindFaultOf_56 : ob_dv ob_lc k_Handler_kindFaultOf 56 58 5 (.iload 5) 2 := ⟨by decide +kernel, rfl, rfl⟩
theorem d_Handler_kindFaultOf_55 : ob_dv ob_lc k_Handler_kindFaultOf 55 56 2 (.iload_n 2) 1 := ⟨by decide +kernel, rfl, rfl⟩
theorem d_Handler_kindFaultOf_54 : ob_dc k_Handler_kindFaultOf 54 (.iaload) 1 55 := ⟨by decide +kernel, rfl⟩
theorem d_Handler_kindFaultOf_53 : ob_dc k_Handler_kindFaultOf 53 (.iadd) 1 54 := ⟨by decide +kernel, rfl⟩
theorem d_Handler_kindFaultOf_50 : ob_dv ob_lc k_Handler_kindFaultOf 50 52 4 (.iload 4) 2 := ⟨by decide +kernel, rfl, rfl⟩
theorem d_Handler_kindFaultOf_47 : ob_dc k_Handler_kindFaultOf 47 (.getstatic 172) 3 50 := ⟨by decide +kernel, rfl⟩
theorem d_Handler_kindFaultOf_45 : ob_dv (ob_sc k_Handler_kindFaultOf.2.2.2.1) k_Handler_kindFaultOf 45 47 5 (.istore 5) 2 := ⟨by decide +kernel, rfl, ⟨rfl, by decide +kernel⟩⟩
theorem d_Handler_kindFaultOf_42 : ob_dc k_Handler_kindFaultOf 42 (.invokevirtual 150) 3 45 := ⟨by decide +kernel, rfl⟩
theorem d_Handler_kindFaultOf_40 : ob_dc k_Handler_kindFaultOf 40 (.iadd) 1 41 := ⟨by decide +kernel, rfl⟩
theorem d_Handler_kindFaultOf_38 : ob_dc k_Handler_kindFaultOf 38 (.iadd) 1 39 := ⟨by decide +kernel, rfl⟩
theorem d_Handler_kindFaultOf_35 : ob_dv ob_lc k_Handler_kindFaultOf 35 36 1 (.iload_n 1) 1 := ⟨by decide +kernel, rfl, rfl⟩
theorem d_Handler_kindFaultOf_34 : ob_dv ob_ac k_Handler_kindFaultOf 34 35 0 (.aload_n 0) 1 := ⟨by decide +kernel, rfl, rfl⟩
theorem d_Handler_kindFaultOf_31 : ob_db k_Handler_kindFaultOf 31 (.if_icmp .ne 40) 40 34 71 := ⟨by decide +kernel, rfl, by decide⟩
theorem d_Handler_kindFaultOf_30 : ob_dv ob_lc k_Handler_kindFaultOf 30 31 3 (.iload_n 3) 1 := ⟨by decide +kernel, rfl, rfl⟩
theorem d_Handler_kindFaultOf_29 : ob_dc k_Handler_kindFaultOf 29 (.iaload) 1 30 := ⟨by decide +kernel, rfl⟩
theorem d_Handler_kindFaultOf_27 : ob_dv ob_lc k_Handler_kindFaultOf 27 29 4 (.iload 4) 2 := ⟨by decide +kernel, rfl, rfl⟩
theorem d_Handler_kindFaultOf_24 : ob_dc k_Handler_kindFaultOf 24 (.getstatic 172) 3 27 := ⟨by decide +kernel, rfl⟩
theorem d_Handler_kindFaultOf_21 : ob_db k_Handler_kindFaultOf 21 (.if_icmp .ge 56) 56 24 77 := ⟨by decide +kernel, rfl, by decide⟩
theorem d_Handler_kindFaultOf_20 : ob_dc k_Handler_kindFaultOf 20 (.arraylength) 1 21 := ⟨by decide +kernel, rfl⟩
theorem d_Handler_kindFaultOf_17 : ob_dc k_Handler_kindFaultOf 17 (.getstatic 172) 3 20 := ⟨by decide +kernel, rfl⟩
theorem d_Handler_kindFaultOf_16 : ob_dc k_Handler_kindFaultOf 16 (.iadd) 1 17 := ⟨by decide +kernel, rfl⟩
theorem d_Handler_kindFaultOf_13 : ob_dv ob_lc k_Handler_kindFaultOf 13 15 4 (.iload 4) 2 := ⟨by decide +kernel, rfl, rfl⟩
theorem d_Handler_kindFaultOf_11 : ob_dv (ob_sc k_Handler_kindFaultOf.2.2.2.1) k_Handler_kindFaultOf 11 13 4 (.istore 4) 2 := ⟨by decide +kernel, rfl, ⟨rfl, by decide +kernel⟩⟩
theorem d_Handler_kindFaultOf_9 : ob_dv (ob_sc k_Handler_kindFaultOf.2.2.2.1) k_Handler_kindFaultOf 9 10 3 (.istore_n 3) 1 := ⟨by decide +kernel, rfl, ⟨rfl, by decide +kernel⟩⟩
theorem d_Handler_kindFaultOf_6 : ob_dc k_Handler_kindFaultOf 6 (.invokevirtual 150) 3 9 := ⟨by decide +kernel, rfl⟩
theorem d_Handler_kindFaultOf_4 : ob_dc k_Handler_kindFaultOf 4 (.iadd) 1 5 := ⟨by decide +kernel, rfl⟩
theorem d_Handler_kindFaultOf_1 : ob_dv ob_lc k_Handler_kindFaultOf 1 2 1 (.iload_n 1) 1 := ⟨by decide +kernel, rfl, rfl⟩
theorem d_Handler_kindFaultOf_0 : ob_dv ob_ac k_Handler_kindFaultOf 0 1 0 (.aload_n 0) 1 := ⟨by decide +kernel, rfl, rfl⟩
theorem c_Handler_kindFaultOf_176 : ob_sd k_Handler_kindFaultOf k_Handler_isRightLength 176 3 := ⟨cw_Handler_isRightLength, yd_Handler_isRightLength, w_599, w_600, w_13, by decide, by decide⟩
theorem c_Handler_kindFaultOf_150 : ob_vd k_Handler_kindFaultOf k_Row_number 150 2 1 := ⟨cw_Row_number, yd_Row_number, w_592, w_479, w_480, w_2, ⟨_, _, rfl⟩, by decide, by decide⟩
def f_Handler_kindFaultOf_L13 (S : ob_S) : Nat → Nat → Int32 → Int32 → Int32 → Int32 → ob_D → Option (Int32 × ob_D)
  | 0, _, _, _, _, _, _ => none
  | n + 1, v0, v1, v2, v3, v4, D => (if (64 : Int32) ≤ (v4 + (1 : Int32)) then some ((6 : Int32), D) else if ob_in v4 64 then (if (ob_LEN v4.toNatClampNeg) = v3 then ob_bd (f_Row_number S v0 ((v1 + (11 : Int32)) + (2 : Int32)) (1 : Int32) D) fun x7 D5 => if ob_in (v4 + (1 : Int32)) 64 then ob_bd (f_Handler_isRightLength S (ob_LEN (v4 + (1 : Int32)).toNatClampNeg) v2 x7 D5) fun x11 D9 => (if x11 = 0 then some ((7 : Int32), D9) else some ((0 : Int32), D9)) else none else f_Handler_kindFaultOf_L13 S n v0 v1 v2 v3 (v4 + (2 : Int32)) D) else none)
theorem v_Handler_kindFaultOf_L13 {l : Launch} {E : ob_E} {S : ob_S} {r : Int32} {D' : ob_D} : ∀ (n : Nat), ∀ (v0 : Nat) (v1 : Int32) (v2 : Int32) (v3 : Int32) (v4 : Int32) (D : ob_D), S.1 v0 = 2 → f_Handler_kindFaultOf_L13 S n v0 v1 v2 v3 v4 D = some (r, D') → ob_V l E k_Handler_kindFaultOf 13 [(0, .ref v0), (1, .int v1), (2, .int v2), (3, .int v3), (4, .int v4)] [] S D (some (.int r)) S D' := by
  intro n
  induction n with
  | zero =>
    intro v0 v1 v2 v3 v4 D hp_v0 h
    have h : none = some (r, D') := h
    cases h
  | succ n ih =>
    intro v0 v1 v2 v3 v4 D hp_v0 h
    rw [f_Handler_kindFaultOf_L13] at h
    refine ob_iload d_Handler_kindFaultOf_13 rfl ?_
    refine ob_push d_Handler_kindFaultOf_15 ?_
    refine ob_iadd d_Handler_kindFaultOf_16 ?_
    refine ob_gsL d_Handler_kindFaultOf_17 w_597 ?_
    refine ob_lenL d_Handler_kindFaultOf_20 ?_
    refine ob_icmp_ge d_Handler_kindFaultOf_21 (fun hc => ?_) (fun hc => ?_)
    · replace h := ob_ift hc h
      refine ob_push d_Handler_kindFaultOf_77 ?_
      exact ob_ie h (ob_iret d_Handler_kindFaultOf_79 rfl rfl)
    · replace h := ob_iff hc h
      refine ob_gsL d_Handler_kindFaultOf_24 w_597 ?_
      refine ob_iload d_Handler_kindFaultOf_27 rfl ?_
      obtain ⟨hg4, h⟩ := ob_gd h
      refine ob_ldL d_Handler_kindFaultOf_29 hg4 ?_
      refine ob_iload d_Handler_kindFaultOf_30 rfl ?_
      refine ob_icmp_ne d_Handler_kindFaultOf_31 (fun hc => ?_) (fun hc => ?_)
      · replace h := ob_iff hc h
        refine ob_iinc (lo2 := [(0, .ref v0), (1, .int v1), (2, .int v2), (3, .int v3), (4, .int (v4 + (2 : Int32)))]) d_Handler_kindFaultOf_71 rfl rfl ?_
        refine ob_goto d_Handler_kindFaultOf_74 ?_
        exact ih v0 v1 v2 v3 (v4 + (2 : Int32)) D hp_v0 h
      · replace h := ob_ift hc h
        refine ob_aload d_Handler_kindFaultOf_34 rfl ?_
        refine ob_iload d_Handler_kindFaultOf_35 rfl ?_
        refine ob_push d_Handler_kindFaultOf_36 ?_
        refine ob_iadd d_Handler_kindFaultOf_38 ?_
        refine ob_push d_Handler_kindFaultOf_39 ?_
        refine ob_iadd d_Handler_kindFaultOf_40 ?_
        refine ob_push d_Handler_kindFaultOf_41 ?_
        obtain ⟨x7, D5, h6, h⟩ := ob_bd_e h
        refine ob_callVi (As := [.int ((v1 + (11 : Int32)) + (2 : Int32)), .int (1 : Int32)]) (rest := []) d_Handler_kindFaultOf_42 c_Handler_kindFaultOf_150 hp_v0 rfl rfl (Nat.le_of_ble_eq_true rfl) (c_Row_number hp_v0 h6) ⟨Nat.le_refl _, Nat.le_refl _⟩ ⟨Nat.le_refl _, Nat.le_refl _⟩ ?_
        refine ob_istore (lo2 := [(0, .ref v0), (1, .int v1), (2, .int v2), (3, .int v3), (4, .int v4), (5, .int x7)]) d_Handler_kindFaultOf_45 rfl ?_
        refine ob_gsL d_Handler_kindFaultOf_47 w_597 ?_
        refine ob_iload d_Handler_kindFaultOf_50 rfl ?_
        refine ob_push d_Handler_kindFaultOf_52 ?_
        refine ob_iadd d_Handler_kindFaultOf_53 ?_
        obtain ⟨hg8, h⟩ := ob_gd h
        refine ob_ldL d_Handler_kindFaultOf_54 hg8 ?_
        refine ob_iload d_Handler_kindFaultOf_55 rfl ?_
        refine ob_iload d_Handler_kindFaultOf_56 rfl ?_
        obtain ⟨x11, D9, h10, h⟩ := ob_bd_e h
        refine ob_callSi (As := [.int (ob_LEN (v4 + (1 : Int32)).toNatClampNeg), .int v2, .int x7]) (rest := []) d_Handler_kindFaultOf_58 c_Handler_kindFaultOf_176 rfl rfl (Nat.le_of_ble_eq_true rfl) (c_Handler_isRightLength  h10) ⟨Nat.le_refl _, Nat.le_refl _⟩ ⟨Nat.le_refl _, Nat.le_refl _⟩ ?_
        refine ob_if_eq d_Handler_kindFaultOf_61 (fun hc => ?_) (fun hc => ?_)
        · replace h := ob_ift hc h
          refine ob_push d_Handler_kindFaultOf_68 ?_
          exact ob_ie h (ob_iret d_Handler_kindFaultOf_70 rfl rfl)
        · replace h := ob_iff hc h
          refine ob_push d_Handler_kindFaultOf_64 ?_
          refine ob_goto d_Handler_kindFaultOf_65 ?_
          exact ob_ie h (ob_iret d_Handler_kindFaultOf_70 rfl rfl)
def f_Handler_kindFaultOf (S : ob_S) (v0 : Nat) (v1 : Int32) (v2 : Int32) (D : ob_D) : Option (Int32 × ob_D) :=
  ob_bd (f_Row_number S v0 (v1 + (7 : Int32)) (2 : Int32) D) fun x3 D1 => f_Handler_kindFaultOf_L13 S ob_FU v0 v1 v2 x3 (0 : Int32) D1
theorem c_Handler_kindFaultOf {l : Launch} {E : ob_E} {S : ob_S} {D : ob_D} {v0 : Nat} {v1 : Int32} {v2 : Int32} {r : Int32} {D' : ob_D} (hp_v0 : S.1 v0 = 2) (h : f_Handler_kindFaultOf S v0 v1 v2 D = some (r, D')) : ob_M l E k_Handler_kindFaultOf [.ref v0, .int v1, .int v2] S D (some (.int r)) S D' := by
  refine ob_ofV (lo := [(0, .ref v0), (1, .int v1), (2, .int v2)]) (by decide) rfl (Nat.le_of_ble_eq_true rfl) rfl (Nat.le_refl _) (Nat.le_refl _) ?_
  rw [f_Handler_kindFaultOf] at h
  refine ob_aload d_Handler_kindFaultOf_0 rfl ?_
  refine ob_iload d_Handler_kindFaultOf_1 rfl ?_
  refine ob_push d_Handler_kindFaultOf_2 ?_
  refine ob_iadd d_Handler_kindFaultOf_4 ?_
  refine ob_push d_Handler_kindFaultOf_5 ?_
  obtain ⟨x3, D1, h2, h⟩ := ob_bd_e h
  refine ob_callVi (As := [.int (v1 + (7 : Int32)), .int (2 : Int32)]) (rest := []) d_Handler_kindFaultOf_6 c_Handler_kindFaultOf_150 hp_v0 rfl rfl (Nat.le_of_ble_eq_true rfl) (c_Row_number hp_v0 h2) ⟨Nat.le_refl _, Nat.le_refl _⟩ ⟨Nat.le_refl _, Nat.le_refl _⟩ ?_
  refine ob_istore (lo2 := [(0, .ref v0), (1, .int v1), (2, .int v2), (3, .int x3)]) d_Handler_kindFaultOf_9 rfl ?_
  refine ob_push d_Handler_kindFaultOf_10 ?_
  refine ob_istore (lo2 := [(0, .ref v0), (1, .int v1), (2, .int v2), (3, .int x3), (4, .int (0 : Int32))]) d_Handler_kindFaultOf_11 rfl ?_
  exact v_Handler_kindFaultOf_L13 ob_FU v0 v1 v2 x3 (0 : Int32) D1 hp_v0 h
-- OrbitBox$Handler.faultOf(LOrbitBox$Row;II)I
theorem d_Handler_faultOf_1 : ob_dk k_Handler_faultOf 1 3 (13 : Int32) (.bipush 13) 2 := ⟨by decide +kernel, rfl, show (Int8.ofInt 13).toInt32 = (13 : Int32) by decide +kernel⟩
theorem d_Handler_faultOf_21 : ob_dk k_Handler_faultOf 21 22 (1 : Int32) (.iconst 1) 1 := ⟨by decide +kernel, rfl, show Int32.ofInt 1 = (1 : Int32) by decide +kernel⟩
theorem d_Handler_faultOf_22 : ob_dc k_Handler_faultOf 22 (.ireturn) 1 23 := ⟨by decide +kernel, rfl⟩
theorem d_Handler_faultOf_9 : ob_dk k_Handler_faultOf 9 10 (4 : Int32) (.iconst 4) 1 := ⟨by decide +kernel, rfl, show Int32.ofInt 4 = (4 : Int32) by decide +kernel⟩
theorem d_Handler_faultOf_11 : ob_dk k_Handler_faultOf 11 12 (2 : Int32) (.iconst 2) 1 := ⟨by decide +kernel, rfl, show Int32.ofInt 2 = (2 : Int32) by decide +kernel⟩
theorem d_Handler_faultOf_15 : ob_dk k_Handler_faultOf 15 17 (7 : Int32) (.bipush 7) 2 := ⟨by decide +kernel, rfl, show (Int8.ofInt 7).toInt32 = (7 : Int32) by decide +kernel⟩
theorem d_Handler_faultOf_36 : ob_dk k_Handler_faultOf 36 37 (2 : Int32) (.iconst 2) 1 := ⟨by decide +kernel, rfl, show Int32.ofInt 2 = (2 : Int32) by decide +kernel⟩
theorem d_Handler_faultOf_42 : ob_dk k_Handler_faultOf 42 44 (11 : Int32) (.bipush 11) 2 := ⟨by decide +kernel, rfl, show (Int8.ofInt 11).toInt32 = (11 : Int32) by decide +kernel⟩
theorem d_Handler_faultOf_45 : ob_dk k_Handler_faultOf 45 46 (3 : Int32) (.iconst 3) 1 := ⟨by decide +kernel, rfl, show Int32.ofInt 3 = (3 : Int32) by decide +kernel⟩
theorem d_Handler_faultOf_64 : ob_dk k_Handler_faultOf 64 65 (3 : Int32) (.iconst 3) 1 := ⟨by decide +kernel, rfl, show Int32.ofInt 3 = (3 : Int32) by decide +kernel⟩
theorem d_Handler_faultOf_65 : ob_dc k_Handler_faultOf 65 (.ireturn) 1 66 := ⟨by decide +kernel, rfl⟩
theorem d_Handler_faultOf_51 : ob_dk k_Handler_faultOf 51 52 (2 : Int32) (.iconst 2) 1 := ⟨by decide +kernel, rfl, show Int32.ofInt 2 = (2 : Int32) by decide +kernel⟩
theorem d_Handler_faultOf_53 : ob_dk k_Handler_faultOf 53 54 (1 : Int32) (.iconst 1) 1 := ⟨by decide +kernel, rfl, show Int32.ofInt 1 = (1 : Int32) by decide +kernel⟩
theorem d_Handler_faultOf_57 : ob_dk k_Handler_faultOf 57 59 (6 : Int32) (.bipush 6) 2 := ⟨by decide +kernel, rfl, show (Int8.ofInt 6).toInt32 = (6 : Int32) by decide +kernel⟩
theorem d_Handler_faultOf_60 : ob_dk k_Handler_faultOf 60 61 (3 : Int32) (.iconst 3) 1 := ⟨by decide +kernel, rfl, show Int32.ofInt 3 = (3 : Int32) by decide +kernel⟩
theorem d_Handler_faultOf_67 : ob_dk k_Handler_faultOf 67 70 (2047 : Int32) (.sipush 2047) 3 := ⟨by decide +kernel, rfl, show (Int16.ofInt 2047).toInt32 = (2047 : Int32) by decide +kernel⟩
theorem d_Handler_faultOf_71 : ob_dk k_Handler_faultOf 71 73 (42 : Int32) (.bipush 42) 2 := ⟨by decide +kernel, rfl, show (Int8.ofInt 42).toInt32 = (42 : Int32) by decide +kernel⟩
theorem d_Handler_faultOf_80 : ob_dk k_Handler_faultOf 80 82 (6 : Int32) (.bipush 6) 2 := ⟨by decide +kernel, rfl, show (Int8.ofInt 6).toInt32 = (6 : Int32) by decide +kernel⟩
theorem d_Handler_faultOf_83 : ob_dk k_Handler_faultOf 83 84 (1 : Int32) (.iconst 1) 1 := ⟨by decide +kernel, rfl, show Int32.ofInt 1 = (1 : Int32) by decide +kernel⟩
theorem d_Handler_faultOf_87 : ob_dk k_Handler_faultOf 87 88 (4 : Int32) (.iconst 4) 1 := ⟨by decide +kernel, rfl, show Int32.ofInt 4 = (4 : Int32) by decide +kernel⟩
theorem d_Handler_faultOf_89 : ob_dk k_Handler_faultOf 89 90 (2 : Int32) (.iconst 2) 1 := ⟨by decide +kernel, rfl, show Int32.ofInt 2 = (2 : Int32) by decide +kernel⟩
theorem d_Handler_faultOf_98 : ob_dk k_Handler_faultOf 98 100 (13 : Int32) (.bipush 13) 2 := ⟨by decide +kernel, rfl, show (Int8.ofInt 13).toInt32 = (13 : Int32) by decide +kernel⟩
theorem d_Handler_faultOf_104 : ob_dc k_Handler_faultOf 104 (.ireturn) 1 105 := ⟨by decide +kernel, rfl⟩
theorem d_Handler_faultOf_101 : ob_dc k_Handler_faultOf 101 (.invokestatic 169) 3 104 := ⟨by decide +kernel, rfl⟩
theorem d_Handler_faultOf_100 : ob_dc k_Handler_faultOf 100 (.isub) 1 101 := ⟨by decide +kernel, rfl⟩
theorem d_Handler_faultOf_97 : ob_dv ob_lc k_Handler_faultOf 97 98 2 (.iload_n 2) 1 := ⟨by decide +kernel, rfl, rfl⟩
theorem d_Handler_faultOf_96 : ob_dv ob_lc k_Handler_faultOf 96 97 1 (.iload_n 1) 1 := ⟨by decide +kernel, rfl, rfl⟩
theorem d_Handler_faultOf_95 : ob_dv ob_ac k_Handler_faultOf 95 96 0 (.aload_n 0) 1 := ⟨by decide +kernel, rfl, rfl⟩
theorem d_Handler_faultOf_93 : ob_dk k_Handler_faultOf 93 94 (5 : Int32) (.iconst 5) 1 := ⟨by decide +kernel, rfl, show Int32.ofInt 5 = (5 : Int32) by decide +kernel⟩
theorem d_Handler_faultOf_94 : ob_dc k_Handler_faultOf 94 (.ireturn) 1 95 := ⟨by decide +kernel, rfl⟩
theorem d_Handler_faultOf_90 : ob_db k_Handler_faultOf 90 (.if_icmp .eq 5) 5 93 95 := ⟨by decide +kernel, rfl, by decide⟩
theorem d_Handler_faultOf_88 : ob_dc k_Handler_faultOf 88 (.iushr) 1 89 := ⟨by decide +kernel, rfl⟩
theorem d_Handler_faultOf_84 : ob_dc k_Handler_faultOf 84 (.invokevirtual 150) 3 87 := ⟨by decide +kernel, rfl⟩
theorem d_Handler_faultOf_82 : ob_dc k_Handler_faultOf 82 (.iadd) 1 83 := ⟨by decide +kernel, rfl⟩
theorem d_Handler_faultOf_79 : ob_dv ob_lc k_Handler_faultOf 79 80 1 (.iload_n 1) 1 := ⟨by decide +kernel, rfl, rfl⟩
theorem d_Handler_faultOf_78 : ob_dv ob_ac k_Handler_faultOf 78 79 0 (.aload_n 0) 1 := ⟨by decide +kernel, rfl, rfl⟩
theorem d_Handler_faultOf_76 : ob_dk k_Handler_faultOf 76 77 (4 : Int32) (.iconst 4) 1 := ⟨by decide +kernel, rfl, show Int32.ofInt 4 = (4 : Int32) by decide +kernel⟩
theorem d_Handler_faultOf_77 : ob_dc k_Handler_faultOf 77 (.ireturn) 1 78 := ⟨by decide +kernel, rfl⟩
theorem d_Handler_faultOf_73 : ob_db k_Handler_faultOf 73 (.if_icmp .eq 5) 5 76 78 := ⟨by decide +kernel, rfl, by decide⟩
theorem d_Handler_faultOf_70 : ob_dc k_Handler_faultOf 70 (.iand) 1 71 := ⟨by decide +kernel, rfl⟩
theorem d_Handler_faultOf_66 : ob_dv ob_lc k_Handler_faultOf 66 67 3 (.iload_n 3) 1 := ⟨by decide +kernel, rfl, rfl⟩
theorem d_Handler_faultOf_61 : ob_db k_Handler_faultOf 61 (.if_icmp .eq 5) 5 64 66 := ⟨by decide +kernel, rfl, by decide⟩
theorem d_Handler_faultOf_59 : ob_dc k_Handler_faultOf 59 (.iushr) 1 60 := ⟨by decide +kernel, rfl⟩
theorem d_Handler_faultOf_54 : ob_dc k_Handler_faultOf 54 (.invokevirtual 150) 3 57 := ⟨by decide +kernel, rfl⟩
theorem d_Handler_faultOf_52 : ob_dc k_Handler_faultOf 52 (.iadd) 1 53 := ⟨by decide +kernel, rfl⟩
theorem d_Handler_faultOf_50 : ob_dv ob_lc k_Handler_faultOf 50 51 1 (.iload_n 1) 1 := ⟨by decide +kernel, rfl, rfl⟩
theorem d_Handler_faultOf_49 : ob_dv ob_ac k_Handler_faultOf 49 50 0 (.aload_n 0) 1 := ⟨by decide +kernel, rfl, rfl⟩
theorem d_Handler_faultOf_46 : ob_db k_Handler_faultOf 46 (.if_icmp .ne 18) 18 49 64 := ⟨by decide +kernel, rfl, by decide⟩
theorem d_Handler_faultOf_44 : ob_dc k_Handler_faultOf 44 (.iushr) 1 45 := ⟨by decide +kernel, rfl⟩
theorem d_Handler_faultOf_41 : ob_dv ob_lc k_Handler_faultOf 41 42 3 (.iload_n 3) 1 := ⟨by decide +kernel, rfl, rfl⟩
theorem d_Handler_faultOf_40 : ob_dv (ob_sc k_Handler_faultOf.2.2.2.1) k_Handler_faultOf 40 41 3 (.istore_n 3) 1 := ⟨by decide +kernel, rfl, ⟨rfl, by decide +kernel⟩⟩
theorem d_Handler_faultOf_37 : ob_dc k_Handler_faultOf 37 (.invokevirtual 150) 3 40 := ⟨by decide +kernel, rfl⟩
theorem d_Handler_faultOf_35 : ob_dv ob_lc k_Handler_faultOf 35 36 1 (.iload_n 1) 1 := ⟨by decide +kernel, rfl, rfl⟩
theorem d_Handler_faultOf_34 : ob_dv ob_ac k_Handler_faultOf 34 35 0 (.aload_n 0) 1 := ⟨by decide +kernel, rfl, rfl⟩
theorem d_Handler_faultOf_32 : ob_dk k_Handler_faultOf 32 33 (2 : Int32) (.iconst 2) 1 := ⟨by decide +kernel, rfl, show Int32.ofInt 2 = (2 : Int32) by decide +kernel⟩
theorem d_Handler_faultOf_33 : ob_dc k_Handler_faultOf 33 (.ireturn) 1 34 := ⟨by decide +kernel, rfl⟩
theorem d_Handler_faultOf_29 : ob_db k_Handler_faultOf 29 (.ifCond .eq 5) 5 32 34 := ⟨by decide +kernel, rfl, by decide⟩
theorem d_Handler_faultOf_26 : ob_dc k_Handler_faultOf 26 (.invokevirtual 166) 3 29 := ⟨by decide +kernel, rfl⟩
theorem d_Handler_faultOf_25 : ob_dv ob_lc k_Handler_faultOf 25 26 2 (.iload_n 2) 1 := ⟨by decide +kernel, rfl, rfl⟩
theorem d_Handler_faultOf_24 : ob_dv ob_lc k_Handler_faultOf 24 25 1 (.iload_n 1) 1 := ⟨by decide +kernel, rfl, rfl⟩
theorem d_Handler_faultOf_23 : ob_dv ob_ac k_Handler_faultOf 23 24 0 (.aload_n 0) 1 := ⟨by decide +kernel, rfl, rfl⟩
theorem d_Handler_faultOf_18 : ob_db k_Handler_faultOf 18 (.if_icmp .eq 5) 5 21 23 := ⟨by decide +kernel, rfl, by decide⟩
theorem d_Handler_faultOf_17 : ob_dc k_Handler_faultOf 17 (.iadd) 1 18 := ⟨by decide +kernel, rfl⟩
theorem d_Handler_faultOf_12 : ob_dc k_Handler_faultOf 12 (.invokevirtual 150) 3 15 := ⟨by decide +kernel, rfl⟩
theorem d_Handler_faultOf_10 : ob_dc k_Handler_faultOf 10 (.iadd) 1 11 := ⟨by decide +kernel, rfl⟩
theorem d_Handler_faultOf_8 : ob_dv ob_lc k_Handler_faultOf 8 9 1 (.iload_n 1) 1 := ⟨by decide +kernel, rfl, rfl⟩
theorem d_Handler_faultOf_7 : ob_dv ob_ac k_Handler_faultOf 7 8 0 (.aload_n 0) 1 := ⟨by decide +kernel, rfl, rfl⟩
theorem d_Handler_faultOf_6 : ob_dv ob_lc k_Handler_faultOf 6 7 2 (.iload_n 2) 1 := ⟨by decide +kernel, rfl, rfl⟩
theorem d_Handler_faultOf_3 : ob_db k_Handler_faultOf 3 (.if_icmp .lt 18) 18 6 21 := ⟨by decide +kernel, rfl, by decide⟩
theorem d_Handler_faultOf_0 : ob_dv ob_lc k_Handler_faultOf 0 1 2 (.iload_n 2) 1 := ⟨by decide +kernel, rfl, rfl⟩
theorem c_Handler_faultOf_169 : ob_sd k_Handler_faultOf k_Handler_kindFaultOf 169 3 := ⟨cw_Handler_kindFaultOf, yd_Handler_kindFaultOf, w_594, w_595, w_13, by decide, by decide⟩
theorem c_Handler_faultOf_150 : ob_vd k_Handler_faultOf k_Row_number 150 2 1 := ⟨cw_Row_number, yd_Row_number, w_592, w_479, w_480, w_2, ⟨_, _, rfl⟩, by decide, by decide⟩
theorem c_Handler_faultOf_166 : ob_vd k_Handler_faultOf k_Row_check 166 2 1 := ⟨cw_Row_check, yd_Row_check, w_593, w_525, w_526, w_2, ⟨_, _, rfl⟩, by decide, by decide⟩
def f_Handler_faultOf (S : ob_S) (v0 : Nat) (v1 : Int32) (v2 : Int32) (D : ob_D) : Option (Int32 × ob_D) :=
  (if v2 < (13 : Int32) then some ((1 : Int32), D) else ob_bd (f_Row_number S v0 (v1 + (4 : Int32)) (2 : Int32) D) fun x3 D1 => (if v2 = (x3 + (7 : Int32)) then ob_bd (f_Row_check S v0 v1 v2 D1) fun x6 D4 => (if x6 = 0 then ob_bd (f_Row_number S v0 v1 (2 : Int32) D4) fun x9 D7 => (if ((x9.toUInt32 >>> ((11 : Int32).toUInt32 &&& Int32.toUInt32 31)).toInt32) = (3 : Int32) then ob_bd (f_Row_number S v0 (v1 + (2 : Int32)) (1 : Int32) D7) fun x12 D10 => (if ((x12.toUInt32 >>> ((6 : Int32).toUInt32 &&& Int32.toUInt32 31)).toInt32) = (3 : Int32) then (if (x9 &&& (2047 : Int32)) = (42 : Int32) then ob_bd (f_Row_number S v0 (v1 + (6 : Int32)) (1 : Int32) D10) fun x15 D13 => (if ((x15.toUInt32 >>> ((4 : Int32).toUInt32 &&& Int32.toUInt32 31)).toInt32) = (2 : Int32) then ob_bd (f_Handler_kindFaultOf S v0 v1 (v2 - (13 : Int32)) D13) fun x18 D16 => some (x18, D16) else some ((5 : Int32), D13)) else some ((4 : Int32), D10)) else some ((3 : Int32), D10)) else some ((3 : Int32), D7)) else some ((2 : Int32), D4)) else some ((1 : Int32), D1)))
theorem c_Handler_faultOf {l : Launch} {E : ob_E} {S : ob_S} {D : ob_D} {v0 : Nat} {v1 : Int32} {v2 : Int32} {r : Int32} {D' : ob_D} (hp_v0 : S.1 v0 = 2) (h : f_Handler_faultOf S v0 v1 v2 D = some (r, D')) : ob_M l E k_Handler_faultOf [.ref v0, .int v1, .int v2] S D (some (.int r)) S D' := by
  refine ob_ofV (lo := [(0, .ref v0), (1, .int v1), (2, .int v2)]) (by decide) rfl (Nat.le_of_ble_eq_true rfl) rfl (Nat.le_refl _) (Nat.le_refl _) ?_
  rw [f_Handler_faultOf] at h
  refine ob_iload d_Handler_faultOf_0 rfl ?_
  refine ob_push d_Handler_faultOf_1 ?_
  refine ob_icmp_lt d_Handler_faultOf_3 (fun hc => ?_) (fun hc => ?_)
  · replace h := ob_ift hc h
    refine ob_push d_Handler_faultOf_21 ?_
    exact ob_ie h (ob_iret d_Handler_faultOf_22 rfl rfl)
  · replace h := ob_iff hc h
    refine ob_iload d_Handler_faultOf_6 rfl ?_
    refine ob_aload d_Handler_faultOf_7 rfl ?_
    refine ob_iload d_Handler_faultOf_8 rfl ?_
    refine ob_push d_Handler_faultOf_9 ?_
    refine ob_iadd d_Handler_faultOf_10 ?_
    refine ob_push d_Handler_faultOf_11 ?_
    obtain ⟨x3, D1, h2, h⟩ := ob_bd_e h
    refine ob_callVi (As := [.int (v1 + (4 : Int32)), .int (2 : Int32)]) (rest := [.int v2]) d_Handler_faultOf_12 c_Handler_faultOf_150 hp_v0 rfl rfl (Nat.le_of_ble_eq_true rfl) (c_Row_number hp_v0 h2) ⟨Nat.le_refl _, Nat.le_refl _⟩ ⟨Nat.le_refl _, Nat.le_refl _⟩ ?_
    refine ob_push d_Handler_faultOf_15 ?_
    refine ob_iadd d_Handler_faultOf_17 ?_
    refine ob_icmp_eq d_Handler_faultOf_18 (fun hc => ?_) (fun hc => ?_)
    · replace h := ob_ift hc h
      refine ob_aload d_Handler_faultOf_23 rfl ?_
      refine ob_iload d_Handler_faultOf_24 rfl ?_
      refine ob_iload d_Handler_faultOf_25 rfl ?_
      obtain ⟨x6, D4, h5, h⟩ := ob_bd_e h
      refine ob_callVi (As := [.int v1, .int v2]) (rest := []) d_Handler_faultOf_26 c_Handler_faultOf_166 hp_v0 rfl rfl (Nat.le_of_ble_eq_true rfl) (c_Row_check hp_v0 h5) ⟨Nat.le_refl _, Nat.le_refl _⟩ ⟨Nat.le_refl _, Nat.le_refl _⟩ ?_
      refine ob_if_eq d_Handler_faultOf_29 (fun hc => ?_) (fun hc => ?_)
      · replace h := ob_ift hc h
        refine ob_aload d_Handler_faultOf_34 rfl ?_
        refine ob_iload d_Handler_faultOf_35 rfl ?_
        refine ob_push d_Handler_faultOf_36 ?_
        obtain ⟨x9, D7, h8, h⟩ := ob_bd_e h
        refine ob_callVi (As := [.int v1, .int (2 : Int32)]) (rest := []) d_Handler_faultOf_37 c_Handler_faultOf_150 hp_v0 rfl rfl (Nat.le_of_ble_eq_true rfl) (c_Row_number hp_v0 h8) ⟨Nat.le_refl _, Nat.le_refl _⟩ ⟨Nat.le_refl _, Nat.le_refl _⟩ ?_
        refine ob_istore (lo2 := [(0, .ref v0), (1, .int v1), (2, .int v2), (3, .int x9)]) d_Handler_faultOf_40 rfl ?_
        refine ob_iload d_Handler_faultOf_41 rfl ?_
        refine ob_push d_Handler_faultOf_42 ?_
        refine ob_iushr d_Handler_faultOf_44 ?_
        refine ob_push d_Handler_faultOf_45 ?_
        refine ob_icmp_ne d_Handler_faultOf_46 (fun hc => ?_) (fun hc => ?_)
        · replace h := ob_iff hc h
          refine ob_push d_Handler_faultOf_64 ?_
          exact ob_ie h (ob_iret d_Handler_faultOf_65 rfl rfl)
        · replace h := ob_ift hc h
          refine ob_aload d_Handler_faultOf_49 rfl ?_
          refine ob_iload d_Handler_faultOf_50 rfl ?_
          refine ob_push d_Handler_faultOf_51 ?_
          refine ob_iadd d_Handler_faultOf_52 ?_
          refine ob_push d_Handler_faultOf_53 ?_
          obtain ⟨x12, D10, h11, h⟩ := ob_bd_e h
          refine ob_callVi (As := [.int (v1 + (2 : Int32)), .int (1 : Int32)]) (rest := []) d_Handler_faultOf_54 c_Handler_faultOf_150 hp_v0 rfl rfl (Nat.le_of_ble_eq_true rfl) (c_Row_number hp_v0 h11) ⟨Nat.le_refl _, Nat.le_refl _⟩ ⟨Nat.le_refl _, Nat.le_refl _⟩ ?_
          refine ob_push d_Handler_faultOf_57 ?_
          refine ob_iushr d_Handler_faultOf_59 ?_
          refine ob_push d_Handler_faultOf_60 ?_
          refine ob_icmp_eq d_Handler_faultOf_61 (fun hc => ?_) (fun hc => ?_)
          · replace h := ob_ift hc h
            refine ob_iload d_Handler_faultOf_66 rfl ?_
            refine ob_push d_Handler_faultOf_67 ?_
            refine ob_iand d_Handler_faultOf_70 ?_
            refine ob_push d_Handler_faultOf_71 ?_
            refine ob_icmp_eq d_Handler_faultOf_73 (fun hc => ?_) (fun hc => ?_)
            · replace h := ob_ift hc h
              refine ob_aload d_Handler_faultOf_78 rfl ?_
              refine ob_iload d_Handler_faultOf_79 rfl ?_
              refine ob_push d_Handler_faultOf_80 ?_
              refine ob_iadd d_Handler_faultOf_82 ?_
              refine ob_push d_Handler_faultOf_83 ?_
              obtain ⟨x15, D13, h14, h⟩ := ob_bd_e h
              refine ob_callVi (As := [.int (v1 + (6 : Int32)), .int (1 : Int32)]) (rest := []) d_Handler_faultOf_84 c_Handler_faultOf_150 hp_v0 rfl rfl (Nat.le_of_ble_eq_true rfl) (c_Row_number hp_v0 h14) ⟨Nat.le_refl _, Nat.le_refl _⟩ ⟨Nat.le_refl _, Nat.le_refl _⟩ ?_
              refine ob_push d_Handler_faultOf_87 ?_
              refine ob_iushr d_Handler_faultOf_88 ?_
              refine ob_push d_Handler_faultOf_89 ?_
              refine ob_icmp_eq d_Handler_faultOf_90 (fun hc => ?_) (fun hc => ?_)
              · replace h := ob_ift hc h
                refine ob_aload d_Handler_faultOf_95 rfl ?_
                refine ob_iload d_Handler_faultOf_96 rfl ?_
                refine ob_iload d_Handler_faultOf_97 rfl ?_
                refine ob_push d_Handler_faultOf_98 ?_
                refine ob_isub d_Handler_faultOf_100 ?_
                obtain ⟨x18, D16, h17, h⟩ := ob_bd_e h
                refine ob_callSi (As := [.ref v0, .int v1, .int (v2 - (13 : Int32))]) (rest := []) d_Handler_faultOf_101 c_Handler_faultOf_169 rfl rfl (Nat.le_of_ble_eq_true rfl) (c_Handler_kindFaultOf hp_v0 h17) ⟨Nat.le_refl _, Nat.le_refl _⟩ ⟨Nat.le_refl _, Nat.le_refl _⟩ ?_
                exact ob_ie h (ob_iret d_Handler_faultOf_104 rfl rfl)
              · replace h := ob_iff hc h
                refine ob_push d_Handler_faultOf_93 ?_
                exact ob_ie h (ob_iret d_Handler_faultOf_94 rfl rfl)
            · replace h := ob_iff hc h
              refine ob_push d_Handler_faultOf_76 ?_
              exact ob_ie h (ob_iret d_Handler_faultOf_77 rfl rfl)
          · replace h := ob_iff hc h
            refine ob_push d_Handler_faultOf_64 ?_
            exact ob_ie h (ob_iret d_Handler_faultOf_65 rfl rfl)
      · replace h := ob_iff hc h
        refine ob_push d_Handler_faultOf_32 ?_
        exact ob_ie h (ob_iret d_Handler_faultOf_33 rfl rfl)
    · replace h := ob_iff hc h
      refine ob_push d_Handler_faultOf_21 ?_
      exact ob_ie h (ob_iret d_Handler_faultOf_22 rfl rfl)
-- OrbitBox$Handler.refuse(II)V
theorem d_Handler_refuse_8 : ob_dk k_Handler_refuse 8 9 (1 : Int32) (.iconst 1) 1 := ⟨by decide +kernel, rfl, show Int32.ofInt 1 = (1 : Int32) by decide +kernel⟩
theorem d_Handler_refuse_17 : ob_dk k_Handler_refuse 17 18 (1 : Int32) (.iconst 1) 1 := ⟨by decide +kernel, rfl, show Int32.ofInt 1 = (1 : Int32) by decide +kernel⟩
theorem d_Handler_refuse_35 : ob_dk k_Handler_refuse 35 36 (0 : Int32) (.iconst 0) 1 := ⟨by decide +kernel, rfl, show Int32.ofInt 0 = (0 : Int32) by decide +kernel⟩
theorem d_Handler_refuse_36 : ob_dk k_Handler_refuse 36 37 (4 : Int32) (.iconst 4) 1 := ⟨by decide +kernel, rfl, show Int32.ofInt 4 = (4 : Int32) by decide +kernel⟩
theorem d_Handler_refuse_40 : ob_dk k_Handler_refuse 40 41 (4 : Int32) (.iconst 4) 1 := ⟨by decide +kernel, rfl, show Int32.ofInt 4 = (4 : Int32) by decide +kernel⟩
theorem d_Handler_refuse_46 : ob_dk k_Handler_refuse 46 47 (2 : Int32) (.iconst 2) 1 := ⟨by decide +kernel, rfl, show Int32.ofInt 2 = (2 : Int32) by decide +kernel⟩
theorem d_Handler_refuse_57 : ob_dc k_Handler_refuse 57 (.return_) 1 58 := ⟨by decide +kernel, rfl⟩
theorem d_Handler_refuse_54 : ob_dc k_Handler_refuse 54 (.invokevirtual 124) 3 57 := ⟨by decide +kernel, rfl⟩
theorem d_Handler_refuse_51 : ob_dc k_Handler_refuse 51 (.getfield 36) 3 54 := ⟨by decide +kernel, rfl⟩
theorem d_Handler_refuse_50 : ob_dv ob_ac k_Handler_refuse 50 51 0 (.aload_n 0) 1 := ⟨by decide +kernel, rfl, rfl⟩
theorem d_Handler_refuse_47 : ob_dc k_Handler_refuse 47 (.invokevirtual 121) 3 50 := ⟨by decide +kernel, rfl⟩
theorem d_Handler_refuse_45 : ob_dv ob_lc k_Handler_refuse 45 46 2 (.iload_n 2) 1 := ⟨by decide +kernel, rfl, rfl⟩
theorem d_Handler_refuse_44 : ob_dv ob_ac k_Handler_refuse 44 45 3 (.aload_n 3) 1 := ⟨by decide +kernel, rfl, rfl⟩
theorem d_Handler_refuse_41 : ob_dc k_Handler_refuse 41 (.invokevirtual 121) 3 44 := ⟨by decide +kernel, rfl⟩
theorem d_Handler_refuse_37 : ob_dc k_Handler_refuse 37 (.invokevirtual 150) 3 40 := ⟨by decide +kernel, rfl⟩
theorem d_Handler_refuse_32 : ob_dc k_Handler_refuse 32 (.getfield 53) 3 35 := ⟨by decide +kernel, rfl⟩
theorem d_Handler_refuse_31 : ob_dv ob_ac k_Handler_refuse 31 32 0 (.aload_n 0) 1 := ⟨by decide +kernel, rfl, rfl⟩
theorem d_Handler_refuse_30 : ob_dv ob_ac k_Handler_refuse 30 31 3 (.aload_n 3) 1 := ⟨by decide +kernel, rfl, rfl⟩
theorem d_Handler_refuse_29 : ob_dv (ob_bc k_Handler_refuse.2.2.2.1) k_Handler_refuse 29 30 3 (.astore_n 3) 1 := ⟨by decide +kernel, rfl, ⟨rfl, by decide +kernel⟩⟩
theorem d_Handler_refuse_26 : ob_dc k_Handler_refuse 26 (.invokevirtual 115) 3 29 := ⟨by decide +kernel, rfl⟩
theorem d_Handler_refuse_23 : ob_dc k_Handler_refuse 23 (.getfield 58) 3 26 := ⟨by decide +kernel, rfl⟩
theorem d_Handler_refuse_20 : ob_dc k_Handler_refuse 20 (.getfield 9) 3 23 := ⟨by decide +kernel, rfl⟩
theorem d_Handler_refuse_19 : ob_dv ob_ac k_Handler_refuse 19 20 0 (.aload_n 0) 1 := ⟨by decide +kernel, rfl, rfl⟩
theorem d_Handler_refuse_18 : ob_dv ob_lc k_Handler_refuse 18 19 1 (.iload_n 1) 1 := ⟨by decide +kernel, rfl, rfl⟩
theorem d_Handler_refuse_14 : ob_dc k_Handler_refuse 14 (.getfield 36) 3 17 := ⟨by decide +kernel, rfl⟩
theorem d_Handler_refuse_13 : ob_dv ob_ac k_Handler_refuse 13 14 0 (.aload_n 0) 1 := ⟨by decide +kernel, rfl, rfl⟩
theorem d_Handler_refuse_10 : ob_dc k_Handler_refuse 10 (.putfield 163) 3 13 := ⟨by decide +kernel, rfl⟩
theorem d_Handler_refuse_9 : ob_dc k_Handler_refuse 9 (.iadd) 1 10 := ⟨by decide +kernel, rfl⟩
theorem d_Handler_refuse_5 : ob_dc k_Handler_refuse 5 (.getfield 163) 3 8 := ⟨by decide +kernel, rfl⟩
theorem d_Handler_refuse_4 : ob_dc k_Handler_refuse 4 (.dup) 1 5 := ⟨by decide +kernel, rfl⟩
theorem d_Handler_refuse_1 : ob_dc k_Handler_refuse 1 (.getfield 9) 3 4 := ⟨by decide +kernel, rfl⟩
theorem d_Handler_refuse_0 : ob_dv ob_ac k_Handler_refuse 0 1 0 (.aload_n 0) 1 := ⟨by decide +kernel, rfl, rfl⟩
theorem c_Handler_refuse_124 : ob_vd k_Handler_refuse k_Reports_send 124 0 8 := ⟨cw_Reports_send, yd_Reports_send, w_613, w_614, w_615, w_11, ⟨_, _, rfl⟩, by decide, by decide⟩
theorem c_Handler_refuse_121 : ob_vd k_Handler_refuse k_Row_add 121 2 1 := ⟨cw_Row_add, yd_Row_add, w_612, w_467, w_468, w_2, ⟨_, _, rfl⟩, by decide, by decide⟩
theorem c_Handler_refuse_150 : ob_vd k_Handler_refuse k_Row_number 150 2 1 := ⟨cw_Row_number, yd_Row_number, w_592, w_479, w_480, w_2, ⟨_, _, rfl⟩, by decide, by decide⟩
theorem c_Handler_refuse_115 : ob_vd k_Handler_refuse k_Reports_begin 115 3 8 := ⟨cw_Reports_begin, yd_Reports_begin, w_606, w_607, w_608, w_11, ⟨_, _, rfl⟩, by decide, by decide⟩
def f_Handler_refuse (S : ob_S) (v0 : Nat) (v1 : Int32) (v2 : Int32) (D : ob_D) : Option (ob_D) :=
  if D.2.1 v0 0 ≠ 0 then ob_lt (ob_pI D (D.2.1 v0 0) 11 ((D.1 (D.2.1 v0 0) 11) + (1 : Int32))) fun D3 => if D3.2.1 v0 4 ≠ 0 then if D3.2.1 v0 0 ≠ 0 then ob_bd (f_Reports_begin S (D3.2.1 v0 4) (1 : Int32) v1 (D3.1 (D3.2.1 v0 0) 8) D3) fun x10 D8 => if S.1 x10 = 2 then if D8.2.1 v0 8 ≠ 0 then ob_bd (f_Row_number S (D8.2.1 v0 8) (0 : Int32) (4 : Int32) D8) fun x16 D14 => ob_bv (f_Row_add S x10 x16 (4 : Int32) D14) fun D17 => ob_bv (f_Row_add S x10 v2 (2 : Int32) D17) fun D19 => if D19.2.1 v0 4 ≠ 0 then ob_bv (f_Reports_send S (D19.2.1 v0 4) D19) fun D23 => some D23 else none else none else none else none else none else none
theorem c_Handler_refuse {l : Launch} {E : ob_E} {S : ob_S} {D : ob_D} {v0 : Nat} {v1 : Int32} {v2 : Int32} {D' : ob_D} (hp_v0 : S.1 v0 = 12) (h : f_Handler_refuse S v0 v1 v2 D = some D') : ob_M l E k_Handler_refuse [.ref v0, .int v1, .int v2] S D none S D' := by
  refine ob_ofV (lo := [(0, .ref v0), (1, .int v1), (2, .int v2)]) (by decide) rfl (Nat.le_of_ble_eq_true rfl) rfl (Nat.le_refl _) (Nat.le_refl _) ?_
  rw [f_Handler_refuse] at h
  refine ob_aload d_Handler_refuse_0 rfl ?_
  obtain ⟨hg2, h⟩ := ob_gd h
  refine ob_getR d_Handler_refuse_1 F_11_0 l_Handler_9 hp_v0 hg2 (fun hk1 => ?_)
  refine ob_dup d_Handler_refuse_4 rfl ?_
  refine ob_getI d_Handler_refuse_5 F_10_11 l_Handler_163 hk1 ?_
  refine ob_push d_Handler_refuse_8 ?_
  refine ob_iadd d_Handler_refuse_9 ?_
  replace h := ob_lt_e h
  refine ob_putI d_Handler_refuse_10 F_10_11 l_Handler_163 hk1 ?_
  refine ob_aload d_Handler_refuse_13 rfl ?_
  obtain ⟨hg5, h⟩ := ob_gd h
  refine ob_getR d_Handler_refuse_14 F_11_4 l_Handler_36 hp_v0 hg5 (fun hk4 => ?_)
  refine ob_push d_Handler_refuse_17 ?_
  refine ob_iload d_Handler_refuse_18 rfl ?_
  refine ob_aload d_Handler_refuse_19 rfl ?_
  obtain ⟨hg7, h⟩ := ob_gd h
  refine ob_getR d_Handler_refuse_20 F_11_0 l_Handler_9 hp_v0 hg7 (fun hk6 => ?_)
  refine ob_getI d_Handler_refuse_23 F_10_8 l_Handler_58 hk6 ?_
  obtain ⟨x10, D8, h9, h⟩ := ob_bd_e h
  obtain ⟨hk11, h⟩ := ob_gd h
  refine ob_callVr (As := [.int (1 : Int32), .int v1, .int ((ob_pI D (D.2.1 v0 0) 11 ((D.1 (D.2.1 v0 0) 11) + (1 : Int32))).1 ((ob_pI D (D.2.1 v0 0) 11 ((D.1 (D.2.1 v0 0) 11) + (1 : Int32))).2.1 v0 0) 8)]) (rest := []) d_Handler_refuse_26 c_Handler_refuse_115 hk4 rfl rfl (Nat.le_of_ble_eq_true rfl) (c_Reports_begin hk4 h9) ⟨Nat.le_refl _, Nat.le_refl _⟩ ⟨Nat.le_refl _, Nat.le_refl _⟩ ?_
  refine ob_astore (lo2 := [(0, .ref v0), (1, .int v1), (2, .int v2), (3, .ref x10)]) d_Handler_refuse_29 rfl ?_
  refine ob_aload d_Handler_refuse_30 rfl ?_
  refine ob_aload d_Handler_refuse_31 rfl ?_
  obtain ⟨hg13, h⟩ := ob_gd h
  refine ob_getR d_Handler_refuse_32 F_11_8 l_Handler_53 hp_v0 hg13 (fun hk12 => ?_)
  refine ob_push d_Handler_refuse_35 ?_
  refine ob_push d_Handler_refuse_36 ?_
  obtain ⟨x16, D14, h15, h⟩ := ob_bd_e h
  refine ob_callVi (As := [.int (0 : Int32), .int (4 : Int32)]) (rest := [.ref x10]) d_Handler_refuse_37 c_Handler_refuse_150 hk12 rfl rfl (Nat.le_of_ble_eq_true rfl) (c_Row_number hk12 h15) ⟨Nat.le_refl _, Nat.le_refl _⟩ ⟨Nat.le_refl _, Nat.le_refl _⟩ ?_
  refine ob_push d_Handler_refuse_40 ?_
  obtain ⟨D17, h18, h⟩ := ob_bv_e h
  refine ob_callVv (As := [.int x16, .int (4 : Int32)]) (rest := []) d_Handler_refuse_41 c_Handler_refuse_121 hk11 rfl rfl (Nat.le_of_ble_eq_true rfl) (c_Row_add hk11 h18) ⟨Nat.le_refl _, Nat.le_refl _⟩ ⟨Nat.le_refl _, Nat.le_refl _⟩ ?_
  refine ob_aload d_Handler_refuse_44 rfl ?_
  refine ob_iload d_Handler_refuse_45 rfl ?_
  refine ob_push d_Handler_refuse_46 ?_
  obtain ⟨D19, h20, h⟩ := ob_bv_e h
  refine ob_callVv (As := [.int v2, .int (2 : Int32)]) (rest := []) d_Handler_refuse_47 c_Handler_refuse_121 hk11 rfl rfl (Nat.le_of_ble_eq_true rfl) (c_Row_add hk11 h20) ⟨Nat.le_refl _, Nat.le_refl _⟩ ⟨Nat.le_refl _, Nat.le_refl _⟩ ?_
  refine ob_aload d_Handler_refuse_50 rfl ?_
  obtain ⟨hg22, h⟩ := ob_gd h
  refine ob_getR d_Handler_refuse_51 F_11_4 l_Handler_36 hp_v0 hg22 (fun hk21 => ?_)
  obtain ⟨D23, h24, h⟩ := ob_bv_e h
  refine ob_callVv (As := []) (rest := []) d_Handler_refuse_54 c_Handler_refuse_124 hk21 rfl rfl (Nat.le_of_ble_eq_true rfl) (c_Reports_send hk21 h24) ⟨Nat.le_refl _, Nat.le_refl _⟩ ⟨Nat.le_refl _, Nat.le_refl _⟩ ?_
  exact ob_ve h (ob_vret d_Handler_refuse_57 rfl)
-- OrbitBox$Handler.answer(I)V
theorem d_Handler_answer_4 : ob_dk k_Handler_answer 4 5 (1 : Int32) (.iconst 1) 1 := ⟨by decide +kernel, rfl, show Int32.ofInt 1 = (1 : Int32) by decide +kernel⟩
theorem d_Handler_answer_20 : ob_dk k_Handler_answer 20 21 (0 : Int32) (.iconst 0) 1 := ⟨by decide +kernel, rfl, show Int32.ofInt 0 = (0 : Int32) by decide +kernel⟩
theorem d_Handler_answer_21 : ob_dk k_Handler_answer 21 22 (4 : Int32) (.iconst 4) 1 := ⟨by decide +kernel, rfl, show Int32.ofInt 4 = (4 : Int32) by decide +kernel⟩
theorem d_Handler_answer_25 : ob_dk k_Handler_answer 25 26 (4 : Int32) (.iconst 4) 1 := ⟨by decide +kernel, rfl, show Int32.ofInt 4 = (4 : Int32) by decide +kernel⟩
theorem d_Handler_answer_36 : ob_dc k_Handler_answer 36 (.return_) 1 37 := ⟨by decide +kernel, rfl⟩
theorem d_Handler_answer_33 : ob_dc k_Handler_answer 33 (.invokevirtual 124) 3 36 := ⟨by decide +kernel, rfl⟩
theorem d_Handler_answer_30 : ob_dc k_Handler_answer 30 (.getfield 36) 3 33 := ⟨by decide +kernel, rfl⟩
theorem d_Handler_answer_29 : ob_dv ob_ac k_Handler_answer 29 30 0 (.aload_n 0) 1 := ⟨by decide +kernel, rfl, rfl⟩
theorem d_Handler_answer_26 : ob_dc k_Handler_answer 26 (.invokevirtual 121) 3 29 := ⟨by decide +kernel, rfl⟩
theorem d_Handler_answer_22 : ob_dc k_Handler_answer 22 (.invokevirtual 150) 3 25 := ⟨by decide +kernel, rfl⟩
theorem d_Handler_answer_17 : ob_dc k_Handler_answer 17 (.getfield 53) 3 20 := ⟨by decide +kernel, rfl⟩
theorem d_Handler_answer_16 : ob_dv ob_ac k_Handler_answer 16 17 0 (.aload_n 0) 1 := ⟨by decide +kernel, rfl, rfl⟩
theorem d_Handler_answer_13 : ob_dc k_Handler_answer 13 (.invokevirtual 115) 3 16 := ⟨by decide +kernel, rfl⟩
theorem d_Handler_answer_10 : ob_dc k_Handler_answer 10 (.getfield 58) 3 13 := ⟨by decide +kernel, rfl⟩
theorem d_Handler_answer_7 : ob_dc k_Handler_answer 7 (.getfield 9) 3 10 := ⟨by decide +kernel, rfl⟩
theorem d_Handler_answer_6 : ob_dv ob_ac k_Handler_answer 6 7 0 (.aload_n 0) 1 := ⟨by decide +kernel, rfl, rfl⟩
theorem d_Handler_answer_5 : ob_dv ob_lc k_Handler_answer 5 6 1 (.iload_n 1) 1 := ⟨by decide +kernel, rfl, rfl⟩
theorem d_Handler_answer_1 : ob_dc k_Handler_answer 1 (.getfield 36) 3 4 := ⟨by decide +kernel, rfl⟩
theorem d_Handler_answer_0 : ob_dv ob_ac k_Handler_answer 0 1 0 (.aload_n 0) 1 := ⟨by decide +kernel, rfl, rfl⟩
theorem c_Handler_answer_124 : ob_vd k_Handler_answer k_Reports_send 124 0 8 := ⟨cw_Reports_send, yd_Reports_send, w_613, w_614, w_615, w_11, ⟨_, _, rfl⟩, by decide, by decide⟩
theorem c_Handler_answer_121 : ob_vd k_Handler_answer k_Row_add 121 2 1 := ⟨cw_Row_add, yd_Row_add, w_612, w_467, w_468, w_2, ⟨_, _, rfl⟩, by decide, by decide⟩
theorem c_Handler_answer_150 : ob_vd k_Handler_answer k_Row_number 150 2 1 := ⟨cw_Row_number, yd_Row_number, w_592, w_479, w_480, w_2, ⟨_, _, rfl⟩, by decide, by decide⟩
theorem c_Handler_answer_115 : ob_vd k_Handler_answer k_Reports_begin 115 3 8 := ⟨cw_Reports_begin, yd_Reports_begin, w_606, w_607, w_608, w_11, ⟨_, _, rfl⟩, by decide, by decide⟩
def f_Handler_answer (S : ob_S) (v0 : Nat) (v1 : Int32) (D : ob_D) : Option (ob_D) :=
  if D.2.1 v0 4 ≠ 0 then if D.2.1 v0 0 ≠ 0 then ob_bd (f_Reports_begin S (D.2.1 v0 4) (1 : Int32) v1 (D.1 (D.2.1 v0 0) 8) D) fun x7 D5 => if S.1 x7 = 2 then if D5.2.1 v0 8 ≠ 0 then ob_bd (f_Row_number S (D5.2.1 v0 8) (0 : Int32) (4 : Int32) D5) fun x13 D11 => ob_bv (f_Row_add S x7 x13 (4 : Int32) D11) fun D14 => if D14.2.1 v0 4 ≠ 0 then ob_bv (f_Reports_send S (D14.2.1 v0 4) D14) fun D18 => some D18 else none else none else none else none else none
theorem c_Handler_answer {l : Launch} {E : ob_E} {S : ob_S} {D : ob_D} {v0 : Nat} {v1 : Int32} {D' : ob_D} (hp_v0 : S.1 v0 = 12) (h : f_Handler_answer S v0 v1 D = some D') : ob_M l E k_Handler_answer [.ref v0, .int v1] S D none S D' := by
  refine ob_ofV (lo := [(0, .ref v0), (1, .int v1)]) (by decide) rfl (Nat.le_of_ble_eq_true rfl) rfl (Nat.le_refl _) (Nat.le_refl _) ?_
  rw [f_Handler_answer] at h
  refine ob_aload d_Handler_answer_0 rfl ?_
  obtain ⟨hg2, h⟩ := ob_gd h
  refine ob_getR d_Handler_answer_1 F_11_4 l_Handler_36 hp_v0 hg2 (fun hk1 => ?_)
  refine ob_push d_Handler_answer_4 ?_
  refine ob_iload d_Handler_answer_5 rfl ?_
  refine ob_aload d_Handler_answer_6 rfl ?_
  obtain ⟨hg4, h⟩ := ob_gd h
  refine ob_getR d_Handler_answer_7 F_11_0 l_Handler_9 hp_v0 hg4 (fun hk3 => ?_)
  refine ob_getI d_Handler_answer_10 F_10_8 l_Handler_58 hk3 ?_
  obtain ⟨x7, D5, h6, h⟩ := ob_bd_e h
  obtain ⟨hk8, h⟩ := ob_gd h
  refine ob_callVr (As := [.int (1 : Int32), .int v1, .int (D.1 (D.2.1 v0 0) 8)]) (rest := []) d_Handler_answer_13 c_Handler_answer_115 hk1 rfl rfl (Nat.le_of_ble_eq_true rfl) (c_Reports_begin hk1 h6) ⟨Nat.le_refl _, Nat.le_refl _⟩ ⟨Nat.le_refl _, Nat.le_refl _⟩ ?_
  refine ob_aload d_Handler_answer_16 rfl ?_
  obtain ⟨hg10, h⟩ := ob_gd h
  refine ob_getR d_Handler_answer_17 F_11_8 l_Handler_53 hp_v0 hg10 (fun hk9 => ?_)
  refine ob_push d_Handler_answer_20 ?_
  refine ob_push d_Handler_answer_21 ?_
  obtain ⟨x13, D11, h12, h⟩ := ob_bd_e h
  refine ob_callVi (As := [.int (0 : Int32), .int (4 : Int32)]) (rest := [.ref x7]) d_Handler_answer_22 c_Handler_answer_150 hk9 rfl rfl (Nat.le_of_ble_eq_true rfl) (c_Row_number hk9 h12) ⟨Nat.le_refl _, Nat.le_refl _⟩ ⟨Nat.le_refl _, Nat.le_refl _⟩ ?_
  refine ob_push d_Handler_answer_25 ?_
  obtain ⟨D14, h15, h⟩ := ob_bv_e h
  refine ob_callVv (As := [.int x13, .int (4 : Int32)]) (rest := []) d_Handler_answer_26 c_Handler_answer_121 hk8 rfl rfl (Nat.le_of_ble_eq_true rfl) (c_Row_add hk8 h15) ⟨Nat.le_refl _, Nat.le_refl _⟩ ⟨Nat.le_refl _, Nat.le_refl _⟩ ?_
  refine ob_aload d_Handler_answer_29 rfl ?_
  obtain ⟨hg17, h⟩ := ob_gd h
  refine ob_getR d_Handler_answer_30 F_11_4 l_Handler_36 hp_v0 hg17 (fun hk16 => ?_)
  obtain ⟨D18, h19, h⟩ := ob_bv_e h
  refine ob_callVv (As := []) (rest := []) d_Handler_answer_33 c_Handler_answer_124 hk16 rfl rfl (Nat.le_of_ble_eq_true rfl) (c_Reports_send hk16 h19) ⟨Nat.le_refl _, Nat.le_refl _⟩ ⟨Nat.le_refl _, Nat.le_refl _⟩ ?_
  exact ob_ve h (ob_vret d_Handler_answer_36 rfl)
-- OrbitBox$Handler.data(II)I
theorem d_Handler_data_4 : ob_dk k_Handler_data 4 6 (11 : Int32) (.bipush 11) 2 := ⟨by decide +kernel, rfl, show (Int8.ofInt 11).toInt32 = (11 : Int32) by decide +kernel⟩
theorem d_Handler_data_12 : ob_dc k_Handler_data 12 (.ireturn) 1 13 := ⟨by decide +kernel, rfl⟩
theorem d_Handler_data_9 : ob_dc k_Handler_data 9 (.invokevirtual 150) 3 12 := ⟨by decide +kernel, rfl⟩
theorem d_Handler_data_8 : ob_dv ob_lc k_Handler_data 8 9 2 (.iload_n 2) 1 := ⟨by decide +kernel, rfl, rfl⟩
theorem d_Handler_data_7 : ob_dc k_Handler_data 7 (.iadd) 1 8 := ⟨by decide +kernel, rfl⟩
theorem d_Handler_data_6 : ob_dv ob_lc k_Handler_data 6 7 1 (.iload_n 1) 1 := ⟨by decide +kernel, rfl, rfl⟩
theorem d_Handler_data_1 : ob_dc k_Handler_data 1 (.getfield 53) 3 4 := ⟨by decide +kernel, rfl⟩
theorem d_Handler_data_0 : ob_dv ob_ac k_Handler_data 0 1 0 (.aload_n 0) 1 := ⟨by decide +kernel, rfl, rfl⟩
theorem c_Handler_data_150 : ob_vd k_Handler_data k_Row_number 150 2 1 := ⟨cw_Row_number, yd_Row_number, w_592, w_479, w_480, w_2, ⟨_, _, rfl⟩, by decide, by decide⟩
def f_Handler_data (S : ob_S) (v0 : Nat) (v1 : Int32) (v2 : Int32) (D : ob_D) : Option (Int32 × ob_D) :=
  if D.2.1 v0 8 ≠ 0 then ob_bd (f_Row_number S (D.2.1 v0 8) ((11 : Int32) + v1) v2 D) fun x5 D3 => some (x5, D3) else none
theorem c_Handler_data {l : Launch} {E : ob_E} {S : ob_S} {D : ob_D} {v0 : Nat} {v1 : Int32} {v2 : Int32} {r : Int32} {D' : ob_D} (hp_v0 : S.1 v0 = 12) (h : f_Handler_data S v0 v1 v2 D = some (r, D')) : ob_M l E k_Handler_data [.ref v0, .int v1, .int v2] S D (some (.int r)) S D' := by
  refine ob_ofV (lo := [(0, .ref v0), (1, .int v1), (2, .int v2)]) (by decide) rfl (Nat.le_of_ble_eq_true rfl) rfl (Nat.le_refl _) (Nat.le_refl _) ?_
  rw [f_Handler_data] at h
  refine ob_aload d_Handler_data_0 rfl ?_
  obtain ⟨hg2, h⟩ := ob_gd h
  refine ob_getR d_Handler_data_1 F_11_8 l_Handler_53 hp_v0 hg2 (fun hk1 => ?_)
  refine ob_push d_Handler_data_4 ?_
  refine ob_iload d_Handler_data_6 rfl ?_
  refine ob_iadd d_Handler_data_7 ?_
  refine ob_iload d_Handler_data_8 rfl ?_
  obtain ⟨x5, D3, h4, h⟩ := ob_bd_e h
  refine ob_callVi (As := [.int ((11 : Int32) + v1), .int v2]) (rest := []) d_Handler_data_9 c_Handler_data_150 hk1 rfl rfl (Nat.le_of_ble_eq_true rfl) (c_Row_number hk1 h4) ⟨Nat.le_refl _, Nat.le_refl _⟩ ⟨Nat.le_refl _, Nat.le_refl _⟩ ?_
  exact ob_ie h (ob_iret d_Handler_data_12 rfl rfl)
-- OrbitBox$Handler.placeInTable(LOrbitBox$Table;II)I
theorem d_Handler_placeInTable_2 : ob_dk k_Handler_placeInTable 2 3 (0 : Int32) (.iconst 0) 1 := ⟨by decide +kernel, rfl, show Int32.ofInt 0 = (0 : Int32) by decide +kernel⟩
theorem d_Handler_placeInTable_3 : ob_dk k_Handler_placeInTable 3 4 (1 : Int32) (.iconst 1) 1 := ⟨by decide +kernel, rfl, show Int32.ofInt 1 = (1 : Int32) by decide +kernel⟩
theorem d_Handler_placeInTable_10 : ob_dk k_Handler_placeInTable 10 11 (-1 : Int32) (.iconst (-1)) 1 := ⟨by decide +kernel, rfl, show Int32.ofInt (-1) = (-1 : Int32) by decide +kernel⟩
theorem d_Handler_placeInTable_27 : ob_dk k_Handler_placeInTable 27 28 (0 : Int32) (.iconst 0) 1 := ⟨by decide +kernel, rfl, show Int32.ofInt 0 = (0 : Int32) by decide +kernel⟩
theorem d_Handler_placeInTable_28 : ob_dc k_Handler_placeInTable 28 (.ireturn) 1 29 := ⟨by decide +kernel, rfl⟩
theorem d_Handler_placeInTable_24 : ob_db k_Handler_placeInTable 24 (.goto 4) 4 27 28 := ⟨by decide +kernel, rfl, by decide⟩
theorem d_Handler_placeInTable_23 : ob_dv ob_lc k_Handler_placeInTable 23 24 3 (.iload_n 3) 1 := ⟨by decide +kernel, rfl, rfl⟩
theorem d_Handler_placeInTable_20 : ob_db k_Handler_placeInTable 20 (.ifCond .eq 7) 7 23 27 := ⟨by decide +kernel, rfl, by decide⟩
theorem d_Handler_placeInTable_17 : ob_dc k_Handler_placeInTable 17 (.invokevirtual 232) 3 20 := ⟨by decide +kernel, rfl⟩
theorem d_Handler_placeInTable_16 : ob_dv ob_ac k_Handler_placeInTable 16 17 1 (.aload_n 1) 1 := ⟨by decide +kernel, rfl, rfl⟩
theorem d_Handler_placeInTable_15 : ob_dc k_Handler_placeInTable 15 (.ireturn) 1 16 := ⟨by decide +kernel, rfl⟩
theorem d_Handler_placeInTable_14 : ob_dv ob_lc k_Handler_placeInTable 14 15 2 (.iload_n 2) 1 := ⟨by decide +kernel, rfl, rfl⟩
theorem d_Handler_placeInTable_11 : ob_db k_Handler_placeInTable 11 (.if_icmp .eq 5) 5 14 16 := ⟨by decide +kernel, rfl, by decide⟩
theorem d_Handler_placeInTable_7 : ob_dc k_Handler_placeInTable 7 (.invokevirtual 229) 3 10 := ⟨by decide +kernel, rfl⟩
theorem d_Handler_placeInTable_4 : ob_dc k_Handler_placeInTable 4 (.invokevirtual 187) 3 7 := ⟨by decide +kernel, rfl⟩
theorem d_Handler_placeInTable_1 : ob_dv ob_ac k_Handler_placeInTable 1 2 0 (.aload_n 0) 1 := ⟨by decide +kernel, rfl, rfl⟩
theorem d_Handler_placeInTable_0 : ob_dv ob_ac k_Handler_placeInTable 0 1 1 (.aload_n 1) 1 := ⟨by decide +kernel, rfl, rfl⟩
theorem c_Handler_placeInTable_232 : ob_vd k_Handler_placeInTable k_Table_isFull 232 0 7 := ⟨cw_Table_isFull, yd_Table_isFull, w_675, w_676, w_677, w_9, ⟨_, _, rfl⟩, by decide, by decide⟩
theorem c_Handler_placeInTable_229 : ob_vd k_Handler_placeInTable k_Table_find 229 1 7 := ⟨cw_Table_find, yd_Table_find, w_671, w_672, w_673, w_9, ⟨_, _, rfl⟩, by decide, by decide⟩
theorem c_Handler_placeInTable_187 : ob_vd k_Handler_placeInTable k_Handler_data 187 2 11 := ⟨cw_Handler_data, yd_Handler_data, w_663, w_665, wp_16, w_13, ⟨_, _, rfl⟩, by decide, by decide⟩
def f_Handler_placeInTable (S : ob_S) (v0 : Nat) (v1 : Nat) (v2 : Int32) (v3 : Int32) (D : ob_D) : Option (Int32 × ob_D) :=
  ob_bd (f_Handler_data S v0 (0 : Int32) (1 : Int32) D) fun x3 D1 => ob_bd (f_Table_find S v1 x3 D1) fun x6 D4 => (if x6 = (-1 : Int32) then ob_bd (f_Table_isFull S v1 D4) fun x9 D7 => (if x9 = 0 then some ((0 : Int32), D7) else some (v3, D7)) else some (v2, D4))
theorem c_Handler_placeInTable {l : Launch} {E : ob_E} {S : ob_S} {D : ob_D} {v0 : Nat} {v1 : Nat} {v2 : Int32} {v3 : Int32} {r : Int32} {D' : ob_D} (hp_v0 : S.1 v0 = 12) (hp_v1 : S.1 v1 = 8) (h : f_Handler_placeInTable S v0 v1 v2 v3 D = some (r, D')) : ob_M l E k_Handler_placeInTable [.ref v0, .ref v1, .int v2, .int v3] S D (some (.int r)) S D' := by
  refine ob_ofV (lo := [(0, .ref v0), (1, .ref v1), (2, .int v2), (3, .int v3)]) (by decide) rfl (Nat.le_of_ble_eq_true rfl) rfl (Nat.le_refl _) (Nat.le_refl _) ?_
  rw [f_Handler_placeInTable] at h
  refine ob_aload d_Handler_placeInTable_0 rfl ?_
  refine ob_aload d_Handler_placeInTable_1 rfl ?_
  refine ob_push d_Handler_placeInTable_2 ?_
  refine ob_push d_Handler_placeInTable_3 ?_
  obtain ⟨x3, D1, h2, h⟩ := ob_bd_e h
  refine ob_callVi (As := [.int (0 : Int32), .int (1 : Int32)]) (rest := [.ref v1]) d_Handler_placeInTable_4 c_Handler_placeInTable_187 hp_v0 rfl rfl (Nat.le_of_ble_eq_true rfl) (c_Handler_data hp_v0 h2) ⟨Nat.le_refl _, Nat.le_refl _⟩ ⟨Nat.le_refl _, Nat.le_refl _⟩ ?_
  obtain ⟨x6, D4, h5, h⟩ := ob_bd_e h
  refine ob_callVi (As := [.int x3]) (rest := []) d_Handler_placeInTable_7 c_Handler_placeInTable_229 hp_v1 rfl rfl (Nat.le_of_ble_eq_true rfl) (c_Table_find hp_v1 h5) ⟨Nat.le_refl _, Nat.le_refl _⟩ ⟨Nat.le_refl _, Nat.le_refl _⟩ ?_
  refine ob_push d_Handler_placeInTable_10 ?_
  refine ob_icmp_eq d_Handler_placeInTable_11 (fun hc => ?_) (fun hc => ?_)
  · replace h := ob_ift hc h
    refine ob_aload d_Handler_placeInTable_16 rfl ?_
    obtain ⟨x9, D7, h8, h⟩ := ob_bd_e h
    refine ob_callVi (As := []) (rest := []) d_Handler_placeInTable_17 c_Handler_placeInTable_232 hp_v1 rfl rfl (Nat.le_of_ble_eq_true rfl) (c_Table_isFull hp_v1 h8) ⟨Nat.le_refl _, Nat.le_refl _⟩ ⟨Nat.le_refl _, Nat.le_refl _⟩ ?_
    refine ob_if_eq d_Handler_placeInTable_20 (fun hc => ?_) (fun hc => ?_)
    · replace h := ob_ift hc h
      refine ob_push d_Handler_placeInTable_27 ?_
      exact ob_ie h (ob_iret d_Handler_placeInTable_28 rfl rfl)
    · replace h := ob_iff hc h
      refine ob_iload d_Handler_placeInTable_23 rfl ?_
      refine ob_goto d_Handler_placeInTable_24 ?_
      exact ob_ie h (ob_iret d_Handler_placeInTable_28 rfl rfl)
  · replace h := ob_iff hc h
    refine ob_iload d_Handler_placeInTable_14 rfl ?_
    exact ob_ie h (ob_iret d_Handler_placeInTable_15 rfl rfl)
-- OrbitBox$Handler.newFormFailure()I
theorem d_Handler_newFormFailure_1 : ob_dk k_Handler_newFormFailure 1 2 (2 : Int32) (.iconst 2) 1 := ⟨by decide +kernel, rfl, show Int32.ofInt 2 = (2 : Int32) by decide +kernel⟩
theorem d_Handler_newFormFailure_2 : ob_dk k_Handler_newFormFailure 2 3 (1 : Int32) (.iconst 1) 1 := ⟨by decide +kernel, rfl, show Int32.ofInt 1 = (1 : Int32) by decide +kernel⟩
theorem d_Handler_newFormFailure_8 : ob_dk k_Handler_newFormFailure 8 9 (1 : Int32) (.iconst 1) 1 := ⟨by decide +kernel, rfl, show Int32.ofInt 1 = (1 : Int32) by decide +kernel⟩
theorem d_Handler_newFormFailure_9 : ob_dk k_Handler_newFormFailure 9 10 (1 : Int32) (.iconst 1) 1 := ⟨by decide +kernel, rfl, show Int32.ofInt 1 = (1 : Int32) by decide +kernel⟩
theorem d_Handler_newFormFailure_26 : ob_dk k_Handler_newFormFailure 26 28 (13 : Int32) (.bipush 13) 2 := ⟨by decide +kernel, rfl, show (Int8.ofInt 13).toInt32 = (13 : Int32) by decide +kernel⟩
theorem d_Handler_newFormFailure_28 : ob_dc k_Handler_newFormFailure 28 (.ireturn) 1 29 := ⟨by decide +kernel, rfl⟩
theorem d_Handler_newFormFailure_21 : ob_dk k_Handler_newFormFailure 21 23 (8 : Int32) (.bipush 8) 2 := ⟨by decide +kernel, rfl, show (Int8.ofInt 8).toInt32 = (8 : Int32) by decide +kernel⟩
theorem d_Handler_newFormFailure_29 : ob_dk k_Handler_newFormFailure 29 30 (0 : Int32) (.iconst 0) 1 := ⟨by decide +kernel, rfl, show Int32.ofInt 0 = (0 : Int32) by decide +kernel⟩
theorem d_Handler_newFormFailure_63 : ob_dk k_Handler_newFormFailure 63 65 (11 : Int32) (.bipush 11) 2 := ⟨by decide +kernel, rfl, show (Int8.ofInt 11).toInt32 = (11 : Int32) by decide +kernel⟩
theorem d_Handler_newFormFailure_65 : ob_dk k_Handler_newFormFailure 65 67 (12 : Int32) (.bipush 12) 2 := ⟨by decide +kernel, rfl, show (Int8.ofInt 12).toInt32 = (12 : Int32) by decide +kernel⟩
theorem d_Handler_newFormFailure_70 : ob_dc k_Handler_newFormFailure 70 (.ireturn) 1 71 := ⟨by decide +kernel, rfl⟩
theorem d_Handler_newFormFailure_67 : ob_dc k_Handler_newFormFailure 67 (.invokevirtual 225) 3 70 := ⟨by decide +kernel, rfl⟩
theorem d_Handler_newFormFailure_60 : ob_dc k_Handler_newFormFailure 60 (.getfield 37) 3 63 := ⟨by decide +kernel, rfl⟩
theorem d_Handler_newFormFailure_59 : ob_dv ob_ac k_Handler_newFormFailure 59 60 0 (.aload_n 0) 1 := ⟨by decide +kernel, rfl, rfl⟩
theorem d_Handler_newFormFailure_58 : ob_dv ob_ac k_Handler_newFormFailure 58 59 0 (.aload_n 0) 1 := ⟨by decide +kernel, rfl, rfl⟩
theorem d_Handler_newFormFailure_37 : ob_dk k_Handler_newFormFailure 37 38 (3 : Int32) (.iconst 3) 1 := ⟨by decide +kernel, rfl, show Int32.ofInt 3 = (3 : Int32) by decide +kernel⟩
theorem d_Handler_newFormFailure_40 : ob_dk k_Handler_newFormFailure 40 41 (1 : Int32) (.iconst 1) 1 := ⟨by decide +kernel, rfl, show Int32.ofInt 1 = (1 : Int32) by decide +kernel⟩
theorem d_Handler_newFormFailure_44 : ob_dk k_Handler_newFormFailure 44 46 (32 : Int32) (.bipush 32) 2 := ⟨by decide +kernel, rfl, show (Int8.ofInt 32).toInt32 = (32 : Int32) by decide +kernel⟩
theorem d_Handler_newFormFailure_52 : ob_di k_Handler_newFormFailure 52 55 2 1 (1 : Int32) := ⟨by decide +kernel, rfl, by decide +kernel, by decide +kernel⟩
theorem d_Handler_newFormFailure_55 : ob_db k_Handler_newFormFailure 55 (.goto (-24)) (-24) 58 31 := ⟨by decide +kernel, rfl, by decide⟩
theorem d_Handler_newFormFailure_49 : ob_dk k_Handler_newFormFailure 49 51 (13 : Int32) (.bipush 13) 2 := ⟨by decide +kernel, rfl, show (Int8.ofInt 13).toInt32 = (13 : Int32) by decide +kernel⟩
theorem d_Handler_newFormFailure_51 : ob_dc k_Handler_newFormFailure 51 (.ireturn) 1 52 := ⟨by decide +kernel, rfl⟩
theorem d_Handler_newFormFailure_46 : ob_db k_Handler_newFormFailure 46 (.if_icmp .lt 6) 6 49 52 := ⟨by decide +kernel, rfl, by decide⟩
theorem d_Handler_newFormFailure_41 : ob_dc k_Handler_newFormFailure 41 (.invokevirtual 187) 3 44 := ⟨by decide +kernel, rfl⟩
theorem d_Handler_newFormFailure_39 : ob_dc k_Handler_newFormFailure 39 (.iadd) 1 40 := ⟨by decide +kernel, rfl⟩
theorem d_Handler_newFormFailure_38 : ob_dv ob_lc k_Handler_newFormFailure 38 39 2 (.iload_n 2) 1 := ⟨by decide +kernel, rfl, rfl⟩
theorem d_Handler_newFormFailure_36 : ob_dv ob_ac k_Handler_newFormFailure 36 37 0 (.aload_n 0) 1 := ⟨by decide +kernel, rfl, rfl⟩
theorem d_Handler_newFormFailure_33 : ob_db k_Handler_newFormFailure 33 (.if_icmp .ge 25) 25 36 58 := ⟨by decide +kernel, rfl, by decide⟩
theorem d_Handler_newFormFailure_32 : ob_dv ob_lc k_Handler_newFormFailure 32 33 1 (.iload_n 1) 1 := ⟨by decide +kernel, rfl, rfl⟩
theorem d_Handler_newFormFailure_31 : ob_dv ob_lc k_Handler_newFormFailure 31 32 2 (.iload_n 2) 1 := ⟨by decide +kernel, rfl, rfl⟩
theorem d_Handler_newFormFailure_30 : ob_dv (ob_sc k_Handler_newFormFailure.2.2.2.1) k_Handler_newFormFailure 30 31 2 (.istore_n 2) 1 := ⟨by decide +kernel, rfl, ⟨rfl, by decide +kernel⟩⟩
theorem d_Handler_newFormFailure_23 : ob_db k_Handler_newFormFailure 23 (.if_icmp .le 6) 6 26 29 := ⟨by decide +kernel, rfl, by decide⟩
theorem d_Handler_newFormFailure_20 : ob_dv ob_lc k_Handler_newFormFailure 20 21 1 (.iload_n 1) 1 := ⟨by decide +kernel, rfl, rfl⟩
theorem d_Handler_newFormFailure_17 : ob_db k_Handler_newFormFailure 17 (.ifCond .eq 9) 9 20 26 := ⟨by decide +kernel, rfl, by decide⟩
theorem d_Handler_newFormFailure_16 : ob_dv ob_lc k_Handler_newFormFailure 16 17 1 (.iload_n 1) 1 := ⟨by decide +kernel, rfl, rfl⟩
theorem d_Handler_newFormFailure_13 : ob_db k_Handler_newFormFailure 13 (.ifCond .eq 13) 13 16 26 := ⟨by decide +kernel, rfl, by decide⟩
theorem d_Handler_newFormFailure_10 : ob_dc k_Handler_newFormFailure 10 (.invokevirtual 187) 3 13 := ⟨by decide +kernel, rfl⟩
theorem d_Handler_newFormFailure_7 : ob_dv ob_ac k_Handler_newFormFailure 7 8 0 (.aload_n 0) 1 := ⟨by decide +kernel, rfl, rfl⟩
theorem d_Handler_newFormFailure_6 : ob_dv (ob_sc k_Handler_newFormFailure.2.2.2.1) k_Handler_newFormFailure 6 7 1 (.istore_n 1) 1 := ⟨by decide +kernel, rfl, ⟨rfl, by decide +kernel⟩⟩
theorem d_Handler_newFormFailure_3 : ob_dc k_Handler_newFormFailure 3 (.invokevirtual 187) 3 6 := ⟨by decide +kernel, rfl⟩
theorem d_Handler_newFormFailure_0 : ob_dv ob_ac k_Handler_newFormFailure 0 1 0 (.aload_n 0) 1 := ⟨by decide +kernel, rfl, rfl⟩
theorem c_Handler_newFormFailure_225 : ob_vd k_Handler_newFormFailure k_Handler_placeInTable 225 3 11 := ⟨cw_Handler_placeInTable, yd_Handler_placeInTable, w_667, w_669, wp_17, w_13, ⟨_, _, rfl⟩, by decide, by decide⟩
theorem c_Handler_newFormFailure_187 : ob_vd k_Handler_newFormFailure k_Handler_data 187 2 11 := ⟨cw_Handler_data, yd_Handler_data, w_663, w_665, wp_16, w_13, ⟨_, _, rfl⟩, by decide, by decide⟩
def f_Handler_newFormFailure_L31 (S : ob_S) : Nat → Nat → Int32 → Int32 → ob_D → Option (Int32 × ob_D)
  | 0, _, _, _, _ => none
  | n + 1, v0, v1, v2, D => (if v1 ≤ v2 then if D.2.1 v0 5 ≠ 0 then ob_bd (f_Handler_placeInTable S v0 (D.2.1 v0 5) (11 : Int32) (12 : Int32) D) fun x11 D9 => some (x11, D9) else none else ob_bd (f_Handler_data S v0 ((3 : Int32) + v2) (1 : Int32) D) fun x14 D12 => (if x14 < (32 : Int32) then f_Handler_newFormFailure_L31 S n v0 v1 (v2 + (1 : Int32)) D12 else some ((13 : Int32), D12)))
theorem v_Handler_newFormFailure_L31 {l : Launch} {E : ob_E} {S : ob_S} {r : Int32} {D' : ob_D} : ∀ (n : Nat), ∀ (v0 : Nat) (v1 : Int32) (v2 : Int32) (D : ob_D), S.1 v0 = 12 → f_Handler_newFormFailure_L31 S n v0 v1 v2 D = some (r, D') → ob_V l E k_Handler_newFormFailure 31 [(0, .ref v0), (1, .int v1), (2, .int v2)] [] S D (some (.int r)) S D' := by
  intro n
  induction n with
  | zero =>
    intro v0 v1 v2 D hp_v0 h
    have h : none = some (r, D') := h
    cases h
  | succ n ih =>
    intro v0 v1 v2 D hp_v0 h
    rw [f_Handler_newFormFailure_L31] at h
    refine ob_iload d_Handler_newFormFailure_31 rfl ?_
    refine ob_iload d_Handler_newFormFailure_32 rfl ?_
    refine ob_icmp_ge d_Handler_newFormFailure_33 (fun hc => ?_) (fun hc => ?_)
    · replace h := ob_ift hc h
      refine ob_aload d_Handler_newFormFailure_58 rfl ?_
      refine ob_aload d_Handler_newFormFailure_59 rfl ?_
      obtain ⟨hg8, h⟩ := ob_gd h
      refine ob_getR d_Handler_newFormFailure_60 F_11_5 l_Handler_37 hp_v0 hg8 (fun hk7 => ?_)
      refine ob_push d_Handler_newFormFailure_63 ?_
      refine ob_push d_Handler_newFormFailure_65 ?_
      obtain ⟨x11, D9, h10, h⟩ := ob_bd_e h
      refine ob_callVi (As := [.ref (D.2.1 v0 5), .int (11 : Int32), .int (12 : Int32)]) (rest := []) d_Handler_newFormFailure_67 c_Handler_newFormFailure_225 hp_v0 rfl rfl (Nat.le_of_ble_eq_true rfl) (c_Handler_placeInTable hp_v0 hk7 h10) ⟨Nat.le_refl _, Nat.le_refl _⟩ ⟨Nat.le_refl _, Nat.le_refl _⟩ ?_
      exact ob_ie h (ob_iret d_Handler_newFormFailure_70 rfl rfl)
    · replace h := ob_iff hc h
      refine ob_aload d_Handler_newFormFailure_36 rfl ?_
      refine ob_push d_Handler_newFormFailure_37 ?_
      refine ob_iload d_Handler_newFormFailure_38 rfl ?_
      refine ob_iadd d_Handler_newFormFailure_39 ?_
      refine ob_push d_Handler_newFormFailure_40 ?_
      obtain ⟨x14, D12, h13, h⟩ := ob_bd_e h
      refine ob_callVi (As := [.int ((3 : Int32) + v2), .int (1 : Int32)]) (rest := []) d_Handler_newFormFailure_41 c_Handler_newFormFailure_187 hp_v0 rfl rfl (Nat.le_of_ble_eq_true rfl) (c_Handler_data hp_v0 h13) ⟨Nat.le_refl _, Nat.le_refl _⟩ ⟨Nat.le_refl _, Nat.le_refl _⟩ ?_
      refine ob_push d_Handler_newFormFailure_44 ?_
      refine ob_icmp_lt d_Handler_newFormFailure_46 (fun hc => ?_) (fun hc => ?_)
      · replace h := ob_ift hc h
        refine ob_iinc (lo2 := [(0, .ref v0), (1, .int v1), (2, .int (v2 + (1 : Int32)))]) d_Handler_newFormFailure_52 rfl rfl ?_
        refine ob_goto d_Handler_newFormFailure_55 ?_
        exact ih v0 v1 (v2 + (1 : Int32)) D12 hp_v0 h
      · replace h := ob_iff hc h
        refine ob_push d_Handler_newFormFailure_49 ?_
        exact ob_ie h (ob_iret d_Handler_newFormFailure_51 rfl rfl)
def f_Handler_newFormFailure (S : ob_S) (v0 : Nat) (D : ob_D) : Option (Int32 × ob_D) :=
  ob_bd (f_Handler_data S v0 (2 : Int32) (1 : Int32) D) fun x3 D1 => ob_bd (f_Handler_data S v0 (1 : Int32) (1 : Int32) D1) fun x6 D4 => (if x6 = 0 then some ((13 : Int32), D4) else (if x3 = 0 then some ((13 : Int32), D4) else (if x3 ≤ (8 : Int32) then f_Handler_newFormFailure_L31 S ob_FU v0 x3 (0 : Int32) D4 else some ((13 : Int32), D4))))
theorem c_Handler_newFormFailure {l : Launch} {E : ob_E} {S : ob_S} {D : ob_D} {v0 : Nat} {r : Int32} {D' : ob_D} (hp_v0 : S.1 v0 = 12) (h : f_Handler_newFormFailure S v0 D = some (r, D')) : ob_M l E k_Handler_newFormFailure [.ref v0] S D (some (.int r)) S D' := by
  refine ob_ofV (lo := [(0, .ref v0)]) (by decide) rfl (Nat.le_of_ble_eq_true rfl) rfl (Nat.le_refl _) (Nat.le_refl _) ?_
  rw [f_Handler_newFormFailure] at h
  refine ob_aload d_Handler_newFormFailure_0 rfl ?_
  refine ob_push d_Handler_newFormFailure_1 ?_
  refine ob_push d_Handler_newFormFailure_2 ?_
  obtain ⟨x3, D1, h2, h⟩ := ob_bd_e h
  refine ob_callVi (As := [.int (2 : Int32), .int (1 : Int32)]) (rest := []) d_Handler_newFormFailure_3 c_Handler_newFormFailure_187 hp_v0 rfl rfl (Nat.le_of_ble_eq_true rfl) (c_Handler_data hp_v0 h2) ⟨Nat.le_refl _, Nat.le_refl _⟩ ⟨Nat.le_refl _, Nat.le_refl _⟩ ?_
  refine ob_istore (lo2 := [(0, .ref v0), (1, .int x3)]) d_Handler_newFormFailure_6 rfl ?_
  refine ob_aload d_Handler_newFormFailure_7 rfl ?_
  refine ob_push d_Handler_newFormFailure_8 ?_
  refine ob_push d_Handler_newFormFailure_9 ?_
  obtain ⟨x6, D4, h5, h⟩ := ob_bd_e h
  refine ob_callVi (As := [.int (1 : Int32), .int (1 : Int32)]) (rest := []) d_Handler_newFormFailure_10 c_Handler_newFormFailure_187 hp_v0 rfl rfl (Nat.le_of_ble_eq_true rfl) (c_Handler_data hp_v0 h5) ⟨Nat.le_refl _, Nat.le_refl _⟩ ⟨Nat.le_refl _, Nat.le_refl _⟩ ?_
  refine ob_if_eq d_Handler_newFormFailure_13 (fun hc => ?_) (fun hc => ?_)
  · replace h := ob_ift hc h
    refine ob_push d_Handler_newFormFailure_26 ?_
    exact ob_ie h (ob_iret d_Handler_newFormFailure_28 rfl rfl)
  · replace h := ob_iff hc h
    refine ob_iload d_Handler_newFormFailure_16 rfl ?_
    refine ob_if_eq d_Handler_newFormFailure_17 (fun hc => ?_) (fun hc => ?_)
    · replace h := ob_ift hc h
      refine ob_push d_Handler_newFormFailure_26 ?_
      exact ob_ie h (ob_iret d_Handler_newFormFailure_28 rfl rfl)
    · replace h := ob_iff hc h
      refine ob_iload d_Handler_newFormFailure_20 rfl ?_
      refine ob_push d_Handler_newFormFailure_21 ?_
      refine ob_icmp_le d_Handler_newFormFailure_23 (fun hc => ?_) (fun hc => ?_)
      · replace h := ob_ift hc h
        refine ob_push d_Handler_newFormFailure_29 ?_
        refine ob_istore (lo2 := [(0, .ref v0), (1, .int x3), (2, .int (0 : Int32))]) d_Handler_newFormFailure_30 rfl ?_
        exact v_Handler_newFormFailure_L31 ob_FU v0 x3 (0 : Int32) D4 hp_v0 h
      · replace h := ob_iff hc h
        refine ob_push d_Handler_newFormFailure_26 ?_
        exact ob_ie h (ob_iret d_Handler_newFormFailure_28 rfl rfl)
-- OrbitBox$Handler.lineFailure(LOrbitBox$Table;IZ)I
theorem d_Handler_lineFailure_2 : ob_dk k_Handler_lineFailure 2 3 (0 : Int32) (.iconst 0) 1 := ⟨by decide +kernel, rfl, show Int32.ofInt 0 = (0 : Int32) by decide +kernel⟩
theorem d_Handler_lineFailure_3 : ob_dk k_Handler_lineFailure 3 4 (1 : Int32) (.iconst 1) 1 := ⟨by decide +kernel, rfl, show Int32.ofInt 1 = (1 : Int32) by decide +kernel⟩
theorem d_Handler_lineFailure_14 : ob_dk k_Handler_lineFailure 14 15 (-1 : Int32) (.iconst (-1)) 1 := ⟨by decide +kernel, rfl, show Int32.ofInt (-1) = (-1 : Int32) by decide +kernel⟩
theorem d_Handler_lineFailure_40 : ob_dk k_Handler_lineFailure 40 41 (0 : Int32) (.iconst 0) 1 := ⟨by decide +kernel, rfl, show Int32.ofInt 0 = (0 : Int32) by decide +kernel⟩
theorem d_Handler_lineFailure_41 : ob_dc k_Handler_lineFailure 41 (.ireturn) 1 42 := ⟨by decide +kernel, rfl⟩
theorem d_Handler_lineFailure_27 : ob_dk k_Handler_lineFailure 27 28 (1 : Int32) (.iconst 1) 1 := ⟨by decide +kernel, rfl, show Int32.ofInt 1 = (1 : Int32) by decide +kernel⟩
theorem d_Handler_lineFailure_31 : ob_dk k_Handler_lineFailure 31 32 (1 : Int32) (.iconst 1) 1 := ⟨by decide +kernel, rfl, show Int32.ofInt 1 = (1 : Int32) by decide +kernel⟩
theorem d_Handler_lineFailure_35 : ob_dk k_Handler_lineFailure 35 37 (15 : Int32) (.bipush 15) 2 := ⟨by decide +kernel, rfl, show (Int8.ofInt 15).toInt32 = (15 : Int32) by decide +kernel⟩
theorem d_Handler_lineFailure_37 : ob_db k_Handler_lineFailure 37 (.goto 4) 4 40 41 := ⟨by decide +kernel, rfl, by decide⟩
theorem d_Handler_lineFailure_32 : ob_db k_Handler_lineFailure 32 (.if_icmp .ne 8) 8 35 40 := ⟨by decide +kernel, rfl, by decide⟩
theorem d_Handler_lineFailure_28 : ob_dc k_Handler_lineFailure 28 (.invokevirtual 130) 3 31 := ⟨by decide +kernel, rfl⟩
theorem d_Handler_lineFailure_25 : ob_dv ob_lc k_Handler_lineFailure 25 27 4 (.iload 4) 2 := ⟨by decide +kernel, rfl, rfl⟩
theorem d_Handler_lineFailure_24 : ob_dv ob_ac k_Handler_lineFailure 24 25 1 (.aload_n 1) 1 := ⟨by decide +kernel, rfl, rfl⟩
theorem d_Handler_lineFailure_21 : ob_db k_Handler_lineFailure 21 (.ifCond .eq 19) 19 24 40 := ⟨by decide +kernel, rfl, by decide⟩
theorem d_Handler_lineFailure_20 : ob_dv ob_lc k_Handler_lineFailure 20 21 3 (.iload_n 3) 1 := ⟨by decide +kernel, rfl, rfl⟩
theorem d_Handler_lineFailure_19 : ob_dc k_Handler_lineFailure 19 (.ireturn) 1 20 := ⟨by decide +kernel, rfl⟩
theorem d_Handler_lineFailure_18 : ob_dv ob_lc k_Handler_lineFailure 18 19 2 (.iload_n 2) 1 := ⟨by decide +kernel, rfl, rfl⟩
theorem d_Handler_lineFailure_15 : ob_db k_Handler_lineFailure 15 (.if_icmp .ne 5) 5 18 20 := ⟨by decide +kernel, rfl, by decide⟩
theorem d_Handler_lineFailure_12 : ob_dv ob_lc k_Handler_lineFailure 12 14 4 (.iload 4) 2 := ⟨by decide +kernel, rfl, rfl⟩
theorem d_Handler_lineFailure_10 : ob_dv (ob_sc k_Handler_lineFailure.2.2.2.1) k_Handler_lineFailure 10 12 4 (.istore 4) 2 := ⟨by decide +kernel, rfl, ⟨rfl, by decide +kernel⟩⟩
theorem d_Handler_lineFailure_7 : ob_dc k_Handler_lineFailure 7 (.invokevirtual 229) 3 10 := ⟨by decide +kernel, rfl⟩
theorem d_Handler_lineFailure_4 : ob_dc k_Handler_lineFailure 4 (.invokevirtual 187) 3 7 := ⟨by decide +kernel, rfl⟩
theorem d_Handler_lineFailure_1 : ob_dv ob_ac k_Handler_lineFailure 1 2 0 (.aload_n 0) 1 := ⟨by decide +kernel, rfl, rfl⟩
theorem d_Handler_lineFailure_0 : ob_dv ob_ac k_Handler_lineFailure 0 1 1 (.aload_n 1) 1 := ⟨by decide +kernel, rfl, rfl⟩
theorem c_Handler_lineFailure_130 : ob_vd k_Handler_lineFailure k_Table_get 130 2 7 := ⟨cw_Table_get, yd_Table_get, w_683, w_684, w_685, w_9, ⟨_, _, rfl⟩, by decide, by decide⟩
theorem c_Handler_lineFailure_229 : ob_vd k_Handler_lineFailure k_Table_find 229 1 7 := ⟨cw_Table_find, yd_Table_find, w_671, w_672, w_673, w_9, ⟨_, _, rfl⟩, by decide, by decide⟩
theorem c_Handler_lineFailure_187 : ob_vd k_Handler_lineFailure k_Handler_data 187 2 11 := ⟨cw_Handler_data, yd_Handler_data, w_663, w_665, wp_16, w_13, ⟨_, _, rfl⟩, by decide, by decide⟩
def f_Handler_lineFailure (S : ob_S) (v0 : Nat) (v1 : Nat) (v2 : Int32) (v3 : Int32) (D : ob_D) : Option (Int32 × ob_D) :=
  ob_bd (f_Handler_data S v0 (0 : Int32) (1 : Int32) D) fun x3 D1 => ob_bd (f_Table_find S v1 x3 D1) fun x6 D4 => (if x6 = (-1 : Int32) then some (v2, D4) else (if v3 = 0 then some ((0 : Int32), D4) else ob_bd (f_Table_get S v1 x6 (1 : Int32) D4) fun x9 D7 => (if x9 = (1 : Int32) then some ((15 : Int32), D7) else some ((0 : Int32), D7))))
theorem c_Handler_lineFailure {l : Launch} {E : ob_E} {S : ob_S} {D : ob_D} {v0 : Nat} {v1 : Nat} {v2 : Int32} {v3 : Int32} {r : Int32} {D' : ob_D} (hp_v0 : S.1 v0 = 12) (hp_v1 : S.1 v1 = 8) (h : f_Handler_lineFailure S v0 v1 v2 v3 D = some (r, D')) : ob_M l E k_Handler_lineFailure [.ref v0, .ref v1, .int v2, .int v3] S D (some (.int r)) S D' := by
  refine ob_ofV (lo := [(0, .ref v0), (1, .ref v1), (2, .int v2), (3, .int v3)]) (by decide) rfl (Nat.le_of_ble_eq_true rfl) rfl (Nat.le_refl _) (Nat.le_refl _) ?_
  rw [f_Handler_lineFailure] at h
  refine ob_aload d_Handler_lineFailure_0 rfl ?_
  refine ob_aload d_Handler_lineFailure_1 rfl ?_
  refine ob_push d_Handler_lineFailure_2 ?_
  refine ob_push d_Handler_lineFailure_3 ?_
  obtain ⟨x3, D1, h2, h⟩ := ob_bd_e h
  refine ob_callVi (As := [.int (0 : Int32), .int (1 : Int32)]) (rest := [.ref v1]) d_Handler_lineFailure_4 c_Handler_lineFailure_187 hp_v0 rfl rfl (Nat.le_of_ble_eq_true rfl) (c_Handler_data hp_v0 h2) ⟨Nat.le_refl _, Nat.le_refl _⟩ ⟨Nat.le_refl _, Nat.le_refl _⟩ ?_
  obtain ⟨x6, D4, h5, h⟩ := ob_bd_e h
  refine ob_callVi (As := [.int x3]) (rest := []) d_Handler_lineFailure_7 c_Handler_lineFailure_229 hp_v1 rfl rfl (Nat.le_of_ble_eq_true rfl) (c_Table_find hp_v1 h5) ⟨Nat.le_refl _, Nat.le_refl _⟩ ⟨Nat.le_refl _, Nat.le_refl _⟩ ?_
  refine ob_istore (lo2 := [(0, .ref v0), (1, .ref v1), (2, .int v2), (3, .int v3), (4, .int x6)]) d_Handler_lineFailure_10 rfl ?_
  refine ob_iload d_Handler_lineFailure_12 rfl ?_
  refine ob_push d_Handler_lineFailure_14 ?_
  refine ob_icmp_ne d_Handler_lineFailure_15 (fun hc => ?_) (fun hc => ?_)
  · replace h := ob_iff hc h
    refine ob_iload d_Handler_lineFailure_20 rfl ?_
    refine ob_if_eq d_Handler_lineFailure_21 (fun hc => ?_) (fun hc => ?_)
    · replace h := ob_ift hc h
      refine ob_push d_Handler_lineFailure_40 ?_
      exact ob_ie h (ob_iret d_Handler_lineFailure_41 rfl rfl)
    · replace h := ob_iff hc h
      refine ob_aload d_Handler_lineFailure_24 rfl ?_
      refine ob_iload d_Handler_lineFailure_25 rfl ?_
      refine ob_push d_Handler_lineFailure_27 ?_
      obtain ⟨x9, D7, h8, h⟩ := ob_bd_e h
      refine ob_callVi (As := [.int x6, .int (1 : Int32)]) (rest := []) d_Handler_lineFailure_28 c_Handler_lineFailure_130 hp_v1 rfl rfl (Nat.le_of_ble_eq_true rfl) (c_Table_get hp_v1 h8) ⟨Nat.le_refl _, Nat.le_refl _⟩ ⟨Nat.le_refl _, Nat.le_refl _⟩ ?_
      refine ob_push d_Handler_lineFailure_31 ?_
      refine ob_icmp_ne d_Handler_lineFailure_32 (fun hc => ?_) (fun hc => ?_)
      · replace h := ob_iff hc h
        refine ob_push d_Handler_lineFailure_40 ?_
        exact ob_ie h (ob_iret d_Handler_lineFailure_41 rfl rfl)
      · replace h := ob_ift hc h
        refine ob_push d_Handler_lineFailure_35 ?_
        refine ob_goto d_Handler_lineFailure_37 ?_
        exact ob_ie h (ob_iret d_Handler_lineFailure_41 rfl rfl)
  · replace h := ob_ift hc h
    refine ob_iload d_Handler_lineFailure_18 rfl ?_
    exact ob_ie h (ob_iret d_Handler_lineFailure_19 rfl rfl)
-- OrbitBox$Handler.placeFailure(I)I
theorem d_Handler_placeFailure_18 : ob_dk k_Handler_placeFailure 18 20 (17 : Int32) (.bipush 17) 2 := ⟨by decide +kernel, rfl, show (Int8.ofInt 17).toInt32 = (17 : Int32) by decide +kernel⟩
theorem d_Handler_placeFailure_24 : ob_dc k_Handler_placeFailure 24 (.ireturn) 1 25 := ⟨by decide +kernel, rfl⟩
theorem d_Handler_placeFailure_20 : ob_db k_Handler_placeFailure 20 (.goto 4) 4 23 24 := ⟨by decide +kernel, rfl, by decide⟩
theorem d_Handler_placeFailure_5 : ob_dk k_Handler_placeFailure 5 6 (0 : Int32) (.iconst 0) 1 := ⟨by decide +kernel, rfl, show Int32.ofInt 0 = (0 : Int32) by decide +kernel⟩
theorem d_Handler_placeFailure_6 : ob_dk k_Handler_placeFailure 6 7 (2 : Int32) (.iconst 2) 1 := ⟨by decide +kernel, rfl, show Int32.ofInt 2 = (2 : Int32) by decide +kernel⟩
theorem d_Handler_placeFailure_12 : ob_dk k_Handler_placeFailure 12 15 (4096 : Int32) (.sipush 4096) 3 := ⟨by decide +kernel, rfl, show (Int16.ofInt 4096).toInt32 = (4096 : Int32) by decide +kernel⟩
theorem d_Handler_placeFailure_23 : ob_dk k_Handler_placeFailure 23 24 (0 : Int32) (.iconst 0) 1 := ⟨by decide +kernel, rfl, show Int32.ofInt 0 = (0 : Int32) by decide +kernel⟩
theorem d_Handler_placeFailure_15 : ob_db k_Handler_placeFailure 15 (.if_icmp .le 8) 8 18 23 := ⟨by decide +kernel, rfl, by decide⟩
theorem d_Handler_placeFailure_11 : ob_dc k_Handler_placeFailure 11 (.iadd) 1 12 := ⟨by decide +kernel, rfl⟩
theorem d_Handler_placeFailure_10 : ob_dv ob_lc k_Handler_placeFailure 10 11 1 (.iload_n 1) 1 := ⟨by decide +kernel, rfl, rfl⟩
theorem d_Handler_placeFailure_7 : ob_dc k_Handler_placeFailure 7 (.invokevirtual 187) 3 10 := ⟨by decide +kernel, rfl⟩
theorem d_Handler_placeFailure_4 : ob_dv ob_ac k_Handler_placeFailure 4 5 0 (.aload_n 0) 1 := ⟨by decide +kernel, rfl, rfl⟩
theorem d_Handler_placeFailure_1 : ob_db k_Handler_placeFailure 1 (.ifCond .eq 17) 17 4 18 := ⟨by decide +kernel, rfl, by decide⟩
theorem d_Handler_placeFailure_0 : ob_dv ob_lc k_Handler_placeFailure 0 1 1 (.iload_n 1) 1 := ⟨by decide +kernel, rfl, rfl⟩
theorem c_Handler_placeFailure_187 : ob_vd k_Handler_placeFailure k_Handler_data 187 2 11 := ⟨cw_Handler_data, yd_Handler_data, w_663, w_665, wp_16, w_13, ⟨_, _, rfl⟩, by decide, by decide⟩
def f_Handler_placeFailure (S : ob_S) (v0 : Nat) (v1 : Int32) (D : ob_D) : Option (Int32 × ob_D) :=
  (if v1 = 0 then some ((17 : Int32), D) else ob_bd (f_Handler_data S v0 (0 : Int32) (2 : Int32) D) fun x3 D1 => (if (x3 + v1) ≤ (4096 : Int32) then some ((0 : Int32), D1) else some ((17 : Int32), D1)))
theorem c_Handler_placeFailure {l : Launch} {E : ob_E} {S : ob_S} {D : ob_D} {v0 : Nat} {v1 : Int32} {r : Int32} {D' : ob_D} (hp_v0 : S.1 v0 = 12) (h : f_Handler_placeFailure S v0 v1 D = some (r, D')) : ob_M l E k_Handler_placeFailure [.ref v0, .int v1] S D (some (.int r)) S D' := by
  refine ob_ofV (lo := [(0, .ref v0), (1, .int v1)]) (by decide) rfl (Nat.le_of_ble_eq_true rfl) rfl (Nat.le_refl _) (Nat.le_refl _) ?_
  rw [f_Handler_placeFailure] at h
  refine ob_iload d_Handler_placeFailure_0 rfl ?_
  refine ob_if_eq d_Handler_placeFailure_1 (fun hc => ?_) (fun hc => ?_)
  · replace h := ob_ift hc h
    refine ob_push d_Handler_placeFailure_18 ?_
    refine ob_goto d_Handler_placeFailure_20 ?_
    exact ob_ie h (ob_iret d_Handler_placeFailure_24 rfl rfl)
  · replace h := ob_iff hc h
    refine ob_aload d_Handler_placeFailure_4 rfl ?_
    refine ob_push d_Handler_placeFailure_5 ?_
    refine ob_push d_Handler_placeFailure_6 ?_
    obtain ⟨x3, D1, h2, h⟩ := ob_bd_e h
    refine ob_callVi (As := [.int (0 : Int32), .int (2 : Int32)]) (rest := []) d_Handler_placeFailure_7 c_Handler_placeFailure_187 hp_v0 rfl rfl (Nat.le_of_ble_eq_true rfl) (c_Handler_data hp_v0 h2) ⟨Nat.le_refl _, Nat.le_refl _⟩ ⟨Nat.le_refl _, Nat.le_refl _⟩ ?_
    refine ob_iload d_Handler_placeFailure_10 rfl ?_
    refine ob_iadd d_Handler_placeFailure_11 ?_
    refine ob_push d_Handler_placeFailure_12 ?_
    refine ob_icmp_le d_Handler_placeFailure_15 (fun hc => ?_) (fun hc => ?_)
    · replace h := ob_ift hc h
      refine ob_push d_Handler_placeFailure_23 ?_
      exact ob_ie h (ob_iret d_Handler_placeFailure_24 rfl rfl)
    · replace h := ob_iff hc h
      refine ob_push d_Handler_placeFailure_18 ?_
      refine ob_goto d_Handler_placeFailure_20 ?_
      exact ob_ie h (ob_iret d_Handler_placeFailure_24 rfl rfl)
-- OrbitBox$Handler.functionFailure(II)I
theorem d_Handler_functionFailure_1 : decode k_Handler_functionFailure.2.2.1 1 = .ok (.tableswitch 97 1 3 #[27, 53, 83], 27) := by decide +kernel
theorem d_Handler_functionFailure_29 : ob_dk k_Handler_functionFailure 29 31 (8 : Int32) (.bipush 8) 2 := ⟨by decide +kernel, rfl, show (Int8.ofInt 8).toInt32 = (8 : Int32) by decide +kernel⟩
theorem d_Handler_functionFailure_52 : ob_dk k_Handler_functionFailure 52 53 (0 : Int32) (.iconst 0) 1 := ⟨by decide +kernel, rfl, show Int32.ofInt 0 = (0 : Int32) by decide +kernel⟩
theorem d_Handler_functionFailure_53 : ob_dc k_Handler_functionFailure 53 (.ireturn) 1 54 := ⟨by decide +kernel, rfl⟩
theorem d_Handler_functionFailure_47 : ob_dk k_Handler_functionFailure 47 49 (19 : Int32) (.bipush 19) 2 := ⟨by decide +kernel, rfl, show (Int8.ofInt 19).toInt32 = (19 : Int32) by decide +kernel⟩
theorem d_Handler_functionFailure_49 : ob_db k_Handler_functionFailure 49 (.goto 4) 4 52 53 := ⟨by decide +kernel, rfl, by decide⟩
theorem d_Handler_functionFailure_44 : ob_db k_Handler_functionFailure 44 (.ifCond .ne 8) 8 47 52 := ⟨by decide +kernel, rfl, by decide⟩
theorem d_Handler_functionFailure_41 : ob_dc k_Handler_functionFailure 41 (.getfield 236) 3 44 := ⟨by decide +kernel, rfl⟩
theorem d_Handler_functionFailure_38 : ob_dc k_Handler_functionFailure 38 (.getfield 9) 3 41 := ⟨by decide +kernel, rfl⟩
theorem d_Handler_functionFailure_37 : ob_dv ob_ac k_Handler_functionFailure 37 38 0 (.aload_n 0) 1 := ⟨by decide +kernel, rfl, rfl⟩
theorem d_Handler_functionFailure_34 : ob_dk k_Handler_functionFailure 34 36 (18 : Int32) (.bipush 18) 2 := ⟨by decide +kernel, rfl, show (Int8.ofInt 18).toInt32 = (18 : Int32) by decide +kernel⟩
theorem d_Handler_functionFailure_36 : ob_dc k_Handler_functionFailure 36 (.ireturn) 1 37 := ⟨by decide +kernel, rfl⟩
theorem d_Handler_functionFailure_31 : ob_db k_Handler_functionFailure 31 (.if_icmp .lt 6) 6 34 37 := ⟨by decide +kernel, rfl, by decide⟩
theorem d_Handler_functionFailure_28 : ob_dv ob_lc k_Handler_functionFailure 28 29 2 (.iload_n 2) 1 := ⟨by decide +kernel, rfl, rfl⟩
theorem d_Handler_functionFailure_55 : ob_dk k_Handler_functionFailure 55 56 (2 : Int32) (.iconst 2) 1 := ⟨by decide +kernel, rfl, show Int32.ofInt 2 = (2 : Int32) by decide +kernel⟩
theorem d_Handler_functionFailure_82 : ob_dk k_Handler_functionFailure 82 83 (0 : Int32) (.iconst 0) 1 := ⟨by decide +kernel, rfl, show Int32.ofInt 0 = (0 : Int32) by decide +kernel⟩
theorem d_Handler_functionFailure_83 : ob_dc k_Handler_functionFailure 83 (.ireturn) 1 84 := ⟨by decide +kernel, rfl⟩
theorem d_Handler_functionFailure_73 : ob_dk k_Handler_functionFailure 73 74 (2 : Int32) (.iconst 2) 1 := ⟨by decide +kernel, rfl, show Int32.ofInt 2 = (2 : Int32) by decide +kernel⟩
theorem d_Handler_functionFailure_77 : ob_dk k_Handler_functionFailure 77 79 (19 : Int32) (.bipush 19) 2 := ⟨by decide +kernel, rfl, show (Int8.ofInt 19).toInt32 = (19 : Int32) by decide +kernel⟩
theorem d_Handler_functionFailure_79 : ob_db k_Handler_functionFailure 79 (.goto 4) 4 82 83 := ⟨by decide +kernel, rfl, by decide⟩
theorem d_Handler_functionFailure_74 : ob_db k_Handler_functionFailure 74 (.if_icmp .ne 8) 8 77 82 := ⟨by decide +kernel, rfl, by decide⟩
theorem d_Handler_functionFailure_72 : ob_dv ob_lc k_Handler_functionFailure 72 73 2 (.iload_n 2) 1 := ⟨by decide +kernel, rfl, rfl⟩
theorem d_Handler_functionFailure_69 : ob_db k_Handler_functionFailure 69 (.ifCond .ne 13) 13 72 82 := ⟨by decide +kernel, rfl, by decide⟩
theorem d_Handler_functionFailure_66 : ob_dc k_Handler_functionFailure 66 (.getfield 236) 3 69 := ⟨by decide +kernel, rfl⟩
theorem d_Handler_functionFailure_63 : ob_dc k_Handler_functionFailure 63 (.getfield 9) 3 66 := ⟨by decide +kernel, rfl⟩
theorem d_Handler_functionFailure_62 : ob_dv ob_ac k_Handler_functionFailure 62 63 0 (.aload_n 0) 1 := ⟨by decide +kernel, rfl, rfl⟩
theorem d_Handler_functionFailure_59 : ob_dk k_Handler_functionFailure 59 61 (18 : Int32) (.bipush 18) 2 := ⟨by decide +kernel, rfl, show (Int8.ofInt 18).toInt32 = (18 : Int32) by decide +kernel⟩
theorem d_Handler_functionFailure_61 : ob_dc k_Handler_functionFailure 61 (.ireturn) 1 62 := ⟨by decide +kernel, rfl⟩
theorem d_Handler_functionFailure_56 : ob_db k_Handler_functionFailure 56 (.if_icmp .le 6) 6 59 62 := ⟨by decide +kernel, rfl, by decide⟩
theorem d_Handler_functionFailure_54 : ob_dv ob_lc k_Handler_functionFailure 54 55 2 (.iload_n 2) 1 := ⟨by decide +kernel, rfl, rfl⟩
theorem d_Handler_functionFailure_95 : ob_dk k_Handler_functionFailure 95 97 (18 : Int32) (.bipush 18) 2 := ⟨by decide +kernel, rfl, show (Int8.ofInt 18).toInt32 = (18 : Int32) by decide +kernel⟩
theorem d_Handler_functionFailure_97 : ob_dc k_Handler_functionFailure 97 (.ireturn) 1 98 := ⟨by decide +kernel, rfl⟩
theorem d_Handler_functionFailure_91 : ob_dk k_Handler_functionFailure 91 92 (0 : Int32) (.iconst 0) 1 := ⟨by decide +kernel, rfl, show Int32.ofInt 0 = (0 : Int32) by decide +kernel⟩
theorem d_Handler_functionFailure_92 : ob_db k_Handler_functionFailure 92 (.goto 5) 5 95 97 := ⟨by decide +kernel, rfl, by decide⟩
theorem d_Handler_functionFailure_88 : ob_db k_Handler_functionFailure 88 (.ifCond .eq 7) 7 91 95 := ⟨by decide +kernel, rfl, by decide⟩
theorem d_Handler_functionFailure_85 : ob_dc k_Handler_functionFailure 85 (.invokestatic 190) 3 88 := ⟨by decide +kernel, rfl⟩
theorem d_Handler_functionFailure_84 : ob_dv ob_lc k_Handler_functionFailure 84 85 2 (.iload_n 2) 1 := ⟨by decide +kernel, rfl, rfl⟩
theorem d_Handler_functionFailure_98 : ob_dk k_Handler_functionFailure 98 100 (18 : Int32) (.bipush 18) 2 := ⟨by decide +kernel, rfl, show (Int8.ofInt 18).toInt32 = (18 : Int32) by decide +kernel⟩
theorem d_Handler_functionFailure_100 : ob_dc k_Handler_functionFailure 100 (.ireturn) 1 101 := ⟨by decide +kernel, rfl⟩
theorem d_Handler_functionFailure_0 : ob_dv ob_lc k_Handler_functionFailure 0 1 1 (.iload_n 1) 1 := ⟨by decide +kernel, rfl, rfl⟩
theorem c_Handler_functionFailure_190 : ob_sd k_Handler_functionFailure k_Events_isThere 190 1 := ⟨cw_Events_isThere, yd_Events_isThere, w_687, w_688, w_7, by decide, by decide⟩
def f_Handler_functionFailure (S : ob_S) (v0 : Nat) (v1 : Int32) (v2 : Int32) (D : ob_D) : Option (Int32 × ob_D) :=
  (if v1 = (1 : Int32) then (if v2 < (8 : Int32) then if D.2.1 v0 0 ≠ 0 then (if (D.1 (D.2.1 v0 0) 7) = 0 then some ((19 : Int32), D) else some ((0 : Int32), D)) else none else some ((18 : Int32), D)) else if v1 = (2 : Int32) then (if v2 ≤ (2 : Int32) then if D.2.1 v0 0 ≠ 0 then (if (D.1 (D.2.1 v0 0) 7) = 0 then (if v2 = (2 : Int32) then some ((19 : Int32), D) else some ((0 : Int32), D)) else some ((0 : Int32), D)) else none else some ((18 : Int32), D)) else if v1 = (3 : Int32) then ob_bd (f_Events_isThere S v2 D) fun x9 D7 => (if x9 = 0 then some ((18 : Int32), D7) else some ((0 : Int32), D7)) else some ((18 : Int32), D))
theorem c_Handler_functionFailure {l : Launch} {E : ob_E} {S : ob_S} {D : ob_D} {v0 : Nat} {v1 : Int32} {v2 : Int32} {r : Int32} {D' : ob_D} (hp_v0 : S.1 v0 = 12) (h : f_Handler_functionFailure S v0 v1 v2 D = some (r, D')) : ob_M l E k_Handler_functionFailure [.ref v0, .int v1, .int v2] S D (some (.int r)) S D' := by
  refine ob_ofV (lo := [(0, .ref v0), (1, .int v1), (2, .int v2)]) (by decide) rfl (Nat.le_of_ble_eq_true rfl) rfl (Nat.le_refl _) (Nat.le_refl _) ?_
  rw [f_Handler_functionFailure] at h
  refine ob_iload d_Handler_functionFailure_0 rfl ?_
  by_cases hs3 : v1 = (1 : Int32)
  · replace h := ob_ift hs3 h
    refine ob_tabI (off := 27) (t := 28) d_Handler_functionFailure_1 hs3 (by decide +kernel) ?_
    refine ob_iload d_Handler_functionFailure_28 rfl ?_
    refine ob_push d_Handler_functionFailure_29 ?_
    refine ob_icmp_lt d_Handler_functionFailure_31 (fun hc => ?_) (fun hc => ?_)
    · replace h := ob_ift hc h
      refine ob_aload d_Handler_functionFailure_37 rfl ?_
      obtain ⟨hg2, h⟩ := ob_gd h
      refine ob_getR d_Handler_functionFailure_38 F_11_0 l_Handler_9 hp_v0 hg2 (fun hk1 => ?_)
      refine ob_getI d_Handler_functionFailure_41 F_10_7 l_Handler_236 hk1 ?_
      refine ob_if_ne d_Handler_functionFailure_44 (fun hc => ?_) (fun hc => ?_)
      · replace h := ob_iff hc h
        refine ob_push d_Handler_functionFailure_52 ?_
        exact ob_ie h (ob_iret d_Handler_functionFailure_53 rfl rfl)
      · replace h := ob_ift hc h
        refine ob_push d_Handler_functionFailure_47 ?_
        refine ob_goto d_Handler_functionFailure_49 ?_
        exact ob_ie h (ob_iret d_Handler_functionFailure_53 rfl rfl)
    · replace h := ob_iff hc h
      refine ob_push d_Handler_functionFailure_34 ?_
      exact ob_ie h (ob_iret d_Handler_functionFailure_36 rfl rfl)
  replace h := ob_iff hs3 h
  by_cases hs6 : v1 = (2 : Int32)
  · replace h := ob_ift hs6 h
    refine ob_tabI (off := 53) (t := 54) d_Handler_functionFailure_1 hs6 (by decide +kernel) ?_
    refine ob_iload d_Handler_functionFailure_54 rfl ?_
    refine ob_push d_Handler_functionFailure_55 ?_
    refine ob_icmp_le d_Handler_functionFailure_56 (fun hc => ?_) (fun hc => ?_)
    · replace h := ob_ift hc h
      refine ob_aload d_Handler_functionFailure_62 rfl ?_
      obtain ⟨hg5, h⟩ := ob_gd h
      refine ob_getR d_Handler_functionFailure_63 F_11_0 l_Handler_9 hp_v0 hg5 (fun hk4 => ?_)
      refine ob_getI d_Handler_functionFailure_66 F_10_7 l_Handler_236 hk4 ?_
      refine ob_if_ne d_Handler_functionFailure_69 (fun hc => ?_) (fun hc => ?_)
      · replace h := ob_iff hc h
        refine ob_push d_Handler_functionFailure_82 ?_
        exact ob_ie h (ob_iret d_Handler_functionFailure_83 rfl rfl)
      · replace h := ob_ift hc h
        refine ob_iload d_Handler_functionFailure_72 rfl ?_
        refine ob_push d_Handler_functionFailure_73 ?_
        refine ob_icmp_ne d_Handler_functionFailure_74 (fun hc => ?_) (fun hc => ?_)
        · replace h := ob_iff hc h
          refine ob_push d_Handler_functionFailure_82 ?_
          exact ob_ie h (ob_iret d_Handler_functionFailure_83 rfl rfl)
        · replace h := ob_ift hc h
          refine ob_push d_Handler_functionFailure_77 ?_
          refine ob_goto d_Handler_functionFailure_79 ?_
          exact ob_ie h (ob_iret d_Handler_functionFailure_83 rfl rfl)
    · replace h := ob_iff hc h
      refine ob_push d_Handler_functionFailure_59 ?_
      exact ob_ie h (ob_iret d_Handler_functionFailure_61 rfl rfl)
  replace h := ob_iff hs6 h
  by_cases hs10 : v1 = (3 : Int32)
  · replace h := ob_ift hs10 h
    refine ob_tabI (off := 83) (t := 84) d_Handler_functionFailure_1 hs10 (by decide +kernel) ?_
    refine ob_iload d_Handler_functionFailure_84 rfl ?_
    obtain ⟨x9, D7, h8, h⟩ := ob_bd_e h
    refine ob_callSi (As := [.int v2]) (rest := []) d_Handler_functionFailure_85 c_Handler_functionFailure_190 rfl rfl (Nat.le_of_ble_eq_true rfl) (c_Events_isThere  h8) ⟨Nat.le_refl _, Nat.le_refl _⟩ ⟨Nat.le_refl _, Nat.le_refl _⟩ ?_
    refine ob_if_eq d_Handler_functionFailure_88 (fun hc => ?_) (fun hc => ?_)
    · replace h := ob_ift hc h
      refine ob_push d_Handler_functionFailure_95 ?_
      exact ob_ie h (ob_iret d_Handler_functionFailure_97 rfl rfl)
    · replace h := ob_iff hc h
      refine ob_push d_Handler_functionFailure_91 ?_
      refine ob_goto d_Handler_functionFailure_92 ?_
      exact ob_ie h (ob_iret d_Handler_functionFailure_97 rfl rfl)
  replace h := ob_iff hs10 h
  refine ob_tabO (t := 98) d_Handler_functionFailure_1 (by decide) (ob_out _ _ _ (fun k h1 h2 hk => ?_)) ?_
  · have hh : k = 1 ∨ k = 2 ∨ k = 3 := by omega
    rcases hh with rfl | rfl | rfl
    · exact hs3 (Int32.toInt_inj.mp hk)
    · exact hs6 (Int32.toInt_inj.mp hk)
    · exact hs10 (Int32.toInt_inj.mp hk)
  · skip
    refine ob_push d_Handler_functionFailure_98 ?_
    exact ob_ie h (ob_iret d_Handler_functionFailure_100 rfl rfl)
-- OrbitBox$Handler.dataLength()I
theorem d_Handler_dataLength_7 : ob_dk k_Handler_dataLength 7 9 (13 : Int32) (.bipush 13) 2 := ⟨by decide +kernel, rfl, show (Int8.ofInt 13).toInt32 = (13 : Int32) by decide +kernel⟩
theorem d_Handler_dataLength_10 : ob_dc k_Handler_dataLength 10 (.ireturn) 1 11 := ⟨by decide +kernel, rfl⟩
theorem d_Handler_dataLength_9 : ob_dc k_Handler_dataLength 9 (.isub) 1 10 := ⟨by decide +kernel, rfl⟩
theorem d_Handler_dataLength_4 : ob_dc k_Handler_dataLength 4 (.getfield 140) 3 7 := ⟨by decide +kernel, rfl⟩
theorem d_Handler_dataLength_1 : ob_dc k_Handler_dataLength 1 (.getfield 53) 3 4 := ⟨by decide +kernel, rfl⟩
theorem d_Handler_dataLength_0 : ob_dv ob_ac k_Handler_dataLength 0 1 0 (.aload_n 0) 1 := ⟨by decide +kernel, rfl, rfl⟩
def f_Handler_dataLength (S : ob_S) (v0 : Nat) (D : ob_D) : Option (Int32 × ob_D) :=
  if D.2.1 v0 8 ≠ 0 then some ((D.1 (D.2.1 v0 8) 1) - (13 : Int32), D) else none
theorem c_Handler_dataLength {l : Launch} {E : ob_E} {S : ob_S} {D : ob_D} {v0 : Nat} {r : Int32} {D' : ob_D} (hp_v0 : S.1 v0 = 12) (h : f_Handler_dataLength S v0 D = some (r, D')) : ob_M l E k_Handler_dataLength [.ref v0] S D (some (.int r)) S D' := by
  refine ob_ofV (lo := [(0, .ref v0)]) (by decide) rfl (Nat.le_of_ble_eq_true rfl) rfl (Nat.le_refl _) (Nat.le_refl _) ?_
  rw [f_Handler_dataLength] at h
  refine ob_aload d_Handler_dataLength_0 rfl ?_
  obtain ⟨hg2, h⟩ := ob_gd h
  refine ob_getR d_Handler_dataLength_1 F_11_8 l_Handler_53 hp_v0 hg2 (fun hk1 => ?_)
  refine ob_getI d_Handler_dataLength_4 F_1_1 l_Handler_140 hk1 ?_
  refine ob_push d_Handler_dataLength_7 ?_
  refine ob_isub d_Handler_dataLength_9 ?_
  exact ob_ie h (ob_iret d_Handler_dataLength_10 rfl rfl)
-- OrbitBox$Handler.newEntryFailure()I
theorem d_Handler_newEntryFailure_4 : ob_dk k_Handler_newEntryFailure 4 6 (15 : Int32) (.bipush 15) 2 := ⟨by decide +kernel, rfl, show (Int8.ofInt 15).toInt32 = (15 : Int32) by decide +kernel⟩
theorem d_Handler_newEntryFailure_10 : ob_dk k_Handler_newEntryFailure 10 11 (4 : Int32) (.iconst 4) 1 := ⟨by decide +kernel, rfl, show Int32.ofInt 4 = (4 : Int32) by decide +kernel⟩
theorem d_Handler_newEntryFailure_22 : ob_dk k_Handler_newEntryFailure 22 23 (0 : Int32) (.iconst 0) 1 := ⟨by decide +kernel, rfl, show Int32.ofInt 0 = (0 : Int32) by decide +kernel⟩
theorem d_Handler_newEntryFailure_23 : ob_dk k_Handler_newEntryFailure 23 24 (4 : Int32) (.iconst 4) 1 := ⟨by decide +kernel, rfl, show Int32.ofInt 4 = (4 : Int32) by decide +kernel⟩
theorem d_Handler_newEntryFailure_55 : ob_dk k_Handler_newEntryFailure 55 56 (0 : Int32) (.iconst 0) 1 := ⟨by decide +kernel, rfl, show Int32.ofInt 0 = (0 : Int32) by decide +kernel⟩
theorem d_Handler_newEntryFailure_56 : ob_dc k_Handler_newEntryFailure 56 (.ireturn) 1 57 := ⟨by decide +kernel, rfl⟩
theorem d_Handler_newEntryFailure_50 : ob_dk k_Handler_newEntryFailure 50 52 (21 : Int32) (.bipush 21) 2 := ⟨by decide +kernel, rfl, show (Int8.ofInt 21).toInt32 = (21 : Int32) by decide +kernel⟩
theorem d_Handler_newEntryFailure_52 : ob_db k_Handler_newEntryFailure 52 (.goto 4) 4 55 56 := ⟨by decide +kernel, rfl, by decide⟩
theorem d_Handler_newEntryFailure_47 : ob_db k_Handler_newEntryFailure 47 (.ifCond .eq 8) 8 50 55 := ⟨by decide +kernel, rfl, by decide⟩
theorem d_Handler_newEntryFailure_44 : ob_dc k_Handler_newEntryFailure 44 (.invokevirtual 242) 3 47 := ⟨by decide +kernel, rfl⟩
theorem d_Handler_newEntryFailure_41 : ob_dc k_Handler_newEntryFailure 41 (.getfield 26) 3 44 := ⟨by decide +kernel, rfl⟩
theorem d_Handler_newEntryFailure_40 : ob_dv ob_ac k_Handler_newEntryFailure 40 41 0 (.aload_n 0) 1 := ⟨by decide +kernel, rfl, rfl⟩
theorem d_Handler_newEntryFailure_37 : ob_dk k_Handler_newEntryFailure 37 39 (20 : Int32) (.bipush 20) 2 := ⟨by decide +kernel, rfl, show (Int8.ofInt 20).toInt32 = (20 : Int32) by decide +kernel⟩
theorem d_Handler_newEntryFailure_39 : ob_dc k_Handler_newEntryFailure 39 (.ireturn) 1 40 := ⟨by decide +kernel, rfl⟩
theorem d_Handler_newEntryFailure_34 : ob_db k_Handler_newEntryFailure 34 (.if_icmp .gt 6) 6 37 40 := ⟨by decide +kernel, rfl, by decide⟩
theorem d_Handler_newEntryFailure_31 : ob_dc k_Handler_newEntryFailure 31 (.getfield 58) 3 34 := ⟨by decide +kernel, rfl⟩
theorem d_Handler_newEntryFailure_28 : ob_dc k_Handler_newEntryFailure 28 (.getfield 9) 3 31 := ⟨by decide +kernel, rfl⟩
theorem d_Handler_newEntryFailure_27 : ob_dv ob_ac k_Handler_newEntryFailure 27 28 0 (.aload_n 0) 1 := ⟨by decide +kernel, rfl, rfl⟩
theorem d_Handler_newEntryFailure_24 : ob_dc k_Handler_newEntryFailure 24 (.invokevirtual 187) 3 27 := ⟨by decide +kernel, rfl⟩
theorem d_Handler_newEntryFailure_21 : ob_dv ob_ac k_Handler_newEntryFailure 21 22 0 (.aload_n 0) 1 := ⟨by decide +kernel, rfl, rfl⟩
theorem d_Handler_newEntryFailure_18 : ob_dk k_Handler_newEntryFailure 18 20 (22 : Int32) (.bipush 22) 2 := ⟨by decide +kernel, rfl, show (Int8.ofInt 22).toInt32 = (22 : Int32) by decide +kernel⟩
theorem d_Handler_newEntryFailure_20 : ob_dc k_Handler_newEntryFailure 20 (.ireturn) 1 21 := ⟨by decide +kernel, rfl⟩
theorem d_Handler_newEntryFailure_15 : ob_db k_Handler_newEntryFailure 15 (.ifCond .eq 6) 6 18 21 := ⟨by decide +kernel, rfl, by decide⟩
theorem d_Handler_newEntryFailure_12 : ob_dc k_Handler_newEntryFailure 12 (.invokestatic 143) 3 15 := ⟨by decide +kernel, rfl⟩
theorem d_Handler_newEntryFailure_11 : ob_dc k_Handler_newEntryFailure 11 (.isub) 1 12 := ⟨by decide +kernel, rfl⟩
theorem d_Handler_newEntryFailure_7 : ob_dc k_Handler_newEntryFailure 7 (.invokevirtual 239) 3 10 := ⟨by decide +kernel, rfl⟩
theorem d_Handler_newEntryFailure_6 : ob_dv ob_ac k_Handler_newEntryFailure 6 7 0 (.aload_n 0) 1 := ⟨by decide +kernel, rfl, rfl⟩
theorem d_Handler_newEntryFailure_1 : ob_dc k_Handler_newEntryFailure 1 (.getfield 53) 3 4 := ⟨by decide +kernel, rfl⟩
theorem d_Handler_newEntryFailure_0 : ob_dv ob_ac k_Handler_newEntryFailure 0 1 0 (.aload_n 0) 1 := ⟨by decide +kernel, rfl, rfl⟩
theorem c_Handler_newEntryFailure_242 : ob_vd k_Handler_newEntryFailure k_Timetable_isFull 242 0 5 := ⟨cw_Timetable_isFull, yd_Timetable_isFull, w_706, w_707, w_708, w_5, ⟨_, _, rfl⟩, by decide, by decide⟩
theorem c_Handler_newEntryFailure_187 : ob_vd k_Handler_newEntryFailure k_Handler_data 187 2 11 := ⟨cw_Handler_data, yd_Handler_data, w_663, w_665, wp_16, w_13, ⟨_, _, rfl⟩, by decide, by decide⟩
theorem c_Handler_newEntryFailure_143 : ob_sd k_Handler_newEntryFailure k_Handler_faultOf 143 3 := ⟨cw_Handler_faultOf, yd_Handler_faultOf, w_589, w_590, w_13, by decide, by decide⟩
theorem c_Handler_newEntryFailure_239 : ob_vd k_Handler_newEntryFailure k_Handler_dataLength 239 0 11 := ⟨cw_Handler_dataLength, yd_Handler_dataLength, w_702, w_704, wp_22, w_13, ⟨_, _, rfl⟩, by decide, by decide⟩
def f_Handler_newEntryFailure (S : ob_S) (v0 : Nat) (D : ob_D) : Option (Int32 × ob_D) :=
  if D.2.1 v0 8 ≠ 0 then ob_bd (f_Handler_dataLength S v0 D) fun x5 D3 => ob_bd (f_Handler_faultOf S (D.2.1 v0 8) (15 : Int32) (x5 - (4 : Int32)) D3) fun x8 D6 => (if x8 = 0 then ob_bd (f_Handler_data S v0 (0 : Int32) (4 : Int32) D6) fun x11 D9 => if D9.2.1 v0 0 ≠ 0 then (if (D9.1 (D9.2.1 v0 0) 8) < x11 then if D9.2.1 v0 2 ≠ 0 then ob_bd (f_Timetable_isFull S (D9.2.1 v0 2) D9) fun x18 D16 => (if x18 = 0 then some ((0 : Int32), D16) else some ((21 : Int32), D16)) else none else some ((20 : Int32), D9)) else none else some ((22 : Int32), D6)) else none
theorem c_Handler_newEntryFailure {l : Launch} {E : ob_E} {S : ob_S} {D : ob_D} {v0 : Nat} {r : Int32} {D' : ob_D} (hp_v0 : S.1 v0 = 12) (h : f_Handler_newEntryFailure S v0 D = some (r, D')) : ob_M l E k_Handler_newEntryFailure [.ref v0] S D (some (.int r)) S D' := by
  refine ob_ofV (lo := [(0, .ref v0)]) (by decide) rfl (Nat.le_of_ble_eq_true rfl) rfl (Nat.le_refl _) (Nat.le_refl _) ?_
  rw [f_Handler_newEntryFailure] at h
  refine ob_aload d_Handler_newEntryFailure_0 rfl ?_
  obtain ⟨hg2, h⟩ := ob_gd h
  refine ob_getR d_Handler_newEntryFailure_1 F_11_8 l_Handler_53 hp_v0 hg2 (fun hk1 => ?_)
  refine ob_push d_Handler_newEntryFailure_4 ?_
  refine ob_aload d_Handler_newEntryFailure_6 rfl ?_
  obtain ⟨x5, D3, h4, h⟩ := ob_bd_e h
  refine ob_callVi (As := []) (rest := [.int (15 : Int32), .ref (D.2.1 v0 8)]) d_Handler_newEntryFailure_7 c_Handler_newEntryFailure_239 hp_v0 rfl rfl (Nat.le_of_ble_eq_true rfl) (c_Handler_dataLength hp_v0 h4) ⟨Nat.le_refl _, Nat.le_refl _⟩ ⟨Nat.le_refl _, Nat.le_refl _⟩ ?_
  refine ob_push d_Handler_newEntryFailure_10 ?_
  refine ob_isub d_Handler_newEntryFailure_11 ?_
  obtain ⟨x8, D6, h7, h⟩ := ob_bd_e h
  refine ob_callSi (As := [.ref (D.2.1 v0 8), .int (15 : Int32), .int (x5 - (4 : Int32))]) (rest := []) d_Handler_newEntryFailure_12 c_Handler_newEntryFailure_143 rfl rfl (Nat.le_of_ble_eq_true rfl) (c_Handler_faultOf hk1 h7) ⟨Nat.le_refl _, Nat.le_refl _⟩ ⟨Nat.le_refl _, Nat.le_refl _⟩ ?_
  refine ob_if_eq d_Handler_newEntryFailure_15 (fun hc => ?_) (fun hc => ?_)
  · replace h := ob_ift hc h
    refine ob_aload d_Handler_newEntryFailure_21 rfl ?_
    refine ob_push d_Handler_newEntryFailure_22 ?_
    refine ob_push d_Handler_newEntryFailure_23 ?_
    obtain ⟨x11, D9, h10, h⟩ := ob_bd_e h
    refine ob_callVi (As := [.int (0 : Int32), .int (4 : Int32)]) (rest := []) d_Handler_newEntryFailure_24 c_Handler_newEntryFailure_187 hp_v0 rfl rfl (Nat.le_of_ble_eq_true rfl) (c_Handler_data hp_v0 h10) ⟨Nat.le_refl _, Nat.le_refl _⟩ ⟨Nat.le_refl _, Nat.le_refl _⟩ ?_
    refine ob_aload d_Handler_newEntryFailure_27 rfl ?_
    obtain ⟨hg13, h⟩ := ob_gd h
    refine ob_getR d_Handler_newEntryFailure_28 F_11_0 l_Handler_9 hp_v0 hg13 (fun hk12 => ?_)
    refine ob_getI d_Handler_newEntryFailure_31 F_10_8 l_Handler_58 hk12 ?_
    refine ob_icmp_gt d_Handler_newEntryFailure_34 (fun hc => ?_) (fun hc => ?_)
    · replace h := ob_ift hc h
      refine ob_aload d_Handler_newEntryFailure_40 rfl ?_
      obtain ⟨hg15, h⟩ := ob_gd h
      refine ob_getR d_Handler_newEntryFailure_41 F_11_2 l_Handler_26 hp_v0 hg15 (fun hk14 => ?_)
      obtain ⟨x18, D16, h17, h⟩ := ob_bd_e h
      refine ob_callVi (As := []) (rest := []) d_Handler_newEntryFailure_44 c_Handler_newEntryFailure_242 hk14 rfl rfl (Nat.le_of_ble_eq_true rfl) (c_Timetable_isFull hk14 h17) ⟨Nat.le_refl _, Nat.le_refl _⟩ ⟨Nat.le_refl _, Nat.le_refl _⟩ ?_
      refine ob_if_eq d_Handler_newEntryFailure_47 (fun hc => ?_) (fun hc => ?_)
      · replace h := ob_ift hc h
        refine ob_push d_Handler_newEntryFailure_55 ?_
        exact ob_ie h (ob_iret d_Handler_newEntryFailure_56 rfl rfl)
      · replace h := ob_iff hc h
        refine ob_push d_Handler_newEntryFailure_50 ?_
        refine ob_goto d_Handler_newEntryFailure_52 ?_
        exact ob_ie h (ob_iret d_Handler_newEntryFailure_56 rfl rfl)
    · replace h := ob_iff hc h
      refine ob_push d_Handler_newEntryFailure_37 ?_
      exact ob_ie h (ob_iret d_Handler_newEntryFailure_39 rfl rfl)
  · replace h := ob_iff hc h
    refine ob_push d_Handler_newEntryFailure_18 ?_
    exact ob_ie h (ob_iret d_Handler_newEntryFailure_20 rfl rfl)
-- OrbitBox$Handler.newLimitFailure()I
theorem d_Handler_newLimitFailure_1 : ob_dk k_Handler_newLimitFailure 1 2 (2 : Int32) (.iconst 2) 1 := ⟨by decide +kernel, rfl, show Int32.ofInt 2 = (2 : Int32) by decide +kernel⟩
theorem d_Handler_newLimitFailure_2 : ob_dk k_Handler_newLimitFailure 2 3 (1 : Int32) (.iconst 1) 1 := ⟨by decide +kernel, rfl, show Int32.ofInt 1 = (1 : Int32) by decide +kernel⟩
theorem d_Handler_newLimitFailure_36 : ob_dk k_Handler_newLimitFailure 36 38 (13 : Int32) (.bipush 13) 2 := ⟨by decide +kernel, rfl, show (Int8.ofInt 13).toInt32 = (13 : Int32) by decide +kernel⟩
theorem d_Handler_newLimitFailure_38 : ob_dc k_Handler_newLimitFailure 38 (.ireturn) 1 39 := ⟨by decide +kernel, rfl⟩
theorem d_Handler_newLimitFailure_10 : ob_dk k_Handler_newLimitFailure 10 11 (3 : Int32) (.iconst 3) 1 := ⟨by decide +kernel, rfl, show Int32.ofInt 3 = (3 : Int32) by decide +kernel⟩
theorem d_Handler_newLimitFailure_11 : ob_dk k_Handler_newLimitFailure 11 12 (4 : Int32) (.iconst 4) 1 := ⟨by decide +kernel, rfl, show Int32.ofInt 4 = (4 : Int32) by decide +kernel⟩
theorem d_Handler_newLimitFailure_16 : ob_dk k_Handler_newLimitFailure 16 18 (7 : Int32) (.bipush 7) 2 := ⟨by decide +kernel, rfl, show (Int8.ofInt 7).toInt32 = (7 : Int32) by decide +kernel⟩
theorem d_Handler_newLimitFailure_18 : ob_dk k_Handler_newLimitFailure 18 19 (4 : Int32) (.iconst 4) 1 := ⟨by decide +kernel, rfl, show Int32.ofInt 4 = (4 : Int32) by decide +kernel⟩
theorem d_Handler_newLimitFailure_26 : ob_dk k_Handler_newLimitFailure 26 28 (12 : Int32) (.bipush 12) 2 := ⟨by decide +kernel, rfl, show (Int8.ofInt 12).toInt32 = (12 : Int32) by decide +kernel⟩
theorem d_Handler_newLimitFailure_28 : ob_dk k_Handler_newLimitFailure 28 29 (1 : Int32) (.iconst 1) 1 := ⟨by decide +kernel, rfl, show Int32.ofInt 1 = (1 : Int32) by decide +kernel⟩
theorem d_Handler_newLimitFailure_32 : ob_dk k_Handler_newLimitFailure 32 33 (1 : Int32) (.iconst 1) 1 := ⟨by decide +kernel, rfl, show Int32.ofInt 1 = (1 : Int32) by decide +kernel⟩
theorem d_Handler_newLimitFailure_40 : ob_dk k_Handler_newLimitFailure 40 41 (1 : Int32) (.iconst 1) 1 := ⟨by decide +kernel, rfl, show Int32.ofInt 1 = (1 : Int32) by decide +kernel⟩
theorem d_Handler_newLimitFailure_41 : ob_dk k_Handler_newLimitFailure 41 42 (1 : Int32) (.iconst 1) 1 := ⟨by decide +kernel, rfl, show Int32.ofInt 1 = (1 : Int32) by decide +kernel⟩
theorem d_Handler_newLimitFailure_45 : ob_dk k_Handler_newLimitFailure 45 47 (32 : Int32) (.bipush 32) 2 := ⟨by decide +kernel, rfl, show (Int8.ofInt 32).toInt32 = (32 : Int32) by decide +kernel⟩
theorem d_Handler_newLimitFailure_63 : ob_dk k_Handler_newLimitFailure 63 65 (13 : Int32) (.bipush 13) 2 := ⟨by decide +kernel, rfl, show (Int8.ofInt 13).toInt32 = (13 : Int32) by decide +kernel⟩
theorem d_Handler_newLimitFailure_65 : ob_dc k_Handler_newLimitFailure 65 (.ireturn) 1 66 := ⟨by decide +kernel, rfl⟩
theorem d_Handler_newLimitFailure_51 : ob_dk k_Handler_newLimitFailure 51 53 (11 : Int32) (.bipush 11) 2 := ⟨by decide +kernel, rfl, show (Int8.ofInt 11).toInt32 = (11 : Int32) by decide +kernel⟩
theorem d_Handler_newLimitFailure_53 : ob_dk k_Handler_newLimitFailure 53 54 (1 : Int32) (.iconst 1) 1 := ⟨by decide +kernel, rfl, show Int32.ofInt 1 = (1 : Int32) by decide +kernel⟩
theorem d_Handler_newLimitFailure_71 : ob_dk k_Handler_newLimitFailure 71 73 (25 : Int32) (.bipush 25) 2 := ⟨by decide +kernel, rfl, show (Int8.ofInt 25).toInt32 = (25 : Int32) by decide +kernel⟩
theorem d_Handler_newLimitFailure_73 : ob_dk k_Handler_newLimitFailure 73 75 (26 : Int32) (.bipush 26) 2 := ⟨by decide +kernel, rfl, show (Int8.ofInt 26).toInt32 = (26 : Int32) by decide +kernel⟩
theorem d_Handler_newLimitFailure_78 : ob_dc k_Handler_newLimitFailure 78 (.ireturn) 1 79 := ⟨by decide +kernel, rfl⟩
theorem d_Handler_newLimitFailure_75 : ob_dc k_Handler_newLimitFailure 75 (.invokevirtual 225) 3 78 := ⟨by decide +kernel, rfl⟩
theorem d_Handler_newLimitFailure_68 : ob_dc k_Handler_newLimitFailure 68 (.getfield 41) 3 71 := ⟨by decide +kernel, rfl⟩
theorem d_Handler_newLimitFailure_67 : ob_dv ob_ac k_Handler_newLimitFailure 67 68 0 (.aload_n 0) 1 := ⟨by decide +kernel, rfl, rfl⟩
theorem d_Handler_newLimitFailure_66 : ob_dv ob_ac k_Handler_newLimitFailure 66 67 0 (.aload_n 0) 1 := ⟨by decide +kernel, rfl, rfl⟩
theorem d_Handler_newLimitFailure_60 : ob_db k_Handler_newLimitFailure 60 (.ifCond .ne 6) 6 63 66 := ⟨by decide +kernel, rfl, by decide⟩
theorem d_Handler_newLimitFailure_57 : ob_dc k_Handler_newLimitFailure 57 (.invokestatic 190) 3 60 := ⟨by decide +kernel, rfl⟩
theorem d_Handler_newLimitFailure_54 : ob_dc k_Handler_newLimitFailure 54 (.invokevirtual 187) 3 57 := ⟨by decide +kernel, rfl⟩
theorem d_Handler_newLimitFailure_50 : ob_dv ob_ac k_Handler_newLimitFailure 50 51 0 (.aload_n 0) 1 := ⟨by decide +kernel, rfl, rfl⟩
theorem d_Handler_newLimitFailure_47 : ob_db k_Handler_newLimitFailure 47 (.if_icmp .ge 16) 16 50 63 := ⟨by decide +kernel, rfl, by decide⟩
theorem d_Handler_newLimitFailure_42 : ob_dc k_Handler_newLimitFailure 42 (.invokevirtual 187) 3 45 := ⟨by decide +kernel, rfl⟩
theorem d_Handler_newLimitFailure_39 : ob_dv ob_ac k_Handler_newLimitFailure 39 40 0 (.aload_n 0) 1 := ⟨by decide +kernel, rfl, rfl⟩
theorem d_Handler_newLimitFailure_33 : ob_db k_Handler_newLimitFailure 33 (.if_icmp .le 6) 6 36 39 := ⟨by decide +kernel, rfl, by decide⟩
theorem d_Handler_newLimitFailure_29 : ob_dc k_Handler_newLimitFailure 29 (.invokevirtual 187) 3 32 := ⟨by decide +kernel, rfl⟩
theorem d_Handler_newLimitFailure_25 : ob_dv ob_ac k_Handler_newLimitFailure 25 26 0 (.aload_n 0) 1 := ⟨by decide +kernel, rfl, rfl⟩
theorem d_Handler_newLimitFailure_22 : ob_db k_Handler_newLimitFailure 22 (.if_icmp .gt 14) 14 25 36 := ⟨by decide +kernel, rfl, by decide⟩
theorem d_Handler_newLimitFailure_19 : ob_dc k_Handler_newLimitFailure 19 (.invokevirtual 187) 3 22 := ⟨by decide +kernel, rfl⟩
theorem d_Handler_newLimitFailure_15 : ob_dv ob_ac k_Handler_newLimitFailure 15 16 0 (.aload_n 0) 1 := ⟨by decide +kernel, rfl, rfl⟩
theorem d_Handler_newLimitFailure_12 : ob_dc k_Handler_newLimitFailure 12 (.invokevirtual 187) 3 15 := ⟨by decide +kernel, rfl⟩
theorem d_Handler_newLimitFailure_9 : ob_dv ob_ac k_Handler_newLimitFailure 9 10 0 (.aload_n 0) 1 := ⟨by decide +kernel, rfl, rfl⟩
theorem d_Handler_newLimitFailure_6 : ob_db k_Handler_newLimitFailure 6 (.ifCond .eq 30) 30 9 36 := ⟨by decide +kernel, rfl, by decide⟩
theorem d_Handler_newLimitFailure_3 : ob_dc k_Handler_newLimitFailure 3 (.invokevirtual 187) 3 6 := ⟨by decide +kernel, rfl⟩
theorem d_Handler_newLimitFailure_0 : ob_dv ob_ac k_Handler_newLimitFailure 0 1 0 (.aload_n 0) 1 := ⟨by decide +kernel, rfl, rfl⟩
theorem c_Handler_newLimitFailure_225 : ob_vd k_Handler_newLimitFailure k_Handler_placeInTable 225 3 11 := ⟨cw_Handler_placeInTable, yd_Handler_placeInTable, w_667, w_669, wp_17, w_13, ⟨_, _, rfl⟩, by decide, by decide⟩
theorem c_Handler_newLimitFailure_190 : ob_sd k_Handler_newLimitFailure k_Events_isThere 190 1 := ⟨cw_Events_isThere, yd_Events_isThere, w_687, w_688, w_7, by decide, by decide⟩
theorem c_Handler_newLimitFailure_187 : ob_vd k_Handler_newLimitFailure k_Handler_data 187 2 11 := ⟨cw_Handler_data, yd_Handler_data, w_663, w_665, wp_16, w_13, ⟨_, _, rfl⟩, by decide, by decide⟩
def f_Handler_newLimitFailure (S : ob_S) (v0 : Nat) (D : ob_D) : Option (Int32 × ob_D) :=
  ob_bd (f_Handler_data S v0 (2 : Int32) (1 : Int32) D) fun x3 D1 => (if x3 = 0 then some ((13 : Int32), D1) else ob_bd (f_Handler_data S v0 (3 : Int32) (4 : Int32) D1) fun x6 D4 => ob_bd (f_Handler_data S v0 (7 : Int32) (4 : Int32) D4) fun x9 D7 => (if x9 < x6 then some ((13 : Int32), D7) else ob_bd (f_Handler_data S v0 (12 : Int32) (1 : Int32) D7) fun x12 D10 => (if x12 ≤ (1 : Int32) then ob_bd (f_Handler_data S v0 (1 : Int32) (1 : Int32) D10) fun x15 D13 => (if (32 : Int32) ≤ x15 then some ((13 : Int32), D13) else ob_bd (f_Handler_data S v0 (11 : Int32) (1 : Int32) D13) fun x18 D16 => ob_bd (f_Events_isThere S x18 D16) fun x21 D19 => (if x21 = 0 then some ((13 : Int32), D19) else if D19.2.1 v0 6 ≠ 0 then ob_bd (f_Handler_placeInTable S v0 (D19.2.1 v0 6) (25 : Int32) (26 : Int32) D19) fun x26 D24 => some (x26, D24) else none)) else some ((13 : Int32), D10))))
theorem c_Handler_newLimitFailure {l : Launch} {E : ob_E} {S : ob_S} {D : ob_D} {v0 : Nat} {r : Int32} {D' : ob_D} (hp_v0 : S.1 v0 = 12) (h : f_Handler_newLimitFailure S v0 D = some (r, D')) : ob_M l E k_Handler_newLimitFailure [.ref v0] S D (some (.int r)) S D' := by
  refine ob_ofV (lo := [(0, .ref v0)]) (by decide) rfl (Nat.le_of_ble_eq_true rfl) rfl (Nat.le_refl _) (Nat.le_refl _) ?_
  rw [f_Handler_newLimitFailure] at h
  refine ob_aload d_Handler_newLimitFailure_0 rfl ?_
  refine ob_push d_Handler_newLimitFailure_1 ?_
  refine ob_push d_Handler_newLimitFailure_2 ?_
  obtain ⟨x3, D1, h2, h⟩ := ob_bd_e h
  refine ob_callVi (As := [.int (2 : Int32), .int (1 : Int32)]) (rest := []) d_Handler_newLimitFailure_3 c_Handler_newLimitFailure_187 hp_v0 rfl rfl (Nat.le_of_ble_eq_true rfl) (c_Handler_data hp_v0 h2) ⟨Nat.le_refl _, Nat.le_refl _⟩ ⟨Nat.le_refl _, Nat.le_refl _⟩ ?_
  refine ob_if_eq d_Handler_newLimitFailure_6 (fun hc => ?_) (fun hc => ?_)
  · replace h := ob_ift hc h
    refine ob_push d_Handler_newLimitFailure_36 ?_
    exact ob_ie h (ob_iret d_Handler_newLimitFailure_38 rfl rfl)
  · replace h := ob_iff hc h
    refine ob_aload d_Handler_newLimitFailure_9 rfl ?_
    refine ob_push d_Handler_newLimitFailure_10 ?_
    refine ob_push d_Handler_newLimitFailure_11 ?_
    obtain ⟨x6, D4, h5, h⟩ := ob_bd_e h
    refine ob_callVi (As := [.int (3 : Int32), .int (4 : Int32)]) (rest := []) d_Handler_newLimitFailure_12 c_Handler_newLimitFailure_187 hp_v0 rfl rfl (Nat.le_of_ble_eq_true rfl) (c_Handler_data hp_v0 h5) ⟨Nat.le_refl _, Nat.le_refl _⟩ ⟨Nat.le_refl _, Nat.le_refl _⟩ ?_
    refine ob_aload d_Handler_newLimitFailure_15 rfl ?_
    refine ob_push d_Handler_newLimitFailure_16 ?_
    refine ob_push d_Handler_newLimitFailure_18 ?_
    obtain ⟨x9, D7, h8, h⟩ := ob_bd_e h
    refine ob_callVi (As := [.int (7 : Int32), .int (4 : Int32)]) (rest := [.int x6]) d_Handler_newLimitFailure_19 c_Handler_newLimitFailure_187 hp_v0 rfl rfl (Nat.le_of_ble_eq_true rfl) (c_Handler_data hp_v0 h8) ⟨Nat.le_refl _, Nat.le_refl _⟩ ⟨Nat.le_refl _, Nat.le_refl _⟩ ?_
    refine ob_icmp_gt d_Handler_newLimitFailure_22 (fun hc => ?_) (fun hc => ?_)
    · replace h := ob_ift hc h
      refine ob_push d_Handler_newLimitFailure_36 ?_
      exact ob_ie h (ob_iret d_Handler_newLimitFailure_38 rfl rfl)
    · replace h := ob_iff hc h
      refine ob_aload d_Handler_newLimitFailure_25 rfl ?_
      refine ob_push d_Handler_newLimitFailure_26 ?_
      refine ob_push d_Handler_newLimitFailure_28 ?_
      obtain ⟨x12, D10, h11, h⟩ := ob_bd_e h
      refine ob_callVi (As := [.int (12 : Int32), .int (1 : Int32)]) (rest := []) d_Handler_newLimitFailure_29 c_Handler_newLimitFailure_187 hp_v0 rfl rfl (Nat.le_of_ble_eq_true rfl) (c_Handler_data hp_v0 h11) ⟨Nat.le_refl _, Nat.le_refl _⟩ ⟨Nat.le_refl _, Nat.le_refl _⟩ ?_
      refine ob_push d_Handler_newLimitFailure_32 ?_
      refine ob_icmp_le d_Handler_newLimitFailure_33 (fun hc => ?_) (fun hc => ?_)
      · replace h := ob_ift hc h
        refine ob_aload d_Handler_newLimitFailure_39 rfl ?_
        refine ob_push d_Handler_newLimitFailure_40 ?_
        refine ob_push d_Handler_newLimitFailure_41 ?_
        obtain ⟨x15, D13, h14, h⟩ := ob_bd_e h
        refine ob_callVi (As := [.int (1 : Int32), .int (1 : Int32)]) (rest := []) d_Handler_newLimitFailure_42 c_Handler_newLimitFailure_187 hp_v0 rfl rfl (Nat.le_of_ble_eq_true rfl) (c_Handler_data hp_v0 h14) ⟨Nat.le_refl _, Nat.le_refl _⟩ ⟨Nat.le_refl _, Nat.le_refl _⟩ ?_
        refine ob_push d_Handler_newLimitFailure_45 ?_
        refine ob_icmp_ge d_Handler_newLimitFailure_47 (fun hc => ?_) (fun hc => ?_)
        · replace h := ob_ift hc h
          refine ob_push d_Handler_newLimitFailure_63 ?_
          exact ob_ie h (ob_iret d_Handler_newLimitFailure_65 rfl rfl)
        · replace h := ob_iff hc h
          refine ob_aload d_Handler_newLimitFailure_50 rfl ?_
          refine ob_push d_Handler_newLimitFailure_51 ?_
          refine ob_push d_Handler_newLimitFailure_53 ?_
          obtain ⟨x18, D16, h17, h⟩ := ob_bd_e h
          refine ob_callVi (As := [.int (11 : Int32), .int (1 : Int32)]) (rest := []) d_Handler_newLimitFailure_54 c_Handler_newLimitFailure_187 hp_v0 rfl rfl (Nat.le_of_ble_eq_true rfl) (c_Handler_data hp_v0 h17) ⟨Nat.le_refl _, Nat.le_refl _⟩ ⟨Nat.le_refl _, Nat.le_refl _⟩ ?_
          obtain ⟨x21, D19, h20, h⟩ := ob_bd_e h
          refine ob_callSi (As := [.int x18]) (rest := []) d_Handler_newLimitFailure_57 c_Handler_newLimitFailure_190 rfl rfl (Nat.le_of_ble_eq_true rfl) (c_Events_isThere  h20) ⟨Nat.le_refl _, Nat.le_refl _⟩ ⟨Nat.le_refl _, Nat.le_refl _⟩ ?_
          refine ob_if_ne d_Handler_newLimitFailure_60 (fun hc => ?_) (fun hc => ?_)
          · replace h := ob_iff hc h
            refine ob_aload d_Handler_newLimitFailure_66 rfl ?_
            refine ob_aload d_Handler_newLimitFailure_67 rfl ?_
            obtain ⟨hg23, h⟩ := ob_gd h
            refine ob_getR d_Handler_newLimitFailure_68 F_11_6 l_Handler_41 hp_v0 hg23 (fun hk22 => ?_)
            refine ob_push d_Handler_newLimitFailure_71 ?_
            refine ob_push d_Handler_newLimitFailure_73 ?_
            obtain ⟨x26, D24, h25, h⟩ := ob_bd_e h
            refine ob_callVi (As := [.ref (D19.2.1 v0 6), .int (25 : Int32), .int (26 : Int32)]) (rest := []) d_Handler_newLimitFailure_75 c_Handler_newLimitFailure_225 hp_v0 rfl rfl (Nat.le_of_ble_eq_true rfl) (c_Handler_placeInTable hp_v0 hk22 h25) ⟨Nat.le_refl _, Nat.le_refl _⟩ ⟨Nat.le_refl _, Nat.le_refl _⟩ ?_
            exact ob_ie h (ob_iret d_Handler_newLimitFailure_78 rfl rfl)
          · replace h := ob_ift hc h
            refine ob_push d_Handler_newLimitFailure_63 ?_
            exact ob_ie h (ob_iret d_Handler_newLimitFailure_65 rfl rfl)
      · replace h := ob_iff hc h
        refine ob_push d_Handler_newLimitFailure_36 ?_
        exact ob_ie h (ob_iret d_Handler_newLimitFailure_38 rfl rfl)
-- OrbitBox$Handler.newActionFailure(I)I
theorem d_Handler_newActionFailure_14 : ob_dk k_Handler_newActionFailure 14 16 (12 : Int32) (.bipush 12) 2 := ⟨by decide +kernel, rfl, show (Int8.ofInt 12).toInt32 = (12 : Int32) by decide +kernel⟩
theorem d_Handler_newActionFailure_20 : ob_dk k_Handler_newActionFailure 20 21 (1 : Int32) (.iconst 1) 1 := ⟨by decide +kernel, rfl, show Int32.ofInt 1 = (1 : Int32) by decide +kernel⟩
theorem d_Handler_newActionFailure_48 : ob_dk k_Handler_newActionFailure 48 49 (0 : Int32) (.iconst 0) 1 := ⟨by decide +kernel, rfl, show Int32.ofInt 0 = (0 : Int32) by decide +kernel⟩
theorem d_Handler_newActionFailure_49 : ob_dc k_Handler_newActionFailure 49 (.ireturn) 1 50 := ⟨by decide +kernel, rfl⟩
theorem d_Handler_newActionFailure_43 : ob_dk k_Handler_newActionFailure 43 45 (29 : Int32) (.bipush 29) 2 := ⟨by decide +kernel, rfl, show (Int8.ofInt 29).toInt32 = (29 : Int32) by decide +kernel⟩
theorem d_Handler_newActionFailure_45 : ob_db k_Handler_newActionFailure 45 (.goto 4) 4 48 49 := ⟨by decide +kernel, rfl, by decide⟩
theorem d_Handler_newActionFailure_40 : ob_db k_Handler_newActionFailure 40 (.ifCond .eq 8) 8 43 48 := ⟨by decide +kernel, rfl, by decide⟩
theorem d_Handler_newActionFailure_39 : ob_dc k_Handler_newActionFailure 39 (.baload) 1 40 := ⟨by decide +kernel, rfl⟩
theorem d_Handler_newActionFailure_38 : ob_dv ob_lc k_Handler_newActionFailure 38 39 1 (.iload_n 1) 1 := ⟨by decide +kernel, rfl, rfl⟩
theorem d_Handler_newActionFailure_35 : ob_dc k_Handler_newActionFailure 35 (.getfield 243) 3 38 := ⟨by decide +kernel, rfl⟩
theorem d_Handler_newActionFailure_32 : ob_dc k_Handler_newActionFailure 32 (.getfield 31) 3 35 := ⟨by decide +kernel, rfl⟩
theorem d_Handler_newActionFailure_31 : ob_dv ob_ac k_Handler_newActionFailure 31 32 0 (.aload_n 0) 1 := ⟨by decide +kernel, rfl, rfl⟩
theorem d_Handler_newActionFailure_28 : ob_dk k_Handler_newActionFailure 28 30 (22 : Int32) (.bipush 22) 2 := ⟨by decide +kernel, rfl, show (Int8.ofInt 22).toInt32 = (22 : Int32) by decide +kernel⟩
theorem d_Handler_newActionFailure_30 : ob_dc k_Handler_newActionFailure 30 (.ireturn) 1 31 := ⟨by decide +kernel, rfl⟩
theorem d_Handler_newActionFailure_25 : ob_db k_Handler_newActionFailure 25 (.ifCond .eq 6) 6 28 31 := ⟨by decide +kernel, rfl, by decide⟩
theorem d_Handler_newActionFailure_22 : ob_dc k_Handler_newActionFailure 22 (.invokestatic 143) 3 25 := ⟨by decide +kernel, rfl⟩
theorem d_Handler_newActionFailure_21 : ob_dc k_Handler_newActionFailure 21 (.isub) 1 22 := ⟨by decide +kernel, rfl⟩
theorem d_Handler_newActionFailure_17 : ob_dc k_Handler_newActionFailure 17 (.invokevirtual 239) 3 20 := ⟨by decide +kernel, rfl⟩
theorem d_Handler_newActionFailure_16 : ob_dv ob_ac k_Handler_newActionFailure 16 17 0 (.aload_n 0) 1 := ⟨by decide +kernel, rfl, rfl⟩
theorem d_Handler_newActionFailure_11 : ob_dc k_Handler_newActionFailure 11 (.getfield 53) 3 14 := ⟨by decide +kernel, rfl⟩
theorem d_Handler_newActionFailure_10 : ob_dv ob_ac k_Handler_newActionFailure 10 11 0 (.aload_n 0) 1 := ⟨by decide +kernel, rfl, rfl⟩
theorem d_Handler_newActionFailure_7 : ob_dk k_Handler_newActionFailure 7 9 (16 : Int32) (.bipush 16) 2 := ⟨by decide +kernel, rfl, show (Int8.ofInt 16).toInt32 = (16 : Int32) by decide +kernel⟩
theorem d_Handler_newActionFailure_9 : ob_dc k_Handler_newActionFailure 9 (.ireturn) 1 10 := ⟨by decide +kernel, rfl⟩
theorem d_Handler_newActionFailure_4 : ob_db k_Handler_newActionFailure 4 (.ifCond .ne 6) 6 7 10 := ⟨by decide +kernel, rfl, by decide⟩
theorem d_Handler_newActionFailure_1 : ob_dc k_Handler_newActionFailure 1 (.invokestatic 190) 3 4 := ⟨by decide +kernel, rfl⟩
theorem d_Handler_newActionFailure_0 : ob_dv ob_lc k_Handler_newActionFailure 0 1 1 (.iload_n 1) 1 := ⟨by decide +kernel, rfl, rfl⟩
theorem c_Handler_newActionFailure_143 : ob_sd k_Handler_newActionFailure k_Handler_faultOf 143 3 := ⟨cw_Handler_faultOf, yd_Handler_faultOf, w_589, w_590, w_13, by decide, by decide⟩
theorem c_Handler_newActionFailure_239 : ob_vd k_Handler_newActionFailure k_Handler_dataLength 239 0 11 := ⟨cw_Handler_dataLength, yd_Handler_dataLength, w_702, w_704, wp_22, w_13, ⟨_, _, rfl⟩, by decide, by decide⟩
theorem c_Handler_newActionFailure_190 : ob_sd k_Handler_newActionFailure k_Events_isThere 190 1 := ⟨cw_Events_isThere, yd_Events_isThere, w_687, w_688, w_7, by decide, by decide⟩
def f_Handler_newActionFailure (S : ob_S) (v0 : Nat) (v1 : Int32) (D : ob_D) : Option (Int32 × ob_D) :=
  ob_bd (f_Events_isThere S v1 D) fun x3 D1 => (if x3 = 0 then some ((16 : Int32), D1) else if D1.2.1 v0 8 ≠ 0 then ob_bd (f_Handler_dataLength S v0 D1) fun x8 D6 => ob_bd (f_Handler_faultOf S (D1.2.1 v0 8) (12 : Int32) (x8 - (1 : Int32)) D6) fun x11 D9 => (if x11 = 0 then if D9.2.1 v0 3 ≠ 0 then if D9.2.1 (D9.2.1 v0 3) 2 ≠ 0 then if ob_in v1 (S.2.1 (D9.2.1 (D9.2.1 v0 3) 2)) then (if (D9.1 (D9.2.1 (D9.2.1 v0 3) 2) v1.toNatClampNeg) = 0 then some ((0 : Int32), D9) else some ((29 : Int32), D9)) else none else none else none else some ((22 : Int32), D9)) else none)
theorem c_Handler_newActionFailure {l : Launch} {E : ob_E} {S : ob_S} {D : ob_D} {v0 : Nat} {v1 : Int32} {r : Int32} {D' : ob_D} (hp_v0 : S.1 v0 = 12) (h : f_Handler_newActionFailure S v0 v1 D = some (r, D')) : ob_M l E k_Handler_newActionFailure [.ref v0, .int v1] S D (some (.int r)) S D' := by
  refine ob_ofV (lo := [(0, .ref v0), (1, .int v1)]) (by decide) rfl (Nat.le_of_ble_eq_true rfl) rfl (Nat.le_refl _) (Nat.le_refl _) ?_
  rw [f_Handler_newActionFailure] at h
  refine ob_iload d_Handler_newActionFailure_0 rfl ?_
  obtain ⟨x3, D1, h2, h⟩ := ob_bd_e h
  refine ob_callSi (As := [.int v1]) (rest := []) d_Handler_newActionFailure_1 c_Handler_newActionFailure_190 rfl rfl (Nat.le_of_ble_eq_true rfl) (c_Events_isThere  h2) ⟨Nat.le_refl _, Nat.le_refl _⟩ ⟨Nat.le_refl _, Nat.le_refl _⟩ ?_
  refine ob_if_ne d_Handler_newActionFailure_4 (fun hc => ?_) (fun hc => ?_)
  · replace h := ob_iff hc h
    refine ob_aload d_Handler_newActionFailure_10 rfl ?_
    obtain ⟨hg5, h⟩ := ob_gd h
    refine ob_getR d_Handler_newActionFailure_11 F_11_8 l_Handler_53 hp_v0 hg5 (fun hk4 => ?_)
    refine ob_push d_Handler_newActionFailure_14 ?_
    refine ob_aload d_Handler_newActionFailure_16 rfl ?_
    obtain ⟨x8, D6, h7, h⟩ := ob_bd_e h
    refine ob_callVi (As := []) (rest := [.int (12 : Int32), .ref (D1.2.1 v0 8)]) d_Handler_newActionFailure_17 c_Handler_newActionFailure_239 hp_v0 rfl rfl (Nat.le_of_ble_eq_true rfl) (c_Handler_dataLength hp_v0 h7) ⟨Nat.le_refl _, Nat.le_refl _⟩ ⟨Nat.le_refl _, Nat.le_refl _⟩ ?_
    refine ob_push d_Handler_newActionFailure_20 ?_
    refine ob_isub d_Handler_newActionFailure_21 ?_
    obtain ⟨x11, D9, h10, h⟩ := ob_bd_e h
    refine ob_callSi (As := [.ref (D1.2.1 v0 8), .int (12 : Int32), .int (x8 - (1 : Int32))]) (rest := []) d_Handler_newActionFailure_22 c_Handler_newActionFailure_143 rfl rfl (Nat.le_of_ble_eq_true rfl) (c_Handler_faultOf hk4 h10) ⟨Nat.le_refl _, Nat.le_refl _⟩ ⟨Nat.le_refl _, Nat.le_refl _⟩ ?_
    refine ob_if_eq d_Handler_newActionFailure_25 (fun hc => ?_) (fun hc => ?_)
    · replace h := ob_ift hc h
      refine ob_aload d_Handler_newActionFailure_31 rfl ?_
      obtain ⟨hg13, h⟩ := ob_gd h
      refine ob_getR d_Handler_newActionFailure_32 F_11_3 l_Handler_31 hp_v0 hg13 (fun hk12 => ?_)
      obtain ⟨hg15, h⟩ := ob_gd h
      refine ob_getR d_Handler_newActionFailure_35 F_6_2 l_Handler_243 hk12 hg15 (fun hk14 => ?_)
      refine ob_iload d_Handler_newActionFailure_38 rfl ?_
      obtain ⟨hg16, h⟩ := ob_gd h
      refine ob_zald d_Handler_newActionFailure_39 hk14 hg16 ?_
      refine ob_if_eq d_Handler_newActionFailure_40 (fun hc => ?_) (fun hc => ?_)
      · replace h := ob_ift hc h
        refine ob_push d_Handler_newActionFailure_48 ?_
        exact ob_ie h (ob_iret d_Handler_newActionFailure_49 rfl rfl)
      · replace h := ob_iff hc h
        refine ob_push d_Handler_newActionFailure_43 ?_
        refine ob_goto d_Handler_newActionFailure_45 ?_
        exact ob_ie h (ob_iret d_Handler_newActionFailure_49 rfl rfl)
    · replace h := ob_iff hc h
      refine ob_push d_Handler_newActionFailure_28 ?_
      exact ob_ie h (ob_iret d_Handler_newActionFailure_30 rfl rfl)
  · replace h := ob_ift hc h
    refine ob_push d_Handler_newActionFailure_7 ?_
    exact ob_ie h (ob_iret d_Handler_newActionFailure_9 rfl rfl)
-- OrbitBox$Handler.actionFailure(IZ)I
theorem d_Handler_actionFailure_46 : ob_dk k_Handler_actionFailure 46 47 (0 : Int32) (.iconst 0) 1 := ⟨by decide +kernel, rfl, show Int32.ofInt 0 = (0 : Int32) by decide +kernel⟩
theorem d_Handler_actionFailure_47 : ob_dc k_Handler_actionFailure 47 (.ireturn) 1 48 := ⟨by decide +kernel, rfl⟩
theorem d_Handler_actionFailure_41 : ob_dk k_Handler_actionFailure 41 43 (15 : Int32) (.bipush 15) 2 := ⟨by decide +kernel, rfl, show (Int8.ofInt 15).toInt32 = (15 : Int32) by decide +kernel⟩
theorem d_Handler_actionFailure_43 : ob_db k_Handler_actionFailure 43 (.goto 4) 4 46 47 := ⟨by decide +kernel, rfl, by decide⟩
theorem d_Handler_actionFailure_38 : ob_db k_Handler_actionFailure 38 (.ifCond .eq 8) 8 41 46 := ⟨by decide +kernel, rfl, by decide⟩
theorem d_Handler_actionFailure_37 : ob_dc k_Handler_actionFailure 37 (.baload) 1 38 := ⟨by decide +kernel, rfl⟩
theorem d_Handler_actionFailure_36 : ob_dv ob_lc k_Handler_actionFailure 36 37 1 (.iload_n 1) 1 := ⟨by decide +kernel, rfl, rfl⟩
theorem d_Handler_actionFailure_33 : ob_dc k_Handler_actionFailure 33 (.getfield 247) 3 36 := ⟨by decide +kernel, rfl⟩
theorem d_Handler_actionFailure_30 : ob_dc k_Handler_actionFailure 30 (.getfield 31) 3 33 := ⟨by decide +kernel, rfl⟩
theorem d_Handler_actionFailure_29 : ob_dv ob_ac k_Handler_actionFailure 29 30 0 (.aload_n 0) 1 := ⟨by decide +kernel, rfl, rfl⟩
theorem d_Handler_actionFailure_26 : ob_db k_Handler_actionFailure 26 (.ifCond .eq 20) 20 29 46 := ⟨by decide +kernel, rfl, by decide⟩
theorem d_Handler_actionFailure_25 : ob_dv ob_lc k_Handler_actionFailure 25 26 2 (.iload_n 2) 1 := ⟨by decide +kernel, rfl, rfl⟩
theorem d_Handler_actionFailure_22 : ob_dk k_Handler_actionFailure 22 24 (30 : Int32) (.bipush 30) 2 := ⟨by decide +kernel, rfl, show (Int8.ofInt 30).toInt32 = (30 : Int32) by decide +kernel⟩
theorem d_Handler_actionFailure_24 : ob_dc k_Handler_actionFailure 24 (.ireturn) 1 25 := ⟨by decide +kernel, rfl⟩
theorem d_Handler_actionFailure_19 : ob_db k_Handler_actionFailure 19 (.ifCond .ne 6) 6 22 25 := ⟨by decide +kernel, rfl, by decide⟩
theorem d_Handler_actionFailure_18 : ob_dc k_Handler_actionFailure 18 (.baload) 1 19 := ⟨by decide +kernel, rfl⟩
theorem d_Handler_actionFailure_17 : ob_dv ob_lc k_Handler_actionFailure 17 18 1 (.iload_n 1) 1 := ⟨by decide +kernel, rfl, rfl⟩
theorem d_Handler_actionFailure_14 : ob_dc k_Handler_actionFailure 14 (.getfield 243) 3 17 := ⟨by decide +kernel, rfl⟩
theorem d_Handler_actionFailure_11 : ob_dc k_Handler_actionFailure 11 (.getfield 31) 3 14 := ⟨by decide +kernel, rfl⟩
theorem d_Handler_actionFailure_10 : ob_dv ob_ac k_Handler_actionFailure 10 11 0 (.aload_n 0) 1 := ⟨by decide +kernel, rfl, rfl⟩
theorem d_Handler_actionFailure_7 : ob_dk k_Handler_actionFailure 7 9 (16 : Int32) (.bipush 16) 2 := ⟨by decide +kernel, rfl, show (Int8.ofInt 16).toInt32 = (16 : Int32) by decide +kernel⟩
theorem d_Handler_actionFailure_9 : ob_dc k_Handler_actionFailure 9 (.ireturn) 1 10 := ⟨by decide +kernel, rfl⟩
theorem d_Handler_actionFailure_4 : ob_db k_Handler_actionFailure 4 (.ifCond .ne 6) 6 7 10 := ⟨by decide +kernel, rfl, by decide⟩
theorem d_Handler_actionFailure_1 : ob_dc k_Handler_actionFailure 1 (.invokestatic 190) 3 4 := ⟨by decide +kernel, rfl⟩
theorem d_Handler_actionFailure_0 : ob_dv ob_lc k_Handler_actionFailure 0 1 1 (.iload_n 1) 1 := ⟨by decide +kernel, rfl, rfl⟩
theorem c_Handler_actionFailure_190 : ob_sd k_Handler_actionFailure k_Events_isThere 190 1 := ⟨cw_Events_isThere, yd_Events_isThere, w_687, w_688, w_7, by decide, by decide⟩
def f_Handler_actionFailure (S : ob_S) (v0 : Nat) (v1 : Int32) (v2 : Int32) (D : ob_D) : Option (Int32 × ob_D) :=
  ob_bd (f_Events_isThere S v1 D) fun x3 D1 => (if x3 = 0 then some ((16 : Int32), D1) else if D1.2.1 v0 3 ≠ 0 then if D1.2.1 (D1.2.1 v0 3) 2 ≠ 0 then if ob_in v1 (S.2.1 (D1.2.1 (D1.2.1 v0 3) 2)) then (if (D1.1 (D1.2.1 (D1.2.1 v0 3) 2) v1.toNatClampNeg) = 0 then some ((30 : Int32), D1) else (if v2 = 0 then some ((0 : Int32), D1) else if D1.2.1 v0 3 ≠ 0 then if D1.2.1 (D1.2.1 v0 3) 3 ≠ 0 then if ob_in v1 (S.2.1 (D1.2.1 (D1.2.1 v0 3) 3)) then (if (D1.1 (D1.2.1 (D1.2.1 v0 3) 3) v1.toNatClampNeg) = 0 then some ((0 : Int32), D1) else some ((15 : Int32), D1)) else none else none else none)) else none else none else none)
theorem c_Handler_actionFailure {l : Launch} {E : ob_E} {S : ob_S} {D : ob_D} {v0 : Nat} {v1 : Int32} {v2 : Int32} {r : Int32} {D' : ob_D} (hp_v0 : S.1 v0 = 12) (h : f_Handler_actionFailure S v0 v1 v2 D = some (r, D')) : ob_M l E k_Handler_actionFailure [.ref v0, .int v1, .int v2] S D (some (.int r)) S D' := by
  refine ob_ofV (lo := [(0, .ref v0), (1, .int v1), (2, .int v2)]) (by decide) rfl (Nat.le_of_ble_eq_true rfl) rfl (Nat.le_refl _) (Nat.le_refl _) ?_
  rw [f_Handler_actionFailure] at h
  refine ob_iload d_Handler_actionFailure_0 rfl ?_
  obtain ⟨x3, D1, h2, h⟩ := ob_bd_e h
  refine ob_callSi (As := [.int v1]) (rest := []) d_Handler_actionFailure_1 c_Handler_actionFailure_190 rfl rfl (Nat.le_of_ble_eq_true rfl) (c_Events_isThere  h2) ⟨Nat.le_refl _, Nat.le_refl _⟩ ⟨Nat.le_refl _, Nat.le_refl _⟩ ?_
  refine ob_if_ne d_Handler_actionFailure_4 (fun hc => ?_) (fun hc => ?_)
  · replace h := ob_iff hc h
    refine ob_aload d_Handler_actionFailure_10 rfl ?_
    obtain ⟨hg5, h⟩ := ob_gd h
    refine ob_getR d_Handler_actionFailure_11 F_11_3 l_Handler_31 hp_v0 hg5 (fun hk4 => ?_)
    obtain ⟨hg7, h⟩ := ob_gd h
    refine ob_getR d_Handler_actionFailure_14 F_6_2 l_Handler_243 hk4 hg7 (fun hk6 => ?_)
    refine ob_iload d_Handler_actionFailure_17 rfl ?_
    obtain ⟨hg8, h⟩ := ob_gd h
    refine ob_zald d_Handler_actionFailure_18 hk6 hg8 ?_
    refine ob_if_ne d_Handler_actionFailure_19 (fun hc => ?_) (fun hc => ?_)
    · replace h := ob_iff hc h
      refine ob_iload d_Handler_actionFailure_25 rfl ?_
      refine ob_if_eq d_Handler_actionFailure_26 (fun hc => ?_) (fun hc => ?_)
      · replace h := ob_ift hc h
        refine ob_push d_Handler_actionFailure_46 ?_
        exact ob_ie h (ob_iret d_Handler_actionFailure_47 rfl rfl)
      · replace h := ob_iff hc h
        refine ob_aload d_Handler_actionFailure_29 rfl ?_
        obtain ⟨hg10, h⟩ := ob_gd h
        refine ob_getR d_Handler_actionFailure_30 F_11_3 l_Handler_31 hp_v0 hg10 (fun hk9 => ?_)
        obtain ⟨hg12, h⟩ := ob_gd h
        refine ob_getR d_Handler_actionFailure_33 F_6_3 l_Handler_247 hk9 hg12 (fun hk11 => ?_)
        refine ob_iload d_Handler_actionFailure_36 rfl ?_
        obtain ⟨hg13, h⟩ := ob_gd h
        refine ob_zald d_Handler_actionFailure_37 hk11 hg13 ?_
        refine ob_if_eq d_Handler_actionFailure_38 (fun hc => ?_) (fun hc => ?_)
        · replace h := ob_ift hc h
          refine ob_push d_Handler_actionFailure_46 ?_
          exact ob_ie h (ob_iret d_Handler_actionFailure_47 rfl rfl)
        · replace h := ob_iff hc h
          refine ob_push d_Handler_actionFailure_41 ?_
          refine ob_goto d_Handler_actionFailure_43 ?_
          exact ob_ie h (ob_iret d_Handler_actionFailure_47 rfl rfl)
    · replace h := ob_ift hc h
      refine ob_push d_Handler_actionFailure_22 ?_
      exact ob_ie h (ob_iret d_Handler_actionFailure_24 rfl rfl)
  · replace h := ob_ift hc h
    refine ob_push d_Handler_actionFailure_7 ?_
    exact ob_ie h (ob_iret d_Handler_actionFailure_9 rfl rfl)
-- OrbitBox$Handler.failureOf(I)I
theorem d_Handler_failureOf_1 : decode k_Handler_failureOf.2.2.1 1 = .ok (.lookupswitch 485 #[(769, 219), (771, 224), (773, 236), (774, 236), (795, 236), (1285, 248), (1286, 248), (1538, 267), (1541, 267), (1545, 278), (2049, 289), (2820, 306), (2821, 311), (2831, 338), (3073, 368), (3074, 368), (3077, 380), (3078, 385), (3841, 397), (3842, 397), (3849, 416), (3852, 433), (4865, 450), (4866, 461), (4868, 473), (4869, 473)], 219) := by decide +kernel
theorem d_Handler_failureOf_224 : ob_dc k_Handler_failureOf 224 (.ireturn) 1 225 := ⟨by decide +kernel, rfl⟩
theorem d_Handler_failureOf_221 : ob_dc k_Handler_failureOf 221 (.invokevirtual 180) 3 224 := ⟨by decide +kernel, rfl⟩
theorem d_Handler_failureOf_220 : ob_dv ob_ac k_Handler_failureOf 220 221 0 (.aload_n 0) 1 := ⟨by decide +kernel, rfl, rfl⟩
theorem d_Handler_failureOf_230 : ob_dk k_Handler_failureOf 230 232 (14 : Int32) (.bipush 14) 2 := ⟨by decide +kernel, rfl, show (Int8.ofInt 14).toInt32 = (14 : Int32) by decide +kernel⟩
theorem d_Handler_failureOf_232 : ob_dk k_Handler_failureOf 232 233 (1 : Int32) (.iconst 1) 1 := ⟨by decide +kernel, rfl, show Int32.ofInt 1 = (1 : Int32) by decide +kernel⟩
theorem d_Handler_failureOf_236 : ob_dc k_Handler_failureOf 236 (.ireturn) 1 237 := ⟨by decide +kernel, rfl⟩
theorem d_Handler_failureOf_233 : ob_dc k_Handler_failureOf 233 (.invokevirtual 183) 3 236 := ⟨by decide +kernel, rfl⟩
theorem d_Handler_failureOf_227 : ob_dc k_Handler_failureOf 227 (.getfield 37) 3 230 := ⟨by decide +kernel, rfl⟩
theorem d_Handler_failureOf_226 : ob_dv ob_ac k_Handler_failureOf 226 227 0 (.aload_n 0) 1 := ⟨by decide +kernel, rfl, rfl⟩
theorem d_Handler_failureOf_225 : ob_dv ob_ac k_Handler_failureOf 225 226 0 (.aload_n 0) 1 := ⟨by decide +kernel, rfl, rfl⟩
theorem d_Handler_failureOf_242 : ob_dk k_Handler_failureOf 242 244 (14 : Int32) (.bipush 14) 2 := ⟨by decide +kernel, rfl, show (Int8.ofInt 14).toInt32 = (14 : Int32) by decide +kernel⟩
theorem d_Handler_failureOf_244 : ob_dk k_Handler_failureOf 244 245 (0 : Int32) (.iconst 0) 1 := ⟨by decide +kernel, rfl, show Int32.ofInt 0 = (0 : Int32) by decide +kernel⟩
theorem d_Handler_failureOf_248 : ob_dc k_Handler_failureOf 248 (.ireturn) 1 249 := ⟨by decide +kernel, rfl⟩
theorem d_Handler_failureOf_245 : ob_dc k_Handler_failureOf 245 (.invokevirtual 183) 3 248 := ⟨by decide +kernel, rfl⟩
theorem d_Handler_failureOf_239 : ob_dc k_Handler_failureOf 239 (.getfield 37) 3 242 := ⟨by decide +kernel, rfl⟩
theorem d_Handler_failureOf_238 : ob_dv ob_ac k_Handler_failureOf 238 239 0 (.aload_n 0) 1 := ⟨by decide +kernel, rfl, rfl⟩
theorem d_Handler_failureOf_237 : ob_dv ob_ac k_Handler_failureOf 237 238 0 (.aload_n 0) 1 := ⟨by decide +kernel, rfl, rfl⟩
theorem d_Handler_failureOf_250 : ob_dk k_Handler_failureOf 250 251 (0 : Int32) (.iconst 0) 1 := ⟨by decide +kernel, rfl, show Int32.ofInt 0 = (0 : Int32) by decide +kernel⟩
theorem d_Handler_failureOf_251 : ob_dk k_Handler_failureOf 251 252 (1 : Int32) (.iconst 1) 1 := ⟨by decide +kernel, rfl, show Int32.ofInt 1 = (1 : Int32) by decide +kernel⟩
theorem d_Handler_failureOf_265 : ob_dk k_Handler_failureOf 265 267 (16 : Int32) (.bipush 16) 2 := ⟨by decide +kernel, rfl, show (Int8.ofInt 16).toInt32 = (16 : Int32) by decide +kernel⟩
theorem d_Handler_failureOf_267 : ob_dc k_Handler_failureOf 267 (.ireturn) 1 268 := ⟨by decide +kernel, rfl⟩
theorem d_Handler_failureOf_261 : ob_dk k_Handler_failureOf 261 262 (0 : Int32) (.iconst 0) 1 := ⟨by decide +kernel, rfl, show Int32.ofInt 0 = (0 : Int32) by decide +kernel⟩
theorem d_Handler_failureOf_262 : ob_db k_Handler_failureOf 262 (.goto 5) 5 265 267 := ⟨by decide +kernel, rfl, by decide⟩
theorem d_Handler_failureOf_258 : ob_db k_Handler_failureOf 258 (.ifCond .eq 7) 7 261 265 := ⟨by decide +kernel, rfl, by decide⟩
theorem d_Handler_failureOf_255 : ob_dc k_Handler_failureOf 255 (.invokestatic 190) 3 258 := ⟨by decide +kernel, rfl⟩
theorem d_Handler_failureOf_252 : ob_dc k_Handler_failureOf 252 (.invokevirtual 187) 3 255 := ⟨by decide +kernel, rfl⟩
theorem d_Handler_failureOf_249 : ob_dv ob_ac k_Handler_failureOf 249 250 0 (.aload_n 0) 1 := ⟨by decide +kernel, rfl, rfl⟩
theorem d_Handler_failureOf_270 : ob_dk k_Handler_failureOf 270 271 (2 : Int32) (.iconst 2) 1 := ⟨by decide +kernel, rfl, show Int32.ofInt 2 = (2 : Int32) by decide +kernel⟩
theorem d_Handler_failureOf_271 : ob_dk k_Handler_failureOf 271 272 (1 : Int32) (.iconst 1) 1 := ⟨by decide +kernel, rfl, show Int32.ofInt 1 = (1 : Int32) by decide +kernel⟩
theorem d_Handler_failureOf_278 : ob_dc k_Handler_failureOf 278 (.ireturn) 1 279 := ⟨by decide +kernel, rfl⟩
theorem d_Handler_failureOf_275 : ob_dc k_Handler_failureOf 275 (.invokevirtual 193) 3 278 := ⟨by decide +kernel, rfl⟩
theorem d_Handler_failureOf_272 : ob_dc k_Handler_failureOf 272 (.invokevirtual 187) 3 275 := ⟨by decide +kernel, rfl⟩
theorem d_Handler_failureOf_269 : ob_dv ob_ac k_Handler_failureOf 269 270 0 (.aload_n 0) 1 := ⟨by decide +kernel, rfl, rfl⟩
theorem d_Handler_failureOf_268 : ob_dv ob_ac k_Handler_failureOf 268 269 0 (.aload_n 0) 1 := ⟨by decide +kernel, rfl, rfl⟩
theorem d_Handler_failureOf_281 : ob_dk k_Handler_failureOf 281 282 (2 : Int32) (.iconst 2) 1 := ⟨by decide +kernel, rfl, show Int32.ofInt 2 = (2 : Int32) by decide +kernel⟩
theorem d_Handler_failureOf_282 : ob_dk k_Handler_failureOf 282 283 (2 : Int32) (.iconst 2) 1 := ⟨by decide +kernel, rfl, show Int32.ofInt 2 = (2 : Int32) by decide +kernel⟩
theorem d_Handler_failureOf_289 : ob_dc k_Handler_failureOf 289 (.ireturn) 1 290 := ⟨by decide +kernel, rfl⟩
theorem d_Handler_failureOf_286 : ob_dc k_Handler_failureOf 286 (.invokevirtual 193) 3 289 := ⟨by decide +kernel, rfl⟩
theorem d_Handler_failureOf_283 : ob_dc k_Handler_failureOf 283 (.invokevirtual 187) 3 286 := ⟨by decide +kernel, rfl⟩
theorem d_Handler_failureOf_280 : ob_dv ob_ac k_Handler_failureOf 280 281 0 (.aload_n 0) 1 := ⟨by decide +kernel, rfl, rfl⟩
theorem d_Handler_failureOf_279 : ob_dv ob_ac k_Handler_failureOf 279 280 0 (.aload_n 0) 1 := ⟨by decide +kernel, rfl, rfl⟩
theorem d_Handler_failureOf_292 : ob_dk k_Handler_failureOf 292 293 (0 : Int32) (.iconst 0) 1 := ⟨by decide +kernel, rfl, show Int32.ofInt 0 = (0 : Int32) by decide +kernel⟩
theorem d_Handler_failureOf_293 : ob_dk k_Handler_failureOf 293 294 (1 : Int32) (.iconst 1) 1 := ⟨by decide +kernel, rfl, show Int32.ofInt 1 = (1 : Int32) by decide +kernel⟩
theorem d_Handler_failureOf_298 : ob_dk k_Handler_failureOf 298 299 (1 : Int32) (.iconst 1) 1 := ⟨by decide +kernel, rfl, show Int32.ofInt 1 = (1 : Int32) by decide +kernel⟩
theorem d_Handler_failureOf_299 : ob_dk k_Handler_failureOf 299 300 (1 : Int32) (.iconst 1) 1 := ⟨by decide +kernel, rfl, show Int32.ofInt 1 = (1 : Int32) by decide +kernel⟩
theorem d_Handler_failureOf_306 : ob_dc k_Handler_failureOf 306 (.ireturn) 1 307 := ⟨by decide +kernel, rfl⟩
theorem d_Handler_failureOf_303 : ob_dc k_Handler_failureOf 303 (.invokevirtual 196) 3 306 := ⟨by decide +kernel, rfl⟩
theorem d_Handler_failureOf_300 : ob_dc k_Handler_failureOf 300 (.invokevirtual 187) 3 303 := ⟨by decide +kernel, rfl⟩
theorem d_Handler_failureOf_297 : ob_dv ob_ac k_Handler_failureOf 297 298 0 (.aload_n 0) 1 := ⟨by decide +kernel, rfl, rfl⟩
theorem d_Handler_failureOf_294 : ob_dc k_Handler_failureOf 294 (.invokevirtual 187) 3 297 := ⟨by decide +kernel, rfl⟩
theorem d_Handler_failureOf_291 : ob_dv ob_ac k_Handler_failureOf 291 292 0 (.aload_n 0) 1 := ⟨by decide +kernel, rfl, rfl⟩
theorem d_Handler_failureOf_290 : ob_dv ob_ac k_Handler_failureOf 290 291 0 (.aload_n 0) 1 := ⟨by decide +kernel, rfl, rfl⟩
theorem d_Handler_failureOf_311 : ob_dc k_Handler_failureOf 311 (.ireturn) 1 312 := ⟨by decide +kernel, rfl⟩
theorem d_Handler_failureOf_308 : ob_dc k_Handler_failureOf 308 (.invokevirtual 199) 3 311 := ⟨by decide +kernel, rfl⟩
theorem d_Handler_failureOf_307 : ob_dv ob_ac k_Handler_failureOf 307 308 0 (.aload_n 0) 1 := ⟨by decide +kernel, rfl, rfl⟩
theorem d_Handler_failureOf_317 : ob_dk k_Handler_failureOf 317 318 (0 : Int32) (.iconst 0) 1 := ⟨by decide +kernel, rfl, show Int32.ofInt 0 = (0 : Int32) by decide +kernel⟩
theorem d_Handler_failureOf_318 : ob_dk k_Handler_failureOf 318 319 (2 : Int32) (.iconst 2) 1 := ⟨by decide +kernel, rfl, show Int32.ofInt 2 = (2 : Int32) by decide +kernel⟩
theorem d_Handler_failureOf_322 : ob_dk k_Handler_failureOf 322 325 (16383 : Int32) (.sipush 16383) 3 := ⟨by decide +kernel, rfl, show (Int16.ofInt 16383).toInt32 = (16383 : Int32) by decide +kernel⟩
theorem d_Handler_failureOf_336 : ob_dk k_Handler_failureOf 336 338 (23 : Int32) (.bipush 23) 2 := ⟨by decide +kernel, rfl, show (Int8.ofInt 23).toInt32 = (23 : Int32) by decide +kernel⟩
theorem d_Handler_failureOf_338 : ob_dc k_Handler_failureOf 338 (.ireturn) 1 339 := ⟨by decide +kernel, rfl⟩
theorem d_Handler_failureOf_332 : ob_dk k_Handler_failureOf 332 333 (0 : Int32) (.iconst 0) 1 := ⟨by decide +kernel, rfl, show Int32.ofInt 0 = (0 : Int32) by decide +kernel⟩
theorem d_Handler_failureOf_333 : ob_db k_Handler_failureOf 333 (.goto 5) 5 336 338 := ⟨by decide +kernel, rfl, by decide⟩
theorem d_Handler_failureOf_329 : ob_db k_Handler_failureOf 329 (.ifCond .eq 7) 7 332 336 := ⟨by decide +kernel, rfl, by decide⟩
theorem d_Handler_failureOf_326 : ob_dc k_Handler_failureOf 326 (.invokevirtual 202) 3 329 := ⟨by decide +kernel, rfl⟩
theorem d_Handler_failureOf_325 : ob_dc k_Handler_failureOf 325 (.iand) 1 326 := ⟨by decide +kernel, rfl⟩
theorem d_Handler_failureOf_319 : ob_dc k_Handler_failureOf 319 (.invokevirtual 187) 3 322 := ⟨by decide +kernel, rfl⟩
theorem d_Handler_failureOf_316 : ob_dv ob_ac k_Handler_failureOf 316 317 0 (.aload_n 0) 1 := ⟨by decide +kernel, rfl, rfl⟩
theorem d_Handler_failureOf_313 : ob_dc k_Handler_failureOf 313 (.getfield 26) 3 316 := ⟨by decide +kernel, rfl⟩
theorem d_Handler_failureOf_312 : ob_dv ob_ac k_Handler_failureOf 312 313 0 (.aload_n 0) 1 := ⟨by decide +kernel, rfl, rfl⟩
theorem d_Handler_failureOf_344 : ob_dk k_Handler_failureOf 344 345 (0 : Int32) (.iconst 0) 1 := ⟨by decide +kernel, rfl, show Int32.ofInt 0 = (0 : Int32) by decide +kernel⟩
theorem d_Handler_failureOf_345 : ob_dk k_Handler_failureOf 345 346 (4 : Int32) (.iconst 4) 1 := ⟨by decide +kernel, rfl, show Int32.ofInt 4 = (4 : Int32) by decide +kernel⟩
theorem d_Handler_failureOf_366 : ob_dk k_Handler_failureOf 366 368 (24 : Int32) (.bipush 24) 2 := ⟨by decide +kernel, rfl, show (Int8.ofInt 24).toInt32 = (24 : Int32) by decide +kernel⟩
theorem d_Handler_failureOf_368 : ob_dc k_Handler_failureOf 368 (.ireturn) 1 369 := ⟨by decide +kernel, rfl⟩
theorem d_Handler_failureOf_362 : ob_dk k_Handler_failureOf 362 363 (0 : Int32) (.iconst 0) 1 := ⟨by decide +kernel, rfl, show Int32.ofInt 0 = (0 : Int32) by decide +kernel⟩
theorem d_Handler_failureOf_363 : ob_db k_Handler_failureOf 363 (.goto 5) 5 366 368 := ⟨by decide +kernel, rfl, by decide⟩
theorem d_Handler_failureOf_359 : ob_db k_Handler_failureOf 359 (.ifCond .eq 7) 7 362 366 := ⟨by decide +kernel, rfl, by decide⟩
theorem d_Handler_failureOf_356 : ob_dc k_Handler_failureOf 356 (.invokevirtual 205) 3 359 := ⟨by decide +kernel, rfl⟩
theorem d_Handler_failureOf_353 : ob_dc k_Handler_failureOf 353 (.getfield 58) 3 356 := ⟨by decide +kernel, rfl⟩
theorem d_Handler_failureOf_350 : ob_dc k_Handler_failureOf 350 (.getfield 9) 3 353 := ⟨by decide +kernel, rfl⟩
theorem d_Handler_failureOf_349 : ob_dv ob_ac k_Handler_failureOf 349 350 0 (.aload_n 0) 1 := ⟨by decide +kernel, rfl, rfl⟩
theorem d_Handler_failureOf_346 : ob_dc k_Handler_failureOf 346 (.invokevirtual 187) 3 349 := ⟨by decide +kernel, rfl⟩
theorem d_Handler_failureOf_343 : ob_dv ob_ac k_Handler_failureOf 343 344 0 (.aload_n 0) 1 := ⟨by decide +kernel, rfl, rfl⟩
theorem d_Handler_failureOf_340 : ob_dc k_Handler_failureOf 340 (.getfield 26) 3 343 := ⟨by decide +kernel, rfl⟩
theorem d_Handler_failureOf_339 : ob_dv ob_ac k_Handler_failureOf 339 340 0 (.aload_n 0) 1 := ⟨by decide +kernel, rfl, rfl⟩
theorem d_Handler_failureOf_374 : ob_dk k_Handler_failureOf 374 376 (27 : Int32) (.bipush 27) 2 := ⟨by decide +kernel, rfl, show (Int8.ofInt 27).toInt32 = (27 : Int32) by decide +kernel⟩
theorem d_Handler_failureOf_376 : ob_dk k_Handler_failureOf 376 377 (0 : Int32) (.iconst 0) 1 := ⟨by decide +kernel, rfl, show Int32.ofInt 0 = (0 : Int32) by decide +kernel⟩
theorem d_Handler_failureOf_380 : ob_dc k_Handler_failureOf 380 (.ireturn) 1 381 := ⟨by decide +kernel, rfl⟩
theorem d_Handler_failureOf_377 : ob_dc k_Handler_failureOf 377 (.invokevirtual 183) 3 380 := ⟨by decide +kernel, rfl⟩
theorem d_Handler_failureOf_371 : ob_dc k_Handler_failureOf 371 (.getfield 41) 3 374 := ⟨by decide +kernel, rfl⟩
theorem d_Handler_failureOf_370 : ob_dv ob_ac k_Handler_failureOf 370 371 0 (.aload_n 0) 1 := ⟨by decide +kernel, rfl, rfl⟩
theorem d_Handler_failureOf_369 : ob_dv ob_ac k_Handler_failureOf 369 370 0 (.aload_n 0) 1 := ⟨by decide +kernel, rfl, rfl⟩
theorem d_Handler_failureOf_385 : ob_dc k_Handler_failureOf 385 (.ireturn) 1 386 := ⟨by decide +kernel, rfl⟩
theorem d_Handler_failureOf_382 : ob_dc k_Handler_failureOf 382 (.invokevirtual 209) 3 385 := ⟨by decide +kernel, rfl⟩
theorem d_Handler_failureOf_381 : ob_dv ob_ac k_Handler_failureOf 381 382 0 (.aload_n 0) 1 := ⟨by decide +kernel, rfl, rfl⟩
theorem d_Handler_failureOf_391 : ob_dk k_Handler_failureOf 391 393 (27 : Int32) (.bipush 27) 2 := ⟨by decide +kernel, rfl, show (Int8.ofInt 27).toInt32 = (27 : Int32) by decide +kernel⟩
theorem d_Handler_failureOf_393 : ob_dk k_Handler_failureOf 393 394 (1 : Int32) (.iconst 1) 1 := ⟨by decide +kernel, rfl, show Int32.ofInt 1 = (1 : Int32) by decide +kernel⟩
theorem d_Handler_failureOf_397 : ob_dc k_Handler_failureOf 397 (.ireturn) 1 398 := ⟨by decide +kernel, rfl⟩
theorem d_Handler_failureOf_394 : ob_dc k_Handler_failureOf 394 (.invokevirtual 183) 3 397 := ⟨by decide +kernel, rfl⟩
theorem d_Handler_failureOf_388 : ob_dc k_Handler_failureOf 388 (.getfield 41) 3 391 := ⟨by decide +kernel, rfl⟩
theorem d_Handler_failureOf_387 : ob_dv ob_ac k_Handler_failureOf 387 388 0 (.aload_n 0) 1 := ⟨by decide +kernel, rfl, rfl⟩
theorem d_Handler_failureOf_386 : ob_dv ob_ac k_Handler_failureOf 386 387 0 (.aload_n 0) 1 := ⟨by decide +kernel, rfl, rfl⟩
theorem d_Handler_failureOf_399 : ob_dk k_Handler_failureOf 399 400 (0 : Int32) (.iconst 0) 1 := ⟨by decide +kernel, rfl, show Int32.ofInt 0 = (0 : Int32) by decide +kernel⟩
theorem d_Handler_failureOf_400 : ob_dk k_Handler_failureOf 400 401 (1 : Int32) (.iconst 1) 1 := ⟨by decide +kernel, rfl, show Int32.ofInt 1 = (1 : Int32) by decide +kernel⟩
theorem d_Handler_failureOf_414 : ob_dk k_Handler_failureOf 414 416 (32 : Int32) (.bipush 32) 2 := ⟨by decide +kernel, rfl, show (Int8.ofInt 32).toInt32 = (32 : Int32) by decide +kernel⟩
theorem d_Handler_failureOf_416 : ob_dc k_Handler_failureOf 416 (.ireturn) 1 417 := ⟨by decide +kernel, rfl⟩
theorem d_Handler_failureOf_410 : ob_dk k_Handler_failureOf 410 411 (0 : Int32) (.iconst 0) 1 := ⟨by decide +kernel, rfl, show Int32.ofInt 0 = (0 : Int32) by decide +kernel⟩
theorem d_Handler_failureOf_411 : ob_db k_Handler_failureOf 411 (.goto 5) 5 414 416 := ⟨by decide +kernel, rfl, by decide⟩
theorem d_Handler_failureOf_407 : ob_db k_Handler_failureOf 407 (.ifCond .eq 7) 7 410 414 := ⟨by decide +kernel, rfl, by decide⟩
theorem d_Handler_failureOf_404 : ob_dc k_Handler_failureOf 404 (.invokestatic 212) 3 407 := ⟨by decide +kernel, rfl⟩
theorem d_Handler_failureOf_401 : ob_dc k_Handler_failureOf 401 (.invokevirtual 187) 3 404 := ⟨by decide +kernel, rfl⟩
theorem d_Handler_failureOf_398 : ob_dv ob_ac k_Handler_failureOf 398 399 0 (.aload_n 0) 1 := ⟨by decide +kernel, rfl, rfl⟩
theorem d_Handler_failureOf_432 : ob_dk k_Handler_failureOf 432 433 (0 : Int32) (.iconst 0) 1 := ⟨by decide +kernel, rfl, show Int32.ofInt 0 = (0 : Int32) by decide +kernel⟩
theorem d_Handler_failureOf_433 : ob_dc k_Handler_failureOf 433 (.ireturn) 1 434 := ⟨by decide +kernel, rfl⟩
theorem d_Handler_failureOf_427 : ob_dk k_Handler_failureOf 427 429 (28 : Int32) (.bipush 28) 2 := ⟨by decide +kernel, rfl, show (Int8.ofInt 28).toInt32 = (28 : Int32) by decide +kernel⟩
theorem d_Handler_failureOf_429 : ob_db k_Handler_failureOf 429 (.goto 4) 4 432 433 := ⟨by decide +kernel, rfl, by decide⟩
theorem d_Handler_failureOf_424 : ob_db k_Handler_failureOf 424 (.ifCond .eq 8) 8 427 432 := ⟨by decide +kernel, rfl, by decide⟩
theorem d_Handler_failureOf_421 : ob_dc k_Handler_failureOf 421 (.getfield 215) 3 424 := ⟨by decide +kernel, rfl⟩
theorem d_Handler_failureOf_418 : ob_dc k_Handler_failureOf 418 (.getfield 36) 3 421 := ⟨by decide +kernel, rfl⟩
theorem d_Handler_failureOf_417 : ob_dv ob_ac k_Handler_failureOf 417 418 0 (.aload_n 0) 1 := ⟨by decide +kernel, rfl, rfl⟩
theorem d_Handler_failureOf_448 : ob_dk k_Handler_failureOf 448 450 (28 : Int32) (.bipush 28) 2 := ⟨by decide +kernel, rfl, show (Int8.ofInt 28).toInt32 = (28 : Int32) by decide +kernel⟩
theorem d_Handler_failureOf_450 : ob_dc k_Handler_failureOf 450 (.ireturn) 1 451 := ⟨by decide +kernel, rfl⟩
theorem d_Handler_failureOf_444 : ob_dk k_Handler_failureOf 444 445 (0 : Int32) (.iconst 0) 1 := ⟨by decide +kernel, rfl, show Int32.ofInt 0 = (0 : Int32) by decide +kernel⟩
theorem d_Handler_failureOf_445 : ob_db k_Handler_failureOf 445 (.goto 5) 5 448 450 := ⟨by decide +kernel, rfl, by decide⟩
theorem d_Handler_failureOf_441 : ob_db k_Handler_failureOf 441 (.ifCond .eq 7) 7 444 448 := ⟨by decide +kernel, rfl, by decide⟩
theorem d_Handler_failureOf_438 : ob_dc k_Handler_failureOf 438 (.getfield 215) 3 441 := ⟨by decide +kernel, rfl⟩
theorem d_Handler_failureOf_435 : ob_dc k_Handler_failureOf 435 (.getfield 36) 3 438 := ⟨by decide +kernel, rfl⟩
theorem d_Handler_failureOf_434 : ob_dv ob_ac k_Handler_failureOf 434 435 0 (.aload_n 0) 1 := ⟨by decide +kernel, rfl, rfl⟩
theorem d_Handler_failureOf_453 : ob_dk k_Handler_failureOf 453 454 (0 : Int32) (.iconst 0) 1 := ⟨by decide +kernel, rfl, show Int32.ofInt 0 = (0 : Int32) by decide +kernel⟩
theorem d_Handler_failureOf_454 : ob_dk k_Handler_failureOf 454 455 (1 : Int32) (.iconst 1) 1 := ⟨by decide +kernel, rfl, show Int32.ofInt 1 = (1 : Int32) by decide +kernel⟩
theorem d_Handler_failureOf_461 : ob_dc k_Handler_failureOf 461 (.ireturn) 1 462 := ⟨by decide +kernel, rfl⟩
theorem d_Handler_failureOf_458 : ob_dc k_Handler_failureOf 458 (.invokevirtual 218) 3 461 := ⟨by decide +kernel, rfl⟩
theorem d_Handler_failureOf_455 : ob_dc k_Handler_failureOf 455 (.invokevirtual 187) 3 458 := ⟨by decide +kernel, rfl⟩
theorem d_Handler_failureOf_452 : ob_dv ob_ac k_Handler_failureOf 452 453 0 (.aload_n 0) 1 := ⟨by decide +kernel, rfl, rfl⟩
theorem d_Handler_failureOf_451 : ob_dv ob_ac k_Handler_failureOf 451 452 0 (.aload_n 0) 1 := ⟨by decide +kernel, rfl, rfl⟩
theorem d_Handler_failureOf_464 : ob_dk k_Handler_failureOf 464 465 (0 : Int32) (.iconst 0) 1 := ⟨by decide +kernel, rfl, show Int32.ofInt 0 = (0 : Int32) by decide +kernel⟩
theorem d_Handler_failureOf_465 : ob_dk k_Handler_failureOf 465 466 (1 : Int32) (.iconst 1) 1 := ⟨by decide +kernel, rfl, show Int32.ofInt 1 = (1 : Int32) by decide +kernel⟩
theorem d_Handler_failureOf_469 : ob_dk k_Handler_failureOf 469 470 (1 : Int32) (.iconst 1) 1 := ⟨by decide +kernel, rfl, show Int32.ofInt 1 = (1 : Int32) by decide +kernel⟩
theorem d_Handler_failureOf_473 : ob_dc k_Handler_failureOf 473 (.ireturn) 1 474 := ⟨by decide +kernel, rfl⟩
theorem d_Handler_failureOf_470 : ob_dc k_Handler_failureOf 470 (.invokevirtual 221) 3 473 := ⟨by decide +kernel, rfl⟩
theorem d_Handler_failureOf_466 : ob_dc k_Handler_failureOf 466 (.invokevirtual 187) 3 469 := ⟨by decide +kernel, rfl⟩
theorem d_Handler_failureOf_463 : ob_dv ob_ac k_Handler_failureOf 463 464 0 (.aload_n 0) 1 := ⟨by decide +kernel, rfl, rfl⟩
theorem d_Handler_failureOf_462 : ob_dv ob_ac k_Handler_failureOf 462 463 0 (.aload_n 0) 1 := ⟨by decide +kernel, rfl, rfl⟩
theorem d_Handler_failureOf_476 : ob_dk k_Handler_failureOf 476 477 (0 : Int32) (.iconst 0) 1 := ⟨by decide +kernel, rfl, show Int32.ofInt 0 = (0 : Int32) by decide +kernel⟩
theorem d_Handler_failureOf_477 : ob_dk k_Handler_failureOf 477 478 (1 : Int32) (.iconst 1) 1 := ⟨by decide +kernel, rfl, show Int32.ofInt 1 = (1 : Int32) by decide +kernel⟩
theorem d_Handler_failureOf_481 : ob_dk k_Handler_failureOf 481 482 (0 : Int32) (.iconst 0) 1 := ⟨by decide +kernel, rfl, show Int32.ofInt 0 = (0 : Int32) by decide +kernel⟩
theorem d_Handler_failureOf_485 : ob_dc k_Handler_failureOf 485 (.ireturn) 1 486 := ⟨by decide +kernel, rfl⟩
theorem d_Handler_failureOf_482 : ob_dc k_Handler_failureOf 482 (.invokevirtual 221) 3 485 := ⟨by decide +kernel, rfl⟩
theorem d_Handler_failureOf_478 : ob_dc k_Handler_failureOf 478 (.invokevirtual 187) 3 481 := ⟨by decide +kernel, rfl⟩
theorem d_Handler_failureOf_475 : ob_dv ob_ac k_Handler_failureOf 475 476 0 (.aload_n 0) 1 := ⟨by decide +kernel, rfl, rfl⟩
theorem d_Handler_failureOf_474 : ob_dv ob_ac k_Handler_failureOf 474 475 0 (.aload_n 0) 1 := ⟨by decide +kernel, rfl, rfl⟩
theorem d_Handler_failureOf_486 : ob_dk k_Handler_failureOf 486 487 (0 : Int32) (.iconst 0) 1 := ⟨by decide +kernel, rfl, show Int32.ofInt 0 = (0 : Int32) by decide +kernel⟩
theorem d_Handler_failureOf_487 : ob_dc k_Handler_failureOf 487 (.ireturn) 1 488 := ⟨by decide +kernel, rfl⟩
theorem d_Handler_failureOf_0 : ob_dv ob_lc k_Handler_failureOf 0 1 1 (.iload_n 1) 1 := ⟨by decide +kernel, rfl, rfl⟩
theorem c_Handler_failureOf_180 : ob_vd k_Handler_failureOf k_Handler_newFormFailure 180 0 11 := ⟨cw_Handler_newFormFailure, yd_Handler_newFormFailure, w_659, w_661, wp_15, w_13, ⟨_, _, rfl⟩, by decide, by decide⟩
theorem c_Handler_failureOf_183 : ob_vd k_Handler_failureOf k_Handler_lineFailure 183 3 11 := ⟨cw_Handler_lineFailure, yd_Handler_lineFailure, w_679, w_681, wp_18, w_13, ⟨_, _, rfl⟩, by decide, by decide⟩
theorem c_Handler_failureOf_190 : ob_sd k_Handler_failureOf k_Events_isThere 190 1 := ⟨cw_Events_isThere, yd_Events_isThere, w_687, w_688, w_7, by decide, by decide⟩
theorem c_Handler_failureOf_187 : ob_vd k_Handler_failureOf k_Handler_data 187 2 11 := ⟨cw_Handler_data, yd_Handler_data, w_663, w_665, wp_16, w_13, ⟨_, _, rfl⟩, by decide, by decide⟩
theorem c_Handler_failureOf_193 : ob_vd k_Handler_failureOf k_Handler_placeFailure 193 1 11 := ⟨cw_Handler_placeFailure, yd_Handler_placeFailure, w_690, w_692, wp_19, w_13, ⟨_, _, rfl⟩, by decide, by decide⟩
theorem c_Handler_failureOf_196 : ob_vd k_Handler_failureOf k_Handler_functionFailure 196 2 11 := ⟨cw_Handler_functionFailure, yd_Handler_functionFailure, w_694, w_696, wp_20, w_13, ⟨_, _, rfl⟩, by decide, by decide⟩
theorem c_Handler_failureOf_199 : ob_vd k_Handler_failureOf k_Handler_newEntryFailure 199 0 11 := ⟨cw_Handler_newEntryFailure, yd_Handler_newEntryFailure, w_698, w_700, wp_21, w_13, ⟨_, _, rfl⟩, by decide, by decide⟩
theorem c_Handler_failureOf_202 : ob_vd k_Handler_failureOf k_Timetable_has 202 1 5 := ⟨cw_Timetable_has, yd_Timetable_has, w_710, w_711, w_712, w_5, ⟨_, _, rfl⟩, by decide, by decide⟩
theorem c_Handler_failureOf_205 : ob_vd k_Handler_failureOf k_Timetable_canShift 205 2 5 := ⟨cw_Timetable_canShift, yd_Timetable_canShift, w_719, w_720, w_721, w_5, ⟨_, _, rfl⟩, by decide, by decide⟩
theorem c_Handler_failureOf_209 : ob_vd k_Handler_failureOf k_Handler_newLimitFailure 209 0 11 := ⟨cw_Handler_newLimitFailure, yd_Handler_newLimitFailure, w_723, w_725, wp_23, w_13, ⟨_, _, rfl⟩, by decide, by decide⟩
theorem c_Handler_failureOf_212 : ob_sd k_Handler_failureOf k_Reports_isService 212 1 := ⟨cw_Reports_isService, yd_Reports_isService, w_727, w_636, w_11, by decide, by decide⟩
theorem c_Handler_failureOf_218 : ob_vd k_Handler_failureOf k_Handler_newActionFailure 218 1 11 := ⟨cw_Handler_newActionFailure, yd_Handler_newActionFailure, w_728, w_730, wp_24, w_13, ⟨_, _, rfl⟩, by decide, by decide⟩
theorem c_Handler_failureOf_221 : ob_vd k_Handler_failureOf k_Handler_actionFailure 221 2 11 := ⟨cw_Handler_actionFailure, yd_Handler_actionFailure, w_732, w_734, wp_25, w_13, ⟨_, _, rfl⟩, by decide, by decide⟩
def f_Handler_failureOf (S : ob_S) (v0 : Nat) (v1 : Int32) (D : ob_D) : Option (Int32 × ob_D) :=
  (if v1 = (769 : Int32) then ob_bd (f_Handler_newFormFailure S v0 D) fun x3 D1 => some (x3, D1) else if v1 = (771 : Int32) then if D.2.1 v0 5 ≠ 0 then ob_bd (f_Handler_lineFailure S v0 (D.2.1 v0 5) (14 : Int32) (1 : Int32) D) fun x9 D7 => some (x9, D7) else none else if v1 = (773 : Int32) then if D.2.1 v0 5 ≠ 0 then ob_bd (f_Handler_lineFailure S v0 (D.2.1 v0 5) (14 : Int32) (0 : Int32) D) fun x15 D13 => some (x15, D13) else none else if v1 = (774 : Int32) then if D.2.1 v0 5 ≠ 0 then ob_bd (f_Handler_lineFailure S v0 (D.2.1 v0 5) (14 : Int32) (0 : Int32) D) fun x21 D19 => some (x21, D19) else none else if v1 = (795 : Int32) then if D.2.1 v0 5 ≠ 0 then ob_bd (f_Handler_lineFailure S v0 (D.2.1 v0 5) (14 : Int32) (0 : Int32) D) fun x27 D25 => some (x27, D25) else none else if v1 = (1285 : Int32) then ob_bd (f_Handler_data S v0 (0 : Int32) (1 : Int32) D) fun x31 D29 => ob_bd (f_Events_isThere S x31 D29) fun x34 D32 => (if x34 = 0 then some ((16 : Int32), D32) else some ((0 : Int32), D32)) else if v1 = (1286 : Int32) then ob_bd (f_Handler_data S v0 (0 : Int32) (1 : Int32) D) fun x38 D36 => ob_bd (f_Events_isThere S x38 D36) fun x41 D39 => (if x41 = 0 then some ((16 : Int32), D39) else some ((0 : Int32), D39)) else if v1 = (1538 : Int32) then ob_bd (f_Handler_data S v0 (2 : Int32) (1 : Int32) D) fun x45 D43 => ob_bd (f_Handler_placeFailure S v0 x45 D43) fun x48 D46 => some (x48, D46) else if v1 = (1541 : Int32) then ob_bd (f_Handler_data S v0 (2 : Int32) (1 : Int32) D) fun x52 D50 => ob_bd (f_Handler_placeFailure S v0 x52 D50) fun x55 D53 => some (x55, D53) else if v1 = (1545 : Int32) then ob_bd (f_Handler_data S v0 (2 : Int32) (2 : Int32) D) fun x59 D57 => ob_bd (f_Handler_placeFailure S v0 x59 D57) fun x62 D60 => some (x62, D60) else if v1 = (2049 : Int32) then ob_bd (f_Handler_data S v0 (0 : Int32) (1 : Int32) D) fun x66 D64 => ob_bd (f_Handler_data S v0 (1 : Int32) (1 : Int32) D64) fun x69 D67 => ob_bd (f_Handler_functionFailure S v0 x66 x69 D67) fun x72 D70 => some (x72, D70) else if v1 = (2820 : Int32) then ob_bd (f_Handler_newEntryFailure S v0 D) fun x76 D74 => some (x76, D74) else if v1 = (2821 : Int32) then if D.2.1 v0 2 ≠ 0 then ob_bd (f_Handler_data S v0 (0 : Int32) (2 : Int32) D) fun x82 D80 => ob_bd (f_Timetable_has S (D.2.1 v0 2) (x82 &&& (16383 : Int32)) D80) fun x85 D83 => (if x85 = 0 then some ((23 : Int32), D83) else some ((0 : Int32), D83)) else none else if v1 = (2831 : Int32) then if D.2.1 v0 2 ≠ 0 then ob_bd (f_Handler_data S v0 (0 : Int32) (4 : Int32) D) fun x91 D89 => if D89.2.1 v0 0 ≠ 0 then ob_bd (f_Timetable_canShift S (D.2.1 v0 2) x91 (D89.1 (D89.2.1 v0 0) 8) D89) fun x96 D94 => (if x96 = 0 then some ((24 : Int32), D94) else some ((0 : Int32), D94)) else none else none else if v1 = (3073 : Int32) then if D.2.1 v0 6 ≠ 0 then ob_bd (f_Handler_lineFailure S v0 (D.2.1 v0 6) (27 : Int32) (0 : Int32) D) fun x102 D100 => some (x102, D100) else none else if v1 = (3074 : Int32) then if D.2.1 v0 6 ≠ 0 then ob_bd (f_Handler_lineFailure S v0 (D.2.1 v0 6) (27 : Int32) (0 : Int32) D) fun x108 D106 => some (x108, D106) else none else if v1 = (3077 : Int32) then ob_bd (f_Handler_newLimitFailure S v0 D) fun x112 D110 => some (x112, D110) else if v1 = (3078 : Int32) then if D.2.1 v0 6 ≠ 0 then ob_bd (f_Handler_lineFailure S v0 (D.2.1 v0 6) (27 : Int32) (1 : Int32) D) fun x118 D116 => some (x118, D116) else none else if v1 = (3841 : Int32) then ob_bd (f_Handler_data S v0 (0 : Int32) (1 : Int32) D) fun x122 D120 => ob_bd (f_Reports_isService S x122 D120) fun x125 D123 => (if x125 = 0 then some ((32 : Int32), D123) else some ((0 : Int32), D123)) else if v1 = (3842 : Int32) then ob_bd (f_Handler_data S v0 (0 : Int32) (1 : Int32) D) fun x129 D127 => ob_bd (f_Reports_isService S x129 D127) fun x132 D130 => (if x132 = 0 then some ((32 : Int32), D130) else some ((0 : Int32), D130)) else if v1 = (3849 : Int32) then if D.2.1 v0 4 ≠ 0 then (if (D.1 (D.2.1 v0 4) 8) = 0 then some ((0 : Int32), D) else some ((28 : Int32), D)) else none else if v1 = (3852 : Int32) then if D.2.1 v0 4 ≠ 0 then (if (D.1 (D.2.1 v0 4) 8) = 0 then some ((28 : Int32), D) else some ((0 : Int32), D)) else none else if v1 = (4865 : Int32) then ob_bd (f_Handler_data S v0 (0 : Int32) (1 : Int32) D) fun x142 D140 => ob_bd (f_Handler_newActionFailure S v0 x142 D140) fun x145 D143 => some (x145, D143) else if v1 = (4866 : Int32) then ob_bd (f_Handler_data S v0 (0 : Int32) (1 : Int32) D) fun x149 D147 => ob_bd (f_Handler_actionFailure S v0 x149 (1 : Int32) D147) fun x152 D150 => some (x152, D150) else if v1 = (4868 : Int32) then ob_bd (f_Handler_data S v0 (0 : Int32) (1 : Int32) D) fun x156 D154 => ob_bd (f_Handler_actionFailure S v0 x156 (0 : Int32) D154) fun x159 D157 => some (x159, D157) else if v1 = (4869 : Int32) then ob_bd (f_Handler_data S v0 (0 : Int32) (1 : Int32) D) fun x163 D161 => ob_bd (f_Handler_actionFailure S v0 x163 (0 : Int32) D161) fun x166 D164 => some (x166, D164) else some ((0 : Int32), D))
theorem c_Handler_failureOf {l : Launch} {E : ob_E} {S : ob_S} {D : ob_D} {v0 : Nat} {v1 : Int32} {r : Int32} {D' : ob_D} (hp_v0 : S.1 v0 = 12) (h : f_Handler_failureOf S v0 v1 D = some (r, D')) : ob_M l E k_Handler_failureOf [.ref v0, .int v1] S D (some (.int r)) S D' := by
  refine ob_ofV (lo := [(0, .ref v0), (1, .int v1)]) (by decide) rfl (Nat.le_of_ble_eq_true rfl) rfl (Nat.le_refl _) (Nat.le_refl _) ?_
  rw [f_Handler_failureOf] at h
  refine ob_iload d_Handler_failureOf_0 rfl ?_
  by_cases hs4 : v1 = (769 : Int32)
  · replace h := ob_ift hs4 h
    refine ob_lku (off := 219) (t := 220) d_Handler_failureOf_1 (by decide +kernel) (by rw [hs4]; decide +kernel) (by decide) ?_
    refine ob_aload d_Handler_failureOf_220 rfl ?_
    obtain ⟨x3, D1, h2, h⟩ := ob_bd_e h
    refine ob_callVi (As := []) (rest := []) d_Handler_failureOf_221 c_Handler_failureOf_180 hp_v0 rfl rfl (Nat.le_of_ble_eq_true rfl) (c_Handler_newFormFailure hp_v0 h2) ⟨Nat.le_refl _, Nat.le_refl _⟩ ⟨Nat.le_refl _, Nat.le_refl _⟩ ?_
    exact ob_ie h (ob_iret d_Handler_failureOf_224 rfl rfl)
  replace h := ob_iff hs4 h
  by_cases hs10 : v1 = (771 : Int32)
  · replace h := ob_ift hs10 h
    refine ob_lku (off := 224) (t := 225) d_Handler_failureOf_1 (by decide +kernel) (by rw [hs10]; decide +kernel) (by decide) ?_
    refine ob_aload d_Handler_failureOf_225 rfl ?_
    refine ob_aload d_Handler_failureOf_226 rfl ?_
    obtain ⟨hg6, h⟩ := ob_gd h
    refine ob_getR d_Handler_failureOf_227 F_11_5 l_Handler_37 hp_v0 hg6 (fun hk5 => ?_)
    refine ob_push d_Handler_failureOf_230 ?_
    refine ob_push d_Handler_failureOf_232 ?_
    obtain ⟨x9, D7, h8, h⟩ := ob_bd_e h
    refine ob_callVi (As := [.ref (D.2.1 v0 5), .int (14 : Int32), .int (1 : Int32)]) (rest := []) d_Handler_failureOf_233 c_Handler_failureOf_183 hp_v0 rfl rfl (Nat.le_of_ble_eq_true rfl) (c_Handler_lineFailure hp_v0 hk5 h8) ⟨Nat.le_refl _, Nat.le_refl _⟩ ⟨Nat.le_refl _, Nat.le_refl _⟩ ?_
    exact ob_ie h (ob_iret d_Handler_failureOf_236 rfl rfl)
  replace h := ob_iff hs10 h
  by_cases hs16 : v1 = (773 : Int32)
  · replace h := ob_ift hs16 h
    refine ob_lku (off := 236) (t := 237) d_Handler_failureOf_1 (by decide +kernel) (by rw [hs16]; decide +kernel) (by decide) ?_
    refine ob_aload d_Handler_failureOf_237 rfl ?_
    refine ob_aload d_Handler_failureOf_238 rfl ?_
    obtain ⟨hg12, h⟩ := ob_gd h
    refine ob_getR d_Handler_failureOf_239 F_11_5 l_Handler_37 hp_v0 hg12 (fun hk11 => ?_)
    refine ob_push d_Handler_failureOf_242 ?_
    refine ob_push d_Handler_failureOf_244 ?_
    obtain ⟨x15, D13, h14, h⟩ := ob_bd_e h
    refine ob_callVi (As := [.ref (D.2.1 v0 5), .int (14 : Int32), .int (0 : Int32)]) (rest := []) d_Handler_failureOf_245 c_Handler_failureOf_183 hp_v0 rfl rfl (Nat.le_of_ble_eq_true rfl) (c_Handler_lineFailure hp_v0 hk11 h14) ⟨Nat.le_refl _, Nat.le_refl _⟩ ⟨Nat.le_refl _, Nat.le_refl _⟩ ?_
    exact ob_ie h (ob_iret d_Handler_failureOf_248 rfl rfl)
  replace h := ob_iff hs16 h
  by_cases hs22 : v1 = (774 : Int32)
  · replace h := ob_ift hs22 h
    refine ob_lku (off := 236) (t := 237) d_Handler_failureOf_1 (by decide +kernel) (by rw [hs22]; decide +kernel) (by decide) ?_
    refine ob_aload d_Handler_failureOf_237 rfl ?_
    refine ob_aload d_Handler_failureOf_238 rfl ?_
    obtain ⟨hg18, h⟩ := ob_gd h
    refine ob_getR d_Handler_failureOf_239 F_11_5 l_Handler_37 hp_v0 hg18 (fun hk17 => ?_)
    refine ob_push d_Handler_failureOf_242 ?_
    refine ob_push d_Handler_failureOf_244 ?_
    obtain ⟨x21, D19, h20, h⟩ := ob_bd_e h
    refine ob_callVi (As := [.ref (D.2.1 v0 5), .int (14 : Int32), .int (0 : Int32)]) (rest := []) d_Handler_failureOf_245 c_Handler_failureOf_183 hp_v0 rfl rfl (Nat.le_of_ble_eq_true rfl) (c_Handler_lineFailure hp_v0 hk17 h20) ⟨Nat.le_refl _, Nat.le_refl _⟩ ⟨Nat.le_refl _, Nat.le_refl _⟩ ?_
    exact ob_ie h (ob_iret d_Handler_failureOf_248 rfl rfl)
  replace h := ob_iff hs22 h
  by_cases hs28 : v1 = (795 : Int32)
  · replace h := ob_ift hs28 h
    refine ob_lku (off := 236) (t := 237) d_Handler_failureOf_1 (by decide +kernel) (by rw [hs28]; decide +kernel) (by decide) ?_
    refine ob_aload d_Handler_failureOf_237 rfl ?_
    refine ob_aload d_Handler_failureOf_238 rfl ?_
    obtain ⟨hg24, h⟩ := ob_gd h
    refine ob_getR d_Handler_failureOf_239 F_11_5 l_Handler_37 hp_v0 hg24 (fun hk23 => ?_)
    refine ob_push d_Handler_failureOf_242 ?_
    refine ob_push d_Handler_failureOf_244 ?_
    obtain ⟨x27, D25, h26, h⟩ := ob_bd_e h
    refine ob_callVi (As := [.ref (D.2.1 v0 5), .int (14 : Int32), .int (0 : Int32)]) (rest := []) d_Handler_failureOf_245 c_Handler_failureOf_183 hp_v0 rfl rfl (Nat.le_of_ble_eq_true rfl) (c_Handler_lineFailure hp_v0 hk23 h26) ⟨Nat.le_refl _, Nat.le_refl _⟩ ⟨Nat.le_refl _, Nat.le_refl _⟩ ?_
    exact ob_ie h (ob_iret d_Handler_failureOf_248 rfl rfl)
  replace h := ob_iff hs28 h
  by_cases hs35 : v1 = (1285 : Int32)
  · replace h := ob_ift hs35 h
    refine ob_lku (off := 248) (t := 249) d_Handler_failureOf_1 (by decide +kernel) (by rw [hs35]; decide +kernel) (by decide) ?_
    refine ob_aload d_Handler_failureOf_249 rfl ?_
    refine ob_push d_Handler_failureOf_250 ?_
    refine ob_push d_Handler_failureOf_251 ?_
    obtain ⟨x31, D29, h30, h⟩ := ob_bd_e h
    refine ob_callVi (As := [.int (0 : Int32), .int (1 : Int32)]) (rest := []) d_Handler_failureOf_252 c_Handler_failureOf_187 hp_v0 rfl rfl (Nat.le_of_ble_eq_true rfl) (c_Handler_data hp_v0 h30) ⟨Nat.le_refl _, Nat.le_refl _⟩ ⟨Nat.le_refl _, Nat.le_refl _⟩ ?_
    obtain ⟨x34, D32, h33, h⟩ := ob_bd_e h
    refine ob_callSi (As := [.int x31]) (rest := []) d_Handler_failureOf_255 c_Handler_failureOf_190 rfl rfl (Nat.le_of_ble_eq_true rfl) (c_Events_isThere  h33) ⟨Nat.le_refl _, Nat.le_refl _⟩ ⟨Nat.le_refl _, Nat.le_refl _⟩ ?_
    refine ob_if_eq d_Handler_failureOf_258 (fun hc => ?_) (fun hc => ?_)
    · replace h := ob_ift hc h
      refine ob_push d_Handler_failureOf_265 ?_
      exact ob_ie h (ob_iret d_Handler_failureOf_267 rfl rfl)
    · replace h := ob_iff hc h
      refine ob_push d_Handler_failureOf_261 ?_
      refine ob_goto d_Handler_failureOf_262 ?_
      exact ob_ie h (ob_iret d_Handler_failureOf_267 rfl rfl)
  replace h := ob_iff hs35 h
  by_cases hs42 : v1 = (1286 : Int32)
  · replace h := ob_ift hs42 h
    refine ob_lku (off := 248) (t := 249) d_Handler_failureOf_1 (by decide +kernel) (by rw [hs42]; decide +kernel) (by decide) ?_
    refine ob_aload d_Handler_failureOf_249 rfl ?_
    refine ob_push d_Handler_failureOf_250 ?_
    refine ob_push d_Handler_failureOf_251 ?_
    obtain ⟨x38, D36, h37, h⟩ := ob_bd_e h
    refine ob_callVi (As := [.int (0 : Int32), .int (1 : Int32)]) (rest := []) d_Handler_failureOf_252 c_Handler_failureOf_187 hp_v0 rfl rfl (Nat.le_of_ble_eq_true rfl) (c_Handler_data hp_v0 h37) ⟨Nat.le_refl _, Nat.le_refl _⟩ ⟨Nat.le_refl _, Nat.le_refl _⟩ ?_
    obtain ⟨x41, D39, h40, h⟩ := ob_bd_e h
    refine ob_callSi (As := [.int x38]) (rest := []) d_Handler_failureOf_255 c_Handler_failureOf_190 rfl rfl (Nat.le_of_ble_eq_true rfl) (c_Events_isThere  h40) ⟨Nat.le_refl _, Nat.le_refl _⟩ ⟨Nat.le_refl _, Nat.le_refl _⟩ ?_
    refine ob_if_eq d_Handler_failureOf_258 (fun hc => ?_) (fun hc => ?_)
    · replace h := ob_ift hc h
      refine ob_push d_Handler_failureOf_265 ?_
      exact ob_ie h (ob_iret d_Handler_failureOf_267 rfl rfl)
    · replace h := ob_iff hc h
      refine ob_push d_Handler_failureOf_261 ?_
      refine ob_goto d_Handler_failureOf_262 ?_
      exact ob_ie h (ob_iret d_Handler_failureOf_267 rfl rfl)
  replace h := ob_iff hs42 h
  by_cases hs49 : v1 = (1538 : Int32)
  · replace h := ob_ift hs49 h
    refine ob_lku (off := 267) (t := 268) d_Handler_failureOf_1 (by decide +kernel) (by rw [hs49]; decide +kernel) (by decide) ?_
    refine ob_aload d_Handler_failureOf_268 rfl ?_
    refine ob_aload d_Handler_failureOf_269 rfl ?_
    refine ob_push d_Handler_failureOf_270 ?_
    refine ob_push d_Handler_failureOf_271 ?_
    obtain ⟨x45, D43, h44, h⟩ := ob_bd_e h
    refine ob_callVi (As := [.int (2 : Int32), .int (1 : Int32)]) (rest := [.ref v0]) d_Handler_failureOf_272 c_Handler_failureOf_187 hp_v0 rfl rfl (Nat.le_of_ble_eq_true rfl) (c_Handler_data hp_v0 h44) ⟨Nat.le_refl _, Nat.le_refl _⟩ ⟨Nat.le_refl _, Nat.le_refl _⟩ ?_
    obtain ⟨x48, D46, h47, h⟩ := ob_bd_e h
    refine ob_callVi (As := [.int x45]) (rest := []) d_Handler_failureOf_275 c_Handler_failureOf_193 hp_v0 rfl rfl (Nat.le_of_ble_eq_true rfl) (c_Handler_placeFailure hp_v0 h47) ⟨Nat.le_refl _, Nat.le_refl _⟩ ⟨Nat.le_refl _, Nat.le_refl _⟩ ?_
    exact ob_ie h (ob_iret d_Handler_failureOf_278 rfl rfl)
  replace h := ob_iff hs49 h
  by_cases hs56 : v1 = (1541 : Int32)
  · replace h := ob_ift hs56 h
    refine ob_lku (off := 267) (t := 268) d_Handler_failureOf_1 (by decide +kernel) (by rw [hs56]; decide +kernel) (by decide) ?_
    refine ob_aload d_Handler_failureOf_268 rfl ?_
    refine ob_aload d_Handler_failureOf_269 rfl ?_
    refine ob_push d_Handler_failureOf_270 ?_
    refine ob_push d_Handler_failureOf_271 ?_
    obtain ⟨x52, D50, h51, h⟩ := ob_bd_e h
    refine ob_callVi (As := [.int (2 : Int32), .int (1 : Int32)]) (rest := [.ref v0]) d_Handler_failureOf_272 c_Handler_failureOf_187 hp_v0 rfl rfl (Nat.le_of_ble_eq_true rfl) (c_Handler_data hp_v0 h51) ⟨Nat.le_refl _, Nat.le_refl _⟩ ⟨Nat.le_refl _, Nat.le_refl _⟩ ?_
    obtain ⟨x55, D53, h54, h⟩ := ob_bd_e h
    refine ob_callVi (As := [.int x52]) (rest := []) d_Handler_failureOf_275 c_Handler_failureOf_193 hp_v0 rfl rfl (Nat.le_of_ble_eq_true rfl) (c_Handler_placeFailure hp_v0 h54) ⟨Nat.le_refl _, Nat.le_refl _⟩ ⟨Nat.le_refl _, Nat.le_refl _⟩ ?_
    exact ob_ie h (ob_iret d_Handler_failureOf_278 rfl rfl)
  replace h := ob_iff hs56 h
  by_cases hs63 : v1 = (1545 : Int32)
  · replace h := ob_ift hs63 h
    refine ob_lku (off := 278) (t := 279) d_Handler_failureOf_1 (by decide +kernel) (by rw [hs63]; decide +kernel) (by decide) ?_
    refine ob_aload d_Handler_failureOf_279 rfl ?_
    refine ob_aload d_Handler_failureOf_280 rfl ?_
    refine ob_push d_Handler_failureOf_281 ?_
    refine ob_push d_Handler_failureOf_282 ?_
    obtain ⟨x59, D57, h58, h⟩ := ob_bd_e h
    refine ob_callVi (As := [.int (2 : Int32), .int (2 : Int32)]) (rest := [.ref v0]) d_Handler_failureOf_283 c_Handler_failureOf_187 hp_v0 rfl rfl (Nat.le_of_ble_eq_true rfl) (c_Handler_data hp_v0 h58) ⟨Nat.le_refl _, Nat.le_refl _⟩ ⟨Nat.le_refl _, Nat.le_refl _⟩ ?_
    obtain ⟨x62, D60, h61, h⟩ := ob_bd_e h
    refine ob_callVi (As := [.int x59]) (rest := []) d_Handler_failureOf_286 c_Handler_failureOf_193 hp_v0 rfl rfl (Nat.le_of_ble_eq_true rfl) (c_Handler_placeFailure hp_v0 h61) ⟨Nat.le_refl _, Nat.le_refl _⟩ ⟨Nat.le_refl _, Nat.le_refl _⟩ ?_
    exact ob_ie h (ob_iret d_Handler_failureOf_289 rfl rfl)
  replace h := ob_iff hs63 h
  by_cases hs73 : v1 = (2049 : Int32)
  · replace h := ob_ift hs73 h
    refine ob_lku (off := 289) (t := 290) d_Handler_failureOf_1 (by decide +kernel) (by rw [hs73]; decide +kernel) (by decide) ?_
    refine ob_aload d_Handler_failureOf_290 rfl ?_
    refine ob_aload d_Handler_failureOf_291 rfl ?_
    refine ob_push d_Handler_failureOf_292 ?_
    refine ob_push d_Handler_failureOf_293 ?_
    obtain ⟨x66, D64, h65, h⟩ := ob_bd_e h
    refine ob_callVi (As := [.int (0 : Int32), .int (1 : Int32)]) (rest := [.ref v0]) d_Handler_failureOf_294 c_Handler_failureOf_187 hp_v0 rfl rfl (Nat.le_of_ble_eq_true rfl) (c_Handler_data hp_v0 h65) ⟨Nat.le_refl _, Nat.le_refl _⟩ ⟨Nat.le_refl _, Nat.le_refl _⟩ ?_
    refine ob_aload d_Handler_failureOf_297 rfl ?_
    refine ob_push d_Handler_failureOf_298 ?_
    refine ob_push d_Handler_failureOf_299 ?_
    obtain ⟨x69, D67, h68, h⟩ := ob_bd_e h
    refine ob_callVi (As := [.int (1 : Int32), .int (1 : Int32)]) (rest := [.int x66, .ref v0]) d_Handler_failureOf_300 c_Handler_failureOf_187 hp_v0 rfl rfl (Nat.le_of_ble_eq_true rfl) (c_Handler_data hp_v0 h68) ⟨Nat.le_refl _, Nat.le_refl _⟩ ⟨Nat.le_refl _, Nat.le_refl _⟩ ?_
    obtain ⟨x72, D70, h71, h⟩ := ob_bd_e h
    refine ob_callVi (As := [.int x66, .int x69]) (rest := []) d_Handler_failureOf_303 c_Handler_failureOf_196 hp_v0 rfl rfl (Nat.le_of_ble_eq_true rfl) (c_Handler_functionFailure hp_v0 h71) ⟨Nat.le_refl _, Nat.le_refl _⟩ ⟨Nat.le_refl _, Nat.le_refl _⟩ ?_
    exact ob_ie h (ob_iret d_Handler_failureOf_306 rfl rfl)
  replace h := ob_iff hs73 h
  by_cases hs77 : v1 = (2820 : Int32)
  · replace h := ob_ift hs77 h
    refine ob_lku (off := 306) (t := 307) d_Handler_failureOf_1 (by decide +kernel) (by rw [hs77]; decide +kernel) (by decide) ?_
    refine ob_aload d_Handler_failureOf_307 rfl ?_
    obtain ⟨x76, D74, h75, h⟩ := ob_bd_e h
    refine ob_callVi (As := []) (rest := []) d_Handler_failureOf_308 c_Handler_failureOf_199 hp_v0 rfl rfl (Nat.le_of_ble_eq_true rfl) (c_Handler_newEntryFailure hp_v0 h75) ⟨Nat.le_refl _, Nat.le_refl _⟩ ⟨Nat.le_refl _, Nat.le_refl _⟩ ?_
    exact ob_ie h (ob_iret d_Handler_failureOf_311 rfl rfl)
  replace h := ob_iff hs77 h
  by_cases hs86 : v1 = (2821 : Int32)
  · replace h := ob_ift hs86 h
    refine ob_lku (off := 311) (t := 312) d_Handler_failureOf_1 (by decide +kernel) (by rw [hs86]; decide +kernel) (by decide) ?_
    refine ob_aload d_Handler_failureOf_312 rfl ?_
    obtain ⟨hg79, h⟩ := ob_gd h
    refine ob_getR d_Handler_failureOf_313 F_11_2 l_Handler_26 hp_v0 hg79 (fun hk78 => ?_)
    refine ob_aload d_Handler_failureOf_316 rfl ?_
    refine ob_push d_Handler_failureOf_317 ?_
    refine ob_push d_Handler_failureOf_318 ?_
    obtain ⟨x82, D80, h81, h⟩ := ob_bd_e h
    refine ob_callVi (As := [.int (0 : Int32), .int (2 : Int32)]) (rest := [.ref (D.2.1 v0 2)]) d_Handler_failureOf_319 c_Handler_failureOf_187 hp_v0 rfl rfl (Nat.le_of_ble_eq_true rfl) (c_Handler_data hp_v0 h81) ⟨Nat.le_refl _, Nat.le_refl _⟩ ⟨Nat.le_refl _, Nat.le_refl _⟩ ?_
    refine ob_push d_Handler_failureOf_322 ?_
    refine ob_iand d_Handler_failureOf_325 ?_
    obtain ⟨x85, D83, h84, h⟩ := ob_bd_e h
    refine ob_callVi (As := [.int (x82 &&& (16383 : Int32))]) (rest := []) d_Handler_failureOf_326 c_Handler_failureOf_202 hk78 rfl rfl (Nat.le_of_ble_eq_true rfl) (c_Timetable_has hk78 h84) ⟨Nat.le_refl _, Nat.le_refl _⟩ ⟨Nat.le_refl _, Nat.le_refl _⟩ ?_
    refine ob_if_eq d_Handler_failureOf_329 (fun hc => ?_) (fun hc => ?_)
    · replace h := ob_ift hc h
      refine ob_push d_Handler_failureOf_336 ?_
      exact ob_ie h (ob_iret d_Handler_failureOf_338 rfl rfl)
    · replace h := ob_iff hc h
      refine ob_push d_Handler_failureOf_332 ?_
      refine ob_goto d_Handler_failureOf_333 ?_
      exact ob_ie h (ob_iret d_Handler_failureOf_338 rfl rfl)
  replace h := ob_iff hs86 h
  by_cases hs97 : v1 = (2831 : Int32)
  · replace h := ob_ift hs97 h
    refine ob_lku (off := 338) (t := 339) d_Handler_failureOf_1 (by decide +kernel) (by rw [hs97]; decide +kernel) (by decide) ?_
    refine ob_aload d_Handler_failureOf_339 rfl ?_
    obtain ⟨hg88, h⟩ := ob_gd h
    refine ob_getR d_Handler_failureOf_340 F_11_2 l_Handler_26 hp_v0 hg88 (fun hk87 => ?_)
    refine ob_aload d_Handler_failureOf_343 rfl ?_
    refine ob_push d_Handler_failureOf_344 ?_
    refine ob_push d_Handler_failureOf_345 ?_
    obtain ⟨x91, D89, h90, h⟩ := ob_bd_e h
    refine ob_callVi (As := [.int (0 : Int32), .int (4 : Int32)]) (rest := [.ref (D.2.1 v0 2)]) d_Handler_failureOf_346 c_Handler_failureOf_187 hp_v0 rfl rfl (Nat.le_of_ble_eq_true rfl) (c_Handler_data hp_v0 h90) ⟨Nat.le_refl _, Nat.le_refl _⟩ ⟨Nat.le_refl _, Nat.le_refl _⟩ ?_
    refine ob_aload d_Handler_failureOf_349 rfl ?_
    obtain ⟨hg93, h⟩ := ob_gd h
    refine ob_getR d_Handler_failureOf_350 F_11_0 l_Handler_9 hp_v0 hg93 (fun hk92 => ?_)
    refine ob_getI d_Handler_failureOf_353 F_10_8 l_Handler_58 hk92 ?_
    obtain ⟨x96, D94, h95, h⟩ := ob_bd_e h
    refine ob_callVi (As := [.int x91, .int (D89.1 (D89.2.1 v0 0) 8)]) (rest := []) d_Handler_failureOf_356 c_Handler_failureOf_205 hk87 rfl rfl (Nat.le_of_ble_eq_true rfl) (c_Timetable_canShift hk87 h95) ⟨Nat.le_refl _, Nat.le_refl _⟩ ⟨Nat.le_refl _, Nat.le_refl _⟩ ?_
    refine ob_if_eq d_Handler_failureOf_359 (fun hc => ?_) (fun hc => ?_)
    · replace h := ob_ift hc h
      refine ob_push d_Handler_failureOf_366 ?_
      exact ob_ie h (ob_iret d_Handler_failureOf_368 rfl rfl)
    · replace h := ob_iff hc h
      refine ob_push d_Handler_failureOf_362 ?_
      refine ob_goto d_Handler_failureOf_363 ?_
      exact ob_ie h (ob_iret d_Handler_failureOf_368 rfl rfl)
  replace h := ob_iff hs97 h
  by_cases hs103 : v1 = (3073 : Int32)
  · replace h := ob_ift hs103 h
    refine ob_lku (off := 368) (t := 369) d_Handler_failureOf_1 (by decide +kernel) (by rw [hs103]; decide +kernel) (by decide) ?_
    refine ob_aload d_Handler_failureOf_369 rfl ?_
    refine ob_aload d_Handler_failureOf_370 rfl ?_
    obtain ⟨hg99, h⟩ := ob_gd h
    refine ob_getR d_Handler_failureOf_371 F_11_6 l_Handler_41 hp_v0 hg99 (fun hk98 => ?_)
    refine ob_push d_Handler_failureOf_374 ?_
    refine ob_push d_Handler_failureOf_376 ?_
    obtain ⟨x102, D100, h101, h⟩ := ob_bd_e h
    refine ob_callVi (As := [.ref (D.2.1 v0 6), .int (27 : Int32), .int (0 : Int32)]) (rest := []) d_Handler_failureOf_377 c_Handler_failureOf_183 hp_v0 rfl rfl (Nat.le_of_ble_eq_true rfl) (c_Handler_lineFailure hp_v0 hk98 h101) ⟨Nat.le_refl _, Nat.le_refl _⟩ ⟨Nat.le_refl _, Nat.le_refl _⟩ ?_
    exact ob_ie h (ob_iret d_Handler_failureOf_380 rfl rfl)
  replace h := ob_iff hs103 h
  by_cases hs109 : v1 = (3074 : Int32)
  · replace h := ob_ift hs109 h
    refine ob_lku (off := 368) (t := 369) d_Handler_failureOf_1 (by decide +kernel) (by rw [hs109]; decide +kernel) (by decide) ?_
    refine ob_aload d_Handler_failureOf_369 rfl ?_
    refine ob_aload d_Handler_failureOf_370 rfl ?_
    obtain ⟨hg105, h⟩ := ob_gd h
    refine ob_getR d_Handler_failureOf_371 F_11_6 l_Handler_41 hp_v0 hg105 (fun hk104 => ?_)
    refine ob_push d_Handler_failureOf_374 ?_
    refine ob_push d_Handler_failureOf_376 ?_
    obtain ⟨x108, D106, h107, h⟩ := ob_bd_e h
    refine ob_callVi (As := [.ref (D.2.1 v0 6), .int (27 : Int32), .int (0 : Int32)]) (rest := []) d_Handler_failureOf_377 c_Handler_failureOf_183 hp_v0 rfl rfl (Nat.le_of_ble_eq_true rfl) (c_Handler_lineFailure hp_v0 hk104 h107) ⟨Nat.le_refl _, Nat.le_refl _⟩ ⟨Nat.le_refl _, Nat.le_refl _⟩ ?_
    exact ob_ie h (ob_iret d_Handler_failureOf_380 rfl rfl)
  replace h := ob_iff hs109 h
  by_cases hs113 : v1 = (3077 : Int32)
  · replace h := ob_ift hs113 h
    refine ob_lku (off := 380) (t := 381) d_Handler_failureOf_1 (by decide +kernel) (by rw [hs113]; decide +kernel) (by decide) ?_
    refine ob_aload d_Handler_failureOf_381 rfl ?_
    obtain ⟨x112, D110, h111, h⟩ := ob_bd_e h
    refine ob_callVi (As := []) (rest := []) d_Handler_failureOf_382 c_Handler_failureOf_209 hp_v0 rfl rfl (Nat.le_of_ble_eq_true rfl) (c_Handler_newLimitFailure hp_v0 h111) ⟨Nat.le_refl _, Nat.le_refl _⟩ ⟨Nat.le_refl _, Nat.le_refl _⟩ ?_
    exact ob_ie h (ob_iret d_Handler_failureOf_385 rfl rfl)
  replace h := ob_iff hs113 h
  by_cases hs119 : v1 = (3078 : Int32)
  · replace h := ob_ift hs119 h
    refine ob_lku (off := 385) (t := 386) d_Handler_failureOf_1 (by decide +kernel) (by rw [hs119]; decide +kernel) (by decide) ?_
    refine ob_aload d_Handler_failureOf_386 rfl ?_
    refine ob_aload d_Handler_failureOf_387 rfl ?_
    obtain ⟨hg115, h⟩ := ob_gd h
    refine ob_getR d_Handler_failureOf_388 F_11_6 l_Handler_41 hp_v0 hg115 (fun hk114 => ?_)
    refine ob_push d_Handler_failureOf_391 ?_
    refine ob_push d_Handler_failureOf_393 ?_
    obtain ⟨x118, D116, h117, h⟩ := ob_bd_e h
    refine ob_callVi (As := [.ref (D.2.1 v0 6), .int (27 : Int32), .int (1 : Int32)]) (rest := []) d_Handler_failureOf_394 c_Handler_failureOf_183 hp_v0 rfl rfl (Nat.le_of_ble_eq_true rfl) (c_Handler_lineFailure hp_v0 hk114 h117) ⟨Nat.le_refl _, Nat.le_refl _⟩ ⟨Nat.le_refl _, Nat.le_refl _⟩ ?_
    exact ob_ie h (ob_iret d_Handler_failureOf_397 rfl rfl)
  replace h := ob_iff hs119 h
  by_cases hs126 : v1 = (3841 : Int32)
  · replace h := ob_ift hs126 h
    refine ob_lku (off := 397) (t := 398) d_Handler_failureOf_1 (by decide +kernel) (by rw [hs126]; decide +kernel) (by decide) ?_
    refine ob_aload d_Handler_failureOf_398 rfl ?_
    refine ob_push d_Handler_failureOf_399 ?_
    refine ob_push d_Handler_failureOf_400 ?_
    obtain ⟨x122, D120, h121, h⟩ := ob_bd_e h
    refine ob_callVi (As := [.int (0 : Int32), .int (1 : Int32)]) (rest := []) d_Handler_failureOf_401 c_Handler_failureOf_187 hp_v0 rfl rfl (Nat.le_of_ble_eq_true rfl) (c_Handler_data hp_v0 h121) ⟨Nat.le_refl _, Nat.le_refl _⟩ ⟨Nat.le_refl _, Nat.le_refl _⟩ ?_
    obtain ⟨x125, D123, h124, h⟩ := ob_bd_e h
    refine ob_callSi (As := [.int x122]) (rest := []) d_Handler_failureOf_404 c_Handler_failureOf_212 rfl rfl (Nat.le_of_ble_eq_true rfl) (c_Reports_isService  h124) ⟨Nat.le_refl _, Nat.le_refl _⟩ ⟨Nat.le_refl _, Nat.le_refl _⟩ ?_
    refine ob_if_eq d_Handler_failureOf_407 (fun hc => ?_) (fun hc => ?_)
    · replace h := ob_ift hc h
      refine ob_push d_Handler_failureOf_414 ?_
      exact ob_ie h (ob_iret d_Handler_failureOf_416 rfl rfl)
    · replace h := ob_iff hc h
      refine ob_push d_Handler_failureOf_410 ?_
      refine ob_goto d_Handler_failureOf_411 ?_
      exact ob_ie h (ob_iret d_Handler_failureOf_416 rfl rfl)
  replace h := ob_iff hs126 h
  by_cases hs133 : v1 = (3842 : Int32)
  · replace h := ob_ift hs133 h
    refine ob_lku (off := 397) (t := 398) d_Handler_failureOf_1 (by decide +kernel) (by rw [hs133]; decide +kernel) (by decide) ?_
    refine ob_aload d_Handler_failureOf_398 rfl ?_
    refine ob_push d_Handler_failureOf_399 ?_
    refine ob_push d_Handler_failureOf_400 ?_
    obtain ⟨x129, D127, h128, h⟩ := ob_bd_e h
    refine ob_callVi (As := [.int (0 : Int32), .int (1 : Int32)]) (rest := []) d_Handler_failureOf_401 c_Handler_failureOf_187 hp_v0 rfl rfl (Nat.le_of_ble_eq_true rfl) (c_Handler_data hp_v0 h128) ⟨Nat.le_refl _, Nat.le_refl _⟩ ⟨Nat.le_refl _, Nat.le_refl _⟩ ?_
    obtain ⟨x132, D130, h131, h⟩ := ob_bd_e h
    refine ob_callSi (As := [.int x129]) (rest := []) d_Handler_failureOf_404 c_Handler_failureOf_212 rfl rfl (Nat.le_of_ble_eq_true rfl) (c_Reports_isService  h131) ⟨Nat.le_refl _, Nat.le_refl _⟩ ⟨Nat.le_refl _, Nat.le_refl _⟩ ?_
    refine ob_if_eq d_Handler_failureOf_407 (fun hc => ?_) (fun hc => ?_)
    · replace h := ob_ift hc h
      refine ob_push d_Handler_failureOf_414 ?_
      exact ob_ie h (ob_iret d_Handler_failureOf_416 rfl rfl)
    · replace h := ob_iff hc h
      refine ob_push d_Handler_failureOf_410 ?_
      refine ob_goto d_Handler_failureOf_411 ?_
      exact ob_ie h (ob_iret d_Handler_failureOf_416 rfl rfl)
  replace h := ob_iff hs133 h
  by_cases hs136 : v1 = (3849 : Int32)
  · replace h := ob_ift hs136 h
    refine ob_lku (off := 416) (t := 417) d_Handler_failureOf_1 (by decide +kernel) (by rw [hs136]; decide +kernel) (by decide) ?_
    refine ob_aload d_Handler_failureOf_417 rfl ?_
    obtain ⟨hg135, h⟩ := ob_gd h
    refine ob_getR d_Handler_failureOf_418 F_11_4 l_Handler_36 hp_v0 hg135 (fun hk134 => ?_)
    refine ob_getI d_Handler_failureOf_421 F_8_8 l_Handler_215 hk134 ?_
    refine ob_if_eq d_Handler_failureOf_424 (fun hc => ?_) (fun hc => ?_)
    · replace h := ob_ift hc h
      refine ob_push d_Handler_failureOf_432 ?_
      exact ob_ie h (ob_iret d_Handler_failureOf_433 rfl rfl)
    · replace h := ob_iff hc h
      refine ob_push d_Handler_failureOf_427 ?_
      refine ob_goto d_Handler_failureOf_429 ?_
      exact ob_ie h (ob_iret d_Handler_failureOf_433 rfl rfl)
  replace h := ob_iff hs136 h
  by_cases hs139 : v1 = (3852 : Int32)
  · replace h := ob_ift hs139 h
    refine ob_lku (off := 433) (t := 434) d_Handler_failureOf_1 (by decide +kernel) (by rw [hs139]; decide +kernel) (by decide) ?_
    refine ob_aload d_Handler_failureOf_434 rfl ?_
    obtain ⟨hg138, h⟩ := ob_gd h
    refine ob_getR d_Handler_failureOf_435 F_11_4 l_Handler_36 hp_v0 hg138 (fun hk137 => ?_)
    refine ob_getI d_Handler_failureOf_438 F_8_8 l_Handler_215 hk137 ?_
    refine ob_if_eq d_Handler_failureOf_441 (fun hc => ?_) (fun hc => ?_)
    · replace h := ob_ift hc h
      refine ob_push d_Handler_failureOf_448 ?_
      exact ob_ie h (ob_iret d_Handler_failureOf_450 rfl rfl)
    · replace h := ob_iff hc h
      refine ob_push d_Handler_failureOf_444 ?_
      refine ob_goto d_Handler_failureOf_445 ?_
      exact ob_ie h (ob_iret d_Handler_failureOf_450 rfl rfl)
  replace h := ob_iff hs139 h
  by_cases hs146 : v1 = (4865 : Int32)
  · replace h := ob_ift hs146 h
    refine ob_lku (off := 450) (t := 451) d_Handler_failureOf_1 (by decide +kernel) (by rw [hs146]; decide +kernel) (by decide) ?_
    refine ob_aload d_Handler_failureOf_451 rfl ?_
    refine ob_aload d_Handler_failureOf_452 rfl ?_
    refine ob_push d_Handler_failureOf_453 ?_
    refine ob_push d_Handler_failureOf_454 ?_
    obtain ⟨x142, D140, h141, h⟩ := ob_bd_e h
    refine ob_callVi (As := [.int (0 : Int32), .int (1 : Int32)]) (rest := [.ref v0]) d_Handler_failureOf_455 c_Handler_failureOf_187 hp_v0 rfl rfl (Nat.le_of_ble_eq_true rfl) (c_Handler_data hp_v0 h141) ⟨Nat.le_refl _, Nat.le_refl _⟩ ⟨Nat.le_refl _, Nat.le_refl _⟩ ?_
    obtain ⟨x145, D143, h144, h⟩ := ob_bd_e h
    refine ob_callVi (As := [.int x142]) (rest := []) d_Handler_failureOf_458 c_Handler_failureOf_218 hp_v0 rfl rfl (Nat.le_of_ble_eq_true rfl) (c_Handler_newActionFailure hp_v0 h144) ⟨Nat.le_refl _, Nat.le_refl _⟩ ⟨Nat.le_refl _, Nat.le_refl _⟩ ?_
    exact ob_ie h (ob_iret d_Handler_failureOf_461 rfl rfl)
  replace h := ob_iff hs146 h
  by_cases hs153 : v1 = (4866 : Int32)
  · replace h := ob_ift hs153 h
    refine ob_lku (off := 461) (t := 462) d_Handler_failureOf_1 (by decide +kernel) (by rw [hs153]; decide +kernel) (by decide) ?_
    refine ob_aload d_Handler_failureOf_462 rfl ?_
    refine ob_aload d_Handler_failureOf_463 rfl ?_
    refine ob_push d_Handler_failureOf_464 ?_
    refine ob_push d_Handler_failureOf_465 ?_
    obtain ⟨x149, D147, h148, h⟩ := ob_bd_e h
    refine ob_callVi (As := [.int (0 : Int32), .int (1 : Int32)]) (rest := [.ref v0]) d_Handler_failureOf_466 c_Handler_failureOf_187 hp_v0 rfl rfl (Nat.le_of_ble_eq_true rfl) (c_Handler_data hp_v0 h148) ⟨Nat.le_refl _, Nat.le_refl _⟩ ⟨Nat.le_refl _, Nat.le_refl _⟩ ?_
    refine ob_push d_Handler_failureOf_469 ?_
    obtain ⟨x152, D150, h151, h⟩ := ob_bd_e h
    refine ob_callVi (As := [.int x149, .int (1 : Int32)]) (rest := []) d_Handler_failureOf_470 c_Handler_failureOf_221 hp_v0 rfl rfl (Nat.le_of_ble_eq_true rfl) (c_Handler_actionFailure hp_v0 h151) ⟨Nat.le_refl _, Nat.le_refl _⟩ ⟨Nat.le_refl _, Nat.le_refl _⟩ ?_
    exact ob_ie h (ob_iret d_Handler_failureOf_473 rfl rfl)
  replace h := ob_iff hs153 h
  by_cases hs160 : v1 = (4868 : Int32)
  · replace h := ob_ift hs160 h
    refine ob_lku (off := 473) (t := 474) d_Handler_failureOf_1 (by decide +kernel) (by rw [hs160]; decide +kernel) (by decide) ?_
    refine ob_aload d_Handler_failureOf_474 rfl ?_
    refine ob_aload d_Handler_failureOf_475 rfl ?_
    refine ob_push d_Handler_failureOf_476 ?_
    refine ob_push d_Handler_failureOf_477 ?_
    obtain ⟨x156, D154, h155, h⟩ := ob_bd_e h
    refine ob_callVi (As := [.int (0 : Int32), .int (1 : Int32)]) (rest := [.ref v0]) d_Handler_failureOf_478 c_Handler_failureOf_187 hp_v0 rfl rfl (Nat.le_of_ble_eq_true rfl) (c_Handler_data hp_v0 h155) ⟨Nat.le_refl _, Nat.le_refl _⟩ ⟨Nat.le_refl _, Nat.le_refl _⟩ ?_
    refine ob_push d_Handler_failureOf_481 ?_
    obtain ⟨x159, D157, h158, h⟩ := ob_bd_e h
    refine ob_callVi (As := [.int x156, .int (0 : Int32)]) (rest := []) d_Handler_failureOf_482 c_Handler_failureOf_221 hp_v0 rfl rfl (Nat.le_of_ble_eq_true rfl) (c_Handler_actionFailure hp_v0 h158) ⟨Nat.le_refl _, Nat.le_refl _⟩ ⟨Nat.le_refl _, Nat.le_refl _⟩ ?_
    exact ob_ie h (ob_iret d_Handler_failureOf_485 rfl rfl)
  replace h := ob_iff hs160 h
  by_cases hs167 : v1 = (4869 : Int32)
  · replace h := ob_ift hs167 h
    refine ob_lku (off := 473) (t := 474) d_Handler_failureOf_1 (by decide +kernel) (by rw [hs167]; decide +kernel) (by decide) ?_
    refine ob_aload d_Handler_failureOf_474 rfl ?_
    refine ob_aload d_Handler_failureOf_475 rfl ?_
    refine ob_push d_Handler_failureOf_476 ?_
    refine ob_push d_Handler_failureOf_477 ?_
    obtain ⟨x163, D161, h162, h⟩ := ob_bd_e h
    refine ob_callVi (As := [.int (0 : Int32), .int (1 : Int32)]) (rest := [.ref v0]) d_Handler_failureOf_478 c_Handler_failureOf_187 hp_v0 rfl rfl (Nat.le_of_ble_eq_true rfl) (c_Handler_data hp_v0 h162) ⟨Nat.le_refl _, Nat.le_refl _⟩ ⟨Nat.le_refl _, Nat.le_refl _⟩ ?_
    refine ob_push d_Handler_failureOf_481 ?_
    obtain ⟨x166, D164, h165, h⟩ := ob_bd_e h
    refine ob_callVi (As := [.int x163, .int (0 : Int32)]) (rest := []) d_Handler_failureOf_482 c_Handler_failureOf_221 hp_v0 rfl rfl (Nat.le_of_ble_eq_true rfl) (c_Handler_actionFailure hp_v0 h165) ⟨Nat.le_refl _, Nat.le_refl _⟩ ⟨Nat.le_refl _, Nat.le_refl _⟩ ?_
    exact ob_ie h (ob_iret d_Handler_failureOf_485 rfl rfl)
  replace h := ob_iff hs167 h
  refine ob_lku (off := 485) (t := 486) d_Handler_failureOf_1 (by decide +kernel) ((lv_osw hs4 (by decide)).trans ((lv_osw hs10 (by decide)).trans ((lv_osw hs16 (by decide)).trans ((lv_osw hs22 (by decide)).trans ((lv_osw hs28 (by decide)).trans ((lv_osw hs35 (by decide)).trans ((lv_osw hs42 (by decide)).trans ((lv_osw hs49 (by decide)).trans ((lv_osw hs56 (by decide)).trans ((lv_osw hs63 (by decide)).trans ((lv_osw hs73 (by decide)).trans ((lv_osw hs77 (by decide)).trans ((lv_osw hs86 (by decide)).trans ((lv_osw hs97 (by decide)).trans ((lv_osw hs103 (by decide)).trans ((lv_osw hs109 (by decide)).trans ((lv_osw hs113 (by decide)).trans ((lv_osw hs119 (by decide)).trans ((lv_osw hs126 (by decide)).trans ((lv_osw hs133 (by decide)).trans ((lv_osw hs136 (by decide)).trans ((lv_osw hs139 (by decide)).trans ((lv_osw hs146 (by decide)).trans ((lv_osw hs153 (by decide)).trans ((lv_osw hs160 (by decide)).trans ((lv_osw hs167 (by decide)).trans (rfl))))))))))))))))))))))))))) (by decide) ?_
  refine ob_push d_Handler_failureOf_486 ?_
  exact ob_ie h (ob_iret d_Handler_failureOf_487 rfl rfl)
-- OrbitBox$Handler.addForm()V
theorem d_Handler_addForm_5 : ob_dk k_Handler_addForm 5 6 (0 : Int32) (.iconst 0) 1 := ⟨by decide +kernel, rfl, show Int32.ofInt 0 = (0 : Int32) by decide +kernel⟩
theorem d_Handler_addForm_6 : ob_dk k_Handler_addForm 6 7 (1 : Int32) (.iconst 1) 1 := ⟨by decide +kernel, rfl, show Int32.ofInt 1 = (1 : Int32) by decide +kernel⟩
theorem d_Handler_addForm_19 : ob_dk k_Handler_addForm 19 20 (2 : Int32) (.iconst 2) 1 := ⟨by decide +kernel, rfl, show Int32.ofInt 2 = (2 : Int32) by decide +kernel⟩
theorem d_Handler_addForm_21 : ob_dk k_Handler_addForm 21 22 (1 : Int32) (.iconst 1) 1 := ⟨by decide +kernel, rfl, show Int32.ofInt 1 = (1 : Int32) by decide +kernel⟩
theorem d_Handler_addForm_22 : ob_dk k_Handler_addForm 22 23 (1 : Int32) (.iconst 1) 1 := ⟨by decide +kernel, rfl, show Int32.ofInt 1 = (1 : Int32) by decide +kernel⟩
theorem d_Handler_addForm_30 : ob_dk k_Handler_addForm 30 31 (2 : Int32) (.iconst 2) 1 := ⟨by decide +kernel, rfl, show Int32.ofInt 2 = (2 : Int32) by decide +kernel⟩
theorem d_Handler_addForm_31 : ob_dk k_Handler_addForm 31 32 (1 : Int32) (.iconst 1) 1 := ⟨by decide +kernel, rfl, show Int32.ofInt 1 = (1 : Int32) by decide +kernel⟩
theorem d_Handler_addForm_35 : ob_dk k_Handler_addForm 35 37 (8 : Int32) (.bipush 8) 2 := ⟨by decide +kernel, rfl, show (Int8.ofInt 8).toInt32 = (8 : Int32) by decide +kernel⟩
theorem d_Handler_addForm_46 : ob_dk k_Handler_addForm 46 47 (3 : Int32) (.iconst 3) 1 := ⟨by decide +kernel, rfl, show Int32.ofInt 3 = (3 : Int32) by decide +kernel⟩
theorem d_Handler_addForm_51 : ob_dk k_Handler_addForm 51 52 (0 : Int32) (.iconst 0) 1 := ⟨by decide +kernel, rfl, show Int32.ofInt 0 = (0 : Int32) by decide +kernel⟩
theorem d_Handler_addForm_83 : ob_dc k_Handler_addForm 83 (.return_) 1 84 := ⟨by decide +kernel, rfl⟩
theorem d_Handler_addForm_63 : ob_dk k_Handler_addForm 63 64 (4 : Int32) (.iconst 4) 1 := ⟨by decide +kernel, rfl, show Int32.ofInt 4 = (4 : Int32) by decide +kernel⟩
theorem d_Handler_addForm_67 : ob_dk k_Handler_addForm 67 68 (3 : Int32) (.iconst 3) 1 := ⟨by decide +kernel, rfl, show Int32.ofInt 3 = (3 : Int32) by decide +kernel⟩
theorem d_Handler_addForm_70 : ob_dk k_Handler_addForm 70 71 (1 : Int32) (.iconst 1) 1 := ⟨by decide +kernel, rfl, show Int32.ofInt 1 = (1 : Int32) by decide +kernel⟩
theorem d_Handler_addForm_77 : ob_di k_Handler_addForm 77 80 3 1 (1 : Int32) := ⟨by decide +kernel, rfl, by decide +kernel, by decide +kernel⟩
theorem d_Handler_addForm_80 : ob_db k_Handler_addForm 80 (.goto (-27)) (-27) 83 53 := ⟨by decide +kernel, rfl, by decide⟩
theorem d_Handler_addForm_74 : ob_dc k_Handler_addForm 74 (.invokevirtual 256) 3 77 := ⟨by decide +kernel, rfl⟩
theorem d_Handler_addForm_71 : ob_dc k_Handler_addForm 71 (.invokevirtual 187) 3 74 := ⟨by decide +kernel, rfl⟩
theorem d_Handler_addForm_69 : ob_dc k_Handler_addForm 69 (.iadd) 1 70 := ⟨by decide +kernel, rfl⟩
theorem d_Handler_addForm_68 : ob_dv ob_lc k_Handler_addForm 68 69 3 (.iload_n 3) 1 := ⟨by decide +kernel, rfl, rfl⟩
theorem d_Handler_addForm_66 : ob_dv ob_ac k_Handler_addForm 66 67 0 (.aload_n 0) 1 := ⟨by decide +kernel, rfl, rfl⟩
theorem d_Handler_addForm_65 : ob_dc k_Handler_addForm 65 (.iadd) 1 66 := ⟨by decide +kernel, rfl⟩
theorem d_Handler_addForm_64 : ob_dv ob_lc k_Handler_addForm 64 65 3 (.iload_n 3) 1 := ⟨by decide +kernel, rfl, rfl⟩
theorem d_Handler_addForm_62 : ob_dv ob_lc k_Handler_addForm 62 63 1 (.iload_n 1) 1 := ⟨by decide +kernel, rfl, rfl⟩
theorem d_Handler_addForm_59 : ob_dc k_Handler_addForm 59 (.getfield 37) 3 62 := ⟨by decide +kernel, rfl⟩
theorem d_Handler_addForm_58 : ob_dv ob_ac k_Handler_addForm 58 59 0 (.aload_n 0) 1 := ⟨by decide +kernel, rfl, rfl⟩
theorem d_Handler_addForm_55 : ob_db k_Handler_addForm 55 (.if_icmp .ge 28) 28 58 83 := ⟨by decide +kernel, rfl, by decide⟩
theorem d_Handler_addForm_54 : ob_dv ob_lc k_Handler_addForm 54 55 2 (.iload_n 2) 1 := ⟨by decide +kernel, rfl, rfl⟩
theorem d_Handler_addForm_53 : ob_dv ob_lc k_Handler_addForm 53 54 3 (.iload_n 3) 1 := ⟨by decide +kernel, rfl, rfl⟩
theorem d_Handler_addForm_52 : ob_dv (ob_sc k_Handler_addForm.2.2.2.1) k_Handler_addForm 52 53 3 (.istore_n 3) 1 := ⟨by decide +kernel, rfl, ⟨rfl, by decide +kernel⟩⟩
theorem d_Handler_addForm_48 : ob_dc k_Handler_addForm 48 (.invokevirtual 256) 3 51 := ⟨by decide +kernel, rfl⟩
theorem d_Handler_addForm_47 : ob_dv ob_lc k_Handler_addForm 47 48 2 (.iload_n 2) 1 := ⟨by decide +kernel, rfl, rfl⟩
theorem d_Handler_addForm_45 : ob_dv ob_lc k_Handler_addForm 45 46 1 (.iload_n 1) 1 := ⟨by decide +kernel, rfl, rfl⟩
theorem d_Handler_addForm_42 : ob_dc k_Handler_addForm 42 (.getfield 37) 3 45 := ⟨by decide +kernel, rfl⟩
theorem d_Handler_addForm_41 : ob_dv ob_ac k_Handler_addForm 41 42 0 (.aload_n 0) 1 := ⟨by decide +kernel, rfl, rfl⟩
theorem d_Handler_addForm_40 : ob_dv (ob_sc k_Handler_addForm.2.2.2.1) k_Handler_addForm 40 41 2 (.istore_n 2) 1 := ⟨by decide +kernel, rfl, ⟨rfl, by decide +kernel⟩⟩
theorem d_Handler_addForm_37 : ob_dc k_Handler_addForm 37 (.invokestatic 315) 3 40 := ⟨by decide +kernel, rfl⟩
theorem d_Handler_addForm_32 : ob_dc k_Handler_addForm 32 (.invokevirtual 187) 3 35 := ⟨by decide +kernel, rfl⟩
theorem d_Handler_addForm_29 : ob_dv ob_ac k_Handler_addForm 29 30 0 (.aload_n 0) 1 := ⟨by decide +kernel, rfl, rfl⟩
theorem d_Handler_addForm_26 : ob_dc k_Handler_addForm 26 (.invokevirtual 256) 3 29 := ⟨by decide +kernel, rfl⟩
theorem d_Handler_addForm_23 : ob_dc k_Handler_addForm 23 (.invokevirtual 187) 3 26 := ⟨by decide +kernel, rfl⟩
theorem d_Handler_addForm_20 : ob_dv ob_ac k_Handler_addForm 20 21 0 (.aload_n 0) 1 := ⟨by decide +kernel, rfl, rfl⟩
theorem d_Handler_addForm_18 : ob_dv ob_lc k_Handler_addForm 18 19 1 (.iload_n 1) 1 := ⟨by decide +kernel, rfl, rfl⟩
theorem d_Handler_addForm_15 : ob_dc k_Handler_addForm 15 (.getfield 37) 3 18 := ⟨by decide +kernel, rfl⟩
theorem d_Handler_addForm_14 : ob_dv ob_ac k_Handler_addForm 14 15 0 (.aload_n 0) 1 := ⟨by decide +kernel, rfl, rfl⟩
theorem d_Handler_addForm_13 : ob_dv (ob_sc k_Handler_addForm.2.2.2.1) k_Handler_addForm 13 14 1 (.istore_n 1) 1 := ⟨by decide +kernel, rfl, ⟨rfl, by decide +kernel⟩⟩
theorem d_Handler_addForm_10 : ob_dc k_Handler_addForm 10 (.invokevirtual 313) 3 13 := ⟨by decide +kernel, rfl⟩
theorem d_Handler_addForm_7 : ob_dc k_Handler_addForm 7 (.invokevirtual 187) 3 10 := ⟨by decide +kernel, rfl⟩
theorem d_Handler_addForm_4 : ob_dv ob_ac k_Handler_addForm 4 5 0 (.aload_n 0) 1 := ⟨by decide +kernel, rfl, rfl⟩
theorem d_Handler_addForm_1 : ob_dc k_Handler_addForm 1 (.getfield 37) 3 4 := ⟨by decide +kernel, rfl⟩
theorem d_Handler_addForm_0 : ob_dv ob_ac k_Handler_addForm 0 1 0 (.aload_n 0) 1 := ⟨by decide +kernel, rfl, rfl⟩
theorem c_Handler_addForm_256 : ob_vd k_Handler_addForm k_Table_set 256 3 7 := ⟨cw_Table_set, yd_Table_set, w_749, w_750, w_751, w_9, ⟨_, _, rfl⟩, by decide, by decide⟩
theorem c_Handler_addForm_187 : ob_vd k_Handler_addForm k_Handler_data 187 2 11 := ⟨cw_Handler_data, yd_Handler_data, w_663, w_665, wp_16, w_13, ⟨_, _, rfl⟩, by decide, by decide⟩
theorem c_Handler_addForm_313 : ob_vd k_Handler_addForm k_Table_add 313 1 7 := ⟨cw_Table_add, yd_Table_add, w_744, w_745, w_746, w_9, ⟨_, _, rfl⟩, by decide, by decide⟩
def f_Handler_addForm_L53 (S : ob_S) : Nat → Nat → Int32 → Int32 → Int32 → ob_D → Option (ob_D)
  | 0, _, _, _, _, _ => none
  | n + 1, v0, v1, v2, v3, D => (if v2 ≤ v3 then some D else if D.2.1 v0 5 ≠ 0 then ob_bd (f_Handler_data S v0 ((3 : Int32) + v3) (1 : Int32) D) fun x27 D25 => ob_bv (f_Table_set S (D.2.1 v0 5) v1 ((4 : Int32) + v3) x27 D25) fun D28 => f_Handler_addForm_L53 S n v0 v1 v2 (v3 + (1 : Int32)) D28 else none)
theorem v_Handler_addForm_L53 {l : Launch} {E : ob_E} {S : ob_S} {D' : ob_D} : ∀ (n : Nat), ∀ (v0 : Nat) (v1 : Int32) (v2 : Int32) (v3 : Int32) (D : ob_D), S.1 v0 = 12 → f_Handler_addForm_L53 S n v0 v1 v2 v3 D = some D' → ob_V l E k_Handler_addForm 53 [(0, .ref v0), (1, .int v1), (2, .int v2), (3, .int v3)] [] S D none S D' := by
  intro n
  induction n with
  | zero =>
    intro v0 v1 v2 v3 D hp_v0 h
    have h : none = some D' := h
    cases h
  | succ n ih =>
    intro v0 v1 v2 v3 D hp_v0 h
    rw [f_Handler_addForm_L53] at h
    refine ob_iload d_Handler_addForm_53 rfl ?_
    refine ob_iload d_Handler_addForm_54 rfl ?_
    refine ob_icmp_ge d_Handler_addForm_55 (fun hc => ?_) (fun hc => ?_)
    · replace h := ob_ift hc h
      exact ob_ve h (ob_vret d_Handler_addForm_83 rfl)
    · replace h := ob_iff hc h
      refine ob_aload d_Handler_addForm_58 rfl ?_
      obtain ⟨hg24, h⟩ := ob_gd h
      refine ob_getR d_Handler_addForm_59 F_11_5 l_Handler_37 hp_v0 hg24 (fun hk23 => ?_)
      refine ob_iload d_Handler_addForm_62 rfl ?_
      refine ob_push d_Handler_addForm_63 ?_
      refine ob_iload d_Handler_addForm_64 rfl ?_
      refine ob_iadd d_Handler_addForm_65 ?_
      refine ob_aload d_Handler_addForm_66 rfl ?_
      refine ob_push d_Handler_addForm_67 ?_
      refine ob_iload d_Handler_addForm_68 rfl ?_
      refine ob_iadd d_Handler_addForm_69 ?_
      refine ob_push d_Handler_addForm_70 ?_
      obtain ⟨x27, D25, h26, h⟩ := ob_bd_e h
      refine ob_callVi (As := [.int ((3 : Int32) + v3), .int (1 : Int32)]) (rest := [.int ((4 : Int32) + v3), .int v1, .ref (D.2.1 v0 5)]) d_Handler_addForm_71 c_Handler_addForm_187 hp_v0 rfl rfl (Nat.le_of_ble_eq_true rfl) (c_Handler_data hp_v0 h26) ⟨Nat.le_refl _, Nat.le_refl _⟩ ⟨Nat.le_refl _, Nat.le_refl _⟩ ?_
      obtain ⟨D28, h29, h⟩ := ob_bv_e h
      refine ob_callVv (As := [.int v1, .int ((4 : Int32) + v3), .int x27]) (rest := []) d_Handler_addForm_74 c_Handler_addForm_256 hk23 rfl rfl (Nat.le_of_ble_eq_true rfl) (c_Table_set hk23 h29) ⟨Nat.le_refl _, Nat.le_refl _⟩ ⟨Nat.le_refl _, Nat.le_refl _⟩ ?_
      refine ob_iinc (lo2 := [(0, .ref v0), (1, .int v1), (2, .int v2), (3, .int (v3 + (1 : Int32)))]) d_Handler_addForm_77 rfl rfl ?_
      refine ob_goto d_Handler_addForm_80 ?_
      exact ih v0 v1 v2 (v3 + (1 : Int32)) D28 hp_v0 h
def f_Handler_addForm (S : ob_S) (v0 : Nat) (D : ob_D) : Option (ob_D) :=
  if D.2.1 v0 5 ≠ 0 then ob_bd (f_Handler_data S v0 (0 : Int32) (1 : Int32) D) fun x5 D3 => ob_bd (f_Table_add S (D.2.1 v0 5) x5 D3) fun x8 D6 => if D6.2.1 v0 5 ≠ 0 then ob_bd (f_Handler_data S v0 (1 : Int32) (1 : Int32) D6) fun x13 D11 => ob_bv (f_Table_set S (D6.2.1 v0 5) x8 (2 : Int32) x13 D11) fun D14 => ob_bd (f_Handler_data S v0 (2 : Int32) (1 : Int32) D14) fun x18 D16 => if D16.2.1 v0 5 ≠ 0 then ob_bv (f_Table_set S (D16.2.1 v0 5) x8 (3 : Int32) (ob_mn x18 (8 : Int32)) D16) fun D21 => f_Handler_addForm_L53 S ob_FU v0 x8 (ob_mn x18 (8 : Int32)) (0 : Int32) D21 else none else none else none
theorem c_Handler_addForm {l : Launch} {E : ob_E} {S : ob_S} {D : ob_D} {v0 : Nat} {D' : ob_D} (hp_v0 : S.1 v0 = 12) (h : f_Handler_addForm S v0 D = some D') : ob_M l E k_Handler_addForm [.ref v0] S D none S D' := by
  refine ob_ofV (lo := [(0, .ref v0)]) (by decide) rfl (Nat.le_of_ble_eq_true rfl) rfl (Nat.le_refl _) (Nat.le_refl _) ?_
  rw [f_Handler_addForm] at h
  refine ob_aload d_Handler_addForm_0 rfl ?_
  obtain ⟨hg2, h⟩ := ob_gd h
  refine ob_getR d_Handler_addForm_1 F_11_5 l_Handler_37 hp_v0 hg2 (fun hk1 => ?_)
  refine ob_aload d_Handler_addForm_4 rfl ?_
  refine ob_push d_Handler_addForm_5 ?_
  refine ob_push d_Handler_addForm_6 ?_
  obtain ⟨x5, D3, h4, h⟩ := ob_bd_e h
  refine ob_callVi (As := [.int (0 : Int32), .int (1 : Int32)]) (rest := [.ref (D.2.1 v0 5)]) d_Handler_addForm_7 c_Handler_addForm_187 hp_v0 rfl rfl (Nat.le_of_ble_eq_true rfl) (c_Handler_data hp_v0 h4) ⟨Nat.le_refl _, Nat.le_refl _⟩ ⟨Nat.le_refl _, Nat.le_refl _⟩ ?_
  obtain ⟨x8, D6, h7, h⟩ := ob_bd_e h
  refine ob_callVi (As := [.int x5]) (rest := []) d_Handler_addForm_10 c_Handler_addForm_313 hk1 rfl rfl (Nat.le_of_ble_eq_true rfl) (c_Table_add hk1 h7) ⟨Nat.le_refl _, Nat.le_refl _⟩ ⟨Nat.le_refl _, Nat.le_refl _⟩ ?_
  refine ob_istore (lo2 := [(0, .ref v0), (1, .int x8)]) d_Handler_addForm_13 rfl ?_
  refine ob_aload d_Handler_addForm_14 rfl ?_
  obtain ⟨hg10, h⟩ := ob_gd h
  refine ob_getR d_Handler_addForm_15 F_11_5 l_Handler_37 hp_v0 hg10 (fun hk9 => ?_)
  refine ob_iload d_Handler_addForm_18 rfl ?_
  refine ob_push d_Handler_addForm_19 ?_
  refine ob_aload d_Handler_addForm_20 rfl ?_
  refine ob_push d_Handler_addForm_21 ?_
  refine ob_push d_Handler_addForm_22 ?_
  obtain ⟨x13, D11, h12, h⟩ := ob_bd_e h
  refine ob_callVi (As := [.int (1 : Int32), .int (1 : Int32)]) (rest := [.int (2 : Int32), .int x8, .ref (D6.2.1 v0 5)]) d_Handler_addForm_23 c_Handler_addForm_187 hp_v0 rfl rfl (Nat.le_of_ble_eq_true rfl) (c_Handler_data hp_v0 h12) ⟨Nat.le_refl _, Nat.le_refl _⟩ ⟨Nat.le_refl _, Nat.le_refl _⟩ ?_
  obtain ⟨D14, h15, h⟩ := ob_bv_e h
  refine ob_callVv (As := [.int x8, .int (2 : Int32), .int x13]) (rest := []) d_Handler_addForm_26 c_Handler_addForm_256 hk9 rfl rfl (Nat.le_of_ble_eq_true rfl) (c_Table_set hk9 h15) ⟨Nat.le_refl _, Nat.le_refl _⟩ ⟨Nat.le_refl _, Nat.le_refl _⟩ ?_
  refine ob_aload d_Handler_addForm_29 rfl ?_
  refine ob_push d_Handler_addForm_30 ?_
  refine ob_push d_Handler_addForm_31 ?_
  obtain ⟨x18, D16, h17, h⟩ := ob_bd_e h
  refine ob_callVi (As := [.int (2 : Int32), .int (1 : Int32)]) (rest := []) d_Handler_addForm_32 c_Handler_addForm_187 hp_v0 rfl rfl (Nat.le_of_ble_eq_true rfl) (c_Handler_data hp_v0 h17) ⟨Nat.le_refl _, Nat.le_refl _⟩ ⟨Nat.le_refl _, Nat.le_refl _⟩ ?_
  refine ob_push d_Handler_addForm_35 ?_
  refine ob_mmin d_Handler_addForm_37 w_753 w_137 w_6 w_138 (by decide) (Nat.le_of_ble_eq_true rfl) ⟨Nat.le_refl _, Nat.le_refl _⟩ ?_
  refine ob_istore (lo2 := [(0, .ref v0), (1, .int x8), (2, .int (ob_mn x18 (8 : Int32)))]) d_Handler_addForm_40 rfl ?_
  refine ob_aload d_Handler_addForm_41 rfl ?_
  obtain ⟨hg20, h⟩ := ob_gd h
  refine ob_getR d_Handler_addForm_42 F_11_5 l_Handler_37 hp_v0 hg20 (fun hk19 => ?_)
  refine ob_iload d_Handler_addForm_45 rfl ?_
  refine ob_push d_Handler_addForm_46 ?_
  refine ob_iload d_Handler_addForm_47 rfl ?_
  obtain ⟨D21, h22, h⟩ := ob_bv_e h
  refine ob_callVv (As := [.int x8, .int (3 : Int32), .int (ob_mn x18 (8 : Int32))]) (rest := []) d_Handler_addForm_48 c_Handler_addForm_256 hk19 rfl rfl (Nat.le_of_ble_eq_true rfl) (c_Table_set hk19 h22) ⟨Nat.le_refl _, Nat.le_refl _⟩ ⟨Nat.le_refl _, Nat.le_refl _⟩ ?_
  refine ob_push d_Handler_addForm_51 ?_
  refine ob_istore (lo2 := [(0, .ref v0), (1, .int x8), (2, .int (ob_mn x18 (8 : Int32))), (3, .int (0 : Int32))]) d_Handler_addForm_52 rfl ?_
  exact v_Handler_addForm_L53 ob_FU v0 x8 (ob_mn x18 (8 : Int32)) (0 : Int32) D21 hp_v0 h
-- OrbitBox$Handler.sendForm(I)V
theorem d_Handler_sendForm_4 : ob_dk k_Handler_sendForm 4 5 (3 : Int32) (.iconst 3) 1 := ⟨by decide +kernel, rfl, show Int32.ofInt 3 = (3 : Int32) by decide +kernel⟩
theorem d_Handler_sendForm_5 : ob_dk k_Handler_sendForm 5 7 (25 : Int32) (.bipush 25) 2 := ⟨by decide +kernel, rfl, show (Int8.ofInt 25).toInt32 = (25 : Int32) by decide +kernel⟩
theorem d_Handler_sendForm_24 : ob_dk k_Handler_sendForm 24 25 (0 : Int32) (.iconst 0) 1 := ⟨by decide +kernel, rfl, show Int32.ofInt 0 = (0 : Int32) by decide +kernel⟩
theorem d_Handler_sendForm_28 : ob_dk k_Handler_sendForm 28 29 (1 : Int32) (.iconst 1) 1 := ⟨by decide +kernel, rfl, show Int32.ofInt 1 = (1 : Int32) by decide +kernel⟩
theorem d_Handler_sendForm_37 : ob_dk k_Handler_sendForm 37 38 (3 : Int32) (.iconst 3) 1 := ⟨by decide +kernel, rfl, show Int32.ofInt 3 = (3 : Int32) by decide +kernel⟩
theorem d_Handler_sendForm_42 : ob_dk k_Handler_sendForm 42 43 (0 : Int32) (.iconst 0) 1 := ⟨by decide +kernel, rfl, show Int32.ofInt 0 = (0 : Int32) by decide +kernel⟩
theorem d_Handler_sendForm_88 : ob_dc k_Handler_sendForm 88 (.return_) 1 89 := ⟨by decide +kernel, rfl⟩
theorem d_Handler_sendForm_85 : ob_dc k_Handler_sendForm 85 (.invokevirtual 124) 3 88 := ⟨by decide +kernel, rfl⟩
theorem d_Handler_sendForm_82 : ob_dc k_Handler_sendForm 82 (.getfield 36) 3 85 := ⟨by decide +kernel, rfl⟩
theorem d_Handler_sendForm_81 : ob_dv ob_ac k_Handler_sendForm 81 82 0 (.aload_n 0) 1 := ⟨by decide +kernel, rfl, rfl⟩
theorem d_Handler_sendForm_61 : ob_dk k_Handler_sendForm 61 62 (4 : Int32) (.iconst 4) 1 := ⟨by decide +kernel, rfl, show Int32.ofInt 4 = (4 : Int32) by decide +kernel⟩
theorem d_Handler_sendForm_71 : ob_dk k_Handler_sendForm 71 72 (4 : Int32) (.iconst 4) 1 := ⟨by decide +kernel, rfl, show Int32.ofInt 4 = (4 : Int32) by decide +kernel⟩
theorem d_Handler_sendForm_75 : ob_di k_Handler_sendForm 75 78 4 1 (1 : Int32) := ⟨by decide +kernel, rfl, by decide +kernel, by decide +kernel⟩
theorem d_Handler_sendForm_78 : ob_db k_Handler_sendForm 78 (.goto (-33)) (-33) 81 45 := ⟨by decide +kernel, rfl, by decide⟩
theorem d_Handler_sendForm_72 : ob_dc k_Handler_sendForm 72 (.invokevirtual 121) 3 75 := ⟨by decide +kernel, rfl⟩
theorem d_Handler_sendForm_68 : ob_dc k_Handler_sendForm 68 (.invokevirtual 320) 3 71 := ⟨by decide +kernel, rfl⟩
theorem d_Handler_sendForm_65 : ob_dc k_Handler_sendForm 65 (.invokevirtual 130) 3 68 := ⟨by decide +kernel, rfl⟩
theorem d_Handler_sendForm_64 : ob_dc k_Handler_sendForm 64 (.iadd) 1 65 := ⟨by decide +kernel, rfl⟩
theorem d_Handler_sendForm_62 : ob_dv ob_lc k_Handler_sendForm 62 64 4 (.iload 4) 2 := ⟨by decide +kernel, rfl, rfl⟩
theorem d_Handler_sendForm_60 : ob_dv ob_lc k_Handler_sendForm 60 61 1 (.iload_n 1) 1 := ⟨by decide +kernel, rfl, rfl⟩
theorem d_Handler_sendForm_57 : ob_dc k_Handler_sendForm 57 (.getfield 37) 3 60 := ⟨by decide +kernel, rfl⟩
theorem d_Handler_sendForm_56 : ob_dv ob_ac k_Handler_sendForm 56 57 0 (.aload_n 0) 1 := ⟨by decide +kernel, rfl, rfl⟩
theorem d_Handler_sendForm_53 : ob_dc k_Handler_sendForm 53 (.getfield 9) 3 56 := ⟨by decide +kernel, rfl⟩
theorem d_Handler_sendForm_52 : ob_dv ob_ac k_Handler_sendForm 52 53 0 (.aload_n 0) 1 := ⟨by decide +kernel, rfl, rfl⟩
theorem d_Handler_sendForm_51 : ob_dv ob_ac k_Handler_sendForm 51 52 2 (.aload_n 2) 1 := ⟨by decide +kernel, rfl, rfl⟩
theorem d_Handler_sendForm_48 : ob_db k_Handler_sendForm 48 (.if_icmp .ge 33) 33 51 81 := ⟨by decide +kernel, rfl, by decide⟩
theorem d_Handler_sendForm_47 : ob_dv ob_lc k_Handler_sendForm 47 48 3 (.iload_n 3) 1 := ⟨by decide +kernel, rfl, rfl⟩
theorem d_Handler_sendForm_45 : ob_dv ob_lc k_Handler_sendForm 45 47 4 (.iload 4) 2 := ⟨by decide +kernel, rfl, rfl⟩
theorem d_Handler_sendForm_43 : ob_dv (ob_sc k_Handler_sendForm.2.2.2.1) k_Handler_sendForm 43 45 4 (.istore 4) 2 := ⟨by decide +kernel, rfl, ⟨rfl, by decide +kernel⟩⟩
theorem d_Handler_sendForm_41 : ob_dv (ob_sc k_Handler_sendForm.2.2.2.1) k_Handler_sendForm 41 42 3 (.istore_n 3) 1 := ⟨by decide +kernel, rfl, ⟨rfl, by decide +kernel⟩⟩
theorem d_Handler_sendForm_38 : ob_dc k_Handler_sendForm 38 (.invokevirtual 130) 3 41 := ⟨by decide +kernel, rfl⟩
theorem d_Handler_sendForm_36 : ob_dv ob_lc k_Handler_sendForm 36 37 1 (.iload_n 1) 1 := ⟨by decide +kernel, rfl, rfl⟩
theorem d_Handler_sendForm_33 : ob_dc k_Handler_sendForm 33 (.getfield 37) 3 36 := ⟨by decide +kernel, rfl⟩
theorem d_Handler_sendForm_32 : ob_dv ob_ac k_Handler_sendForm 32 33 0 (.aload_n 0) 1 := ⟨by decide +kernel, rfl, rfl⟩
theorem d_Handler_sendForm_29 : ob_dc k_Handler_sendForm 29 (.invokevirtual 121) 3 32 := ⟨by decide +kernel, rfl⟩
theorem d_Handler_sendForm_25 : ob_dc k_Handler_sendForm 25 (.invokevirtual 130) 3 28 := ⟨by decide +kernel, rfl⟩
theorem d_Handler_sendForm_23 : ob_dv ob_lc k_Handler_sendForm 23 24 1 (.iload_n 1) 1 := ⟨by decide +kernel, rfl, rfl⟩
theorem d_Handler_sendForm_20 : ob_dc k_Handler_sendForm 20 (.getfield 37) 3 23 := ⟨by decide +kernel, rfl⟩
theorem d_Handler_sendForm_19 : ob_dv ob_ac k_Handler_sendForm 19 20 0 (.aload_n 0) 1 := ⟨by decide +kernel, rfl, rfl⟩
theorem d_Handler_sendForm_18 : ob_dv ob_ac k_Handler_sendForm 18 19 2 (.aload_n 2) 1 := ⟨by decide +kernel, rfl, rfl⟩
theorem d_Handler_sendForm_17 : ob_dv (ob_bc k_Handler_sendForm.2.2.2.1) k_Handler_sendForm 17 18 2 (.astore_n 2) 1 := ⟨by decide +kernel, rfl, ⟨rfl, by decide +kernel⟩⟩
theorem d_Handler_sendForm_14 : ob_dc k_Handler_sendForm 14 (.invokevirtual 115) 3 17 := ⟨by decide +kernel, rfl⟩
theorem d_Handler_sendForm_11 : ob_dc k_Handler_sendForm 11 (.getfield 58) 3 14 := ⟨by decide +kernel, rfl⟩
theorem d_Handler_sendForm_8 : ob_dc k_Handler_sendForm 8 (.getfield 9) 3 11 := ⟨by decide +kernel, rfl⟩
theorem d_Handler_sendForm_7 : ob_dv ob_ac k_Handler_sendForm 7 8 0 (.aload_n 0) 1 := ⟨by decide +kernel, rfl, rfl⟩
theorem d_Handler_sendForm_1 : ob_dc k_Handler_sendForm 1 (.getfield 36) 3 4 := ⟨by decide +kernel, rfl⟩
theorem d_Handler_sendForm_0 : ob_dv ob_ac k_Handler_sendForm 0 1 0 (.aload_n 0) 1 := ⟨by decide +kernel, rfl, rfl⟩
theorem c_Handler_sendForm_124 : ob_vd k_Handler_sendForm k_Reports_send 124 0 8 := ⟨cw_Reports_send, yd_Reports_send, w_613, w_614, w_615, w_11, ⟨_, _, rfl⟩, by decide, by decide⟩
theorem c_Handler_sendForm_121 : ob_vd k_Handler_sendForm k_Row_add 121 2 1 := ⟨cw_Row_add, yd_Row_add, w_612, w_467, w_468, w_2, ⟨_, _, rfl⟩, by decide, by decide⟩
theorem c_Handler_sendForm_320 : ob_vd k_Handler_sendForm k_Craft_read 320 1 10 := ⟨cw_Craft_read, yd_Craft_read, w_762, w_763, w_764, w_12, ⟨_, _, rfl⟩, by decide, by decide⟩
theorem c_Handler_sendForm_130 : ob_vd k_Handler_sendForm k_Table_get 130 2 7 := ⟨cw_Table_get, yd_Table_get, w_683, w_684, w_685, w_9, ⟨_, _, rfl⟩, by decide, by decide⟩
theorem c_Handler_sendForm_115 : ob_vd k_Handler_sendForm k_Reports_begin 115 3 8 := ⟨cw_Reports_begin, yd_Reports_begin, w_606, w_607, w_608, w_11, ⟨_, _, rfl⟩, by decide, by decide⟩
def f_Handler_sendForm_L45 (S : ob_S) : Nat → Nat → Int32 → Nat → Int32 → Int32 → ob_D → Option (ob_D)
  | 0, _, _, _, _, _, _ => none
  | n + 1, v0, v1, v2, v3, v4, D => (if v3 ≤ v4 then if D.2.1 v0 4 ≠ 0 then ob_bv (f_Reports_send S (D.2.1 v0 4) D) fun D23 => some D23 else none else if D.2.1 v0 0 ≠ 0 then if D.2.1 v0 5 ≠ 0 then ob_bd (f_Table_get S (D.2.1 v0 5) v1 ((4 : Int32) + v4) D) fun x31 D29 => ob_bd (f_Craft_read S (D.2.1 v0 0) x31 D29) fun x34 D32 => ob_bv (f_Row_add S v2 x34 (4 : Int32) D32) fun D35 => f_Handler_sendForm_L45 S n v0 v1 v2 v3 (v4 + (1 : Int32)) D35 else none else none)
theorem v_Handler_sendForm_L45 {l : Launch} {E : ob_E} {S : ob_S} {D' : ob_D} : ∀ (n : Nat), ∀ (v0 : Nat) (v1 : Int32) (v2 : Nat) (v3 : Int32) (v4 : Int32) (D : ob_D), S.1 v0 = 12 → S.1 v2 = 2 → f_Handler_sendForm_L45 S n v0 v1 v2 v3 v4 D = some D' → ob_V l E k_Handler_sendForm 45 [(0, .ref v0), (1, .int v1), (2, .ref v2), (3, .int v3), (4, .int v4)] [] S D none S D' := by
  intro n
  induction n with
  | zero =>
    intro v0 v1 v2 v3 v4 D hp_v0 hp_v2 h
    have h : none = some D' := h
    cases h
  | succ n ih =>
    intro v0 v1 v2 v3 v4 D hp_v0 hp_v2 h
    rw [f_Handler_sendForm_L45] at h
    refine ob_iload d_Handler_sendForm_45 rfl ?_
    refine ob_iload d_Handler_sendForm_47 rfl ?_
    refine ob_icmp_ge d_Handler_sendForm_48 (fun hc => ?_) (fun hc => ?_)
    · replace h := ob_ift hc h
      refine ob_aload d_Handler_sendForm_81 rfl ?_
      obtain ⟨hg22, h⟩ := ob_gd h
      refine ob_getR d_Handler_sendForm_82 F_11_4 l_Handler_36 hp_v0 hg22 (fun hk21 => ?_)
      obtain ⟨D23, h24, h⟩ := ob_bv_e h
      refine ob_callVv (As := []) (rest := []) d_Handler_sendForm_85 c_Handler_sendForm_124 hk21 rfl rfl (Nat.le_of_ble_eq_true rfl) (c_Reports_send hk21 h24) ⟨Nat.le_refl _, Nat.le_refl _⟩ ⟨Nat.le_refl _, Nat.le_refl _⟩ ?_
      exact ob_ve h (ob_vret d_Handler_sendForm_88 rfl)
    · replace h := ob_iff hc h
      refine ob_aload d_Handler_sendForm_51 rfl ?_
      refine ob_aload d_Handler_sendForm_52 rfl ?_
      obtain ⟨hg26, h⟩ := ob_gd h
      refine ob_getR d_Handler_sendForm_53 F_11_0 l_Handler_9 hp_v0 hg26 (fun hk25 => ?_)
      refine ob_aload d_Handler_sendForm_56 rfl ?_
      obtain ⟨hg28, h⟩ := ob_gd h
      refine ob_getR d_Handler_sendForm_57 F_11_5 l_Handler_37 hp_v0 hg28 (fun hk27 => ?_)
      refine ob_iload d_Handler_sendForm_60 rfl ?_
      refine ob_push d_Handler_sendForm_61 ?_
      refine ob_iload d_Handler_sendForm_62 rfl ?_
      refine ob_iadd d_Handler_sendForm_64 ?_
      obtain ⟨x31, D29, h30, h⟩ := ob_bd_e h
      refine ob_callVi (As := [.int v1, .int ((4 : Int32) + v4)]) (rest := [.ref (D.2.1 v0 0), .ref v2]) d_Handler_sendForm_65 c_Handler_sendForm_130 hk27 rfl rfl (Nat.le_of_ble_eq_true rfl) (c_Table_get hk27 h30) ⟨Nat.le_refl _, Nat.le_refl _⟩ ⟨Nat.le_refl _, Nat.le_refl _⟩ ?_
      obtain ⟨x34, D32, h33, h⟩ := ob_bd_e h
      refine ob_callVi (As := [.int x31]) (rest := [.ref v2]) d_Handler_sendForm_68 c_Handler_sendForm_320 hk25 rfl rfl (Nat.le_of_ble_eq_true rfl) (c_Craft_read hk25 h33) ⟨Nat.le_refl _, Nat.le_refl _⟩ ⟨Nat.le_refl _, Nat.le_refl _⟩ ?_
      refine ob_push d_Handler_sendForm_71 ?_
      obtain ⟨D35, h36, h⟩ := ob_bv_e h
      refine ob_callVv (As := [.int x34, .int (4 : Int32)]) (rest := []) d_Handler_sendForm_72 c_Handler_sendForm_121 hp_v2 rfl rfl (Nat.le_of_ble_eq_true rfl) (c_Row_add hp_v2 h36) ⟨Nat.le_refl _, Nat.le_refl _⟩ ⟨Nat.le_refl _, Nat.le_refl _⟩ ?_
      refine ob_iinc (lo2 := [(0, .ref v0), (1, .int v1), (2, .ref v2), (3, .int v3), (4, .int (v4 + (1 : Int32)))]) d_Handler_sendForm_75 rfl rfl ?_
      refine ob_goto d_Handler_sendForm_78 ?_
      exact ih v0 v1 v2 v3 (v4 + (1 : Int32)) D35 hp_v0 hp_v2 h
def f_Handler_sendForm (S : ob_S) (v0 : Nat) (v1 : Int32) (D : ob_D) : Option (ob_D) :=
  if D.2.1 v0 4 ≠ 0 then if D.2.1 v0 0 ≠ 0 then ob_bd (f_Reports_begin S (D.2.1 v0 4) (3 : Int32) (25 : Int32) (D.1 (D.2.1 v0 0) 8) D) fun x7 D5 => if S.1 x7 = 2 then if D5.2.1 v0 5 ≠ 0 then ob_bd (f_Table_get S (D5.2.1 v0 5) v1 (0 : Int32) D5) fun x13 D11 => ob_bv (f_Row_add S x7 x13 (1 : Int32) D11) fun D14 => if D14.2.1 v0 5 ≠ 0 then ob_bd (f_Table_get S (D14.2.1 v0 5) v1 (3 : Int32) D14) fun x20 D18 => f_Handler_sendForm_L45 S ob_FU v0 v1 x7 x20 (0 : Int32) D18 else none else none else none else none else none
theorem c_Handler_sendForm {l : Launch} {E : ob_E} {S : ob_S} {D : ob_D} {v0 : Nat} {v1 : Int32} {D' : ob_D} (hp_v0 : S.1 v0 = 12) (h : f_Handler_sendForm S v0 v1 D = some D') : ob_M l E k_Handler_sendForm [.ref v0, .int v1] S D none S D' := by
  refine ob_ofV (lo := [(0, .ref v0), (1, .int v1)]) (by decide) rfl (Nat.le_of_ble_eq_true rfl) rfl (Nat.le_refl _) (Nat.le_refl _) ?_
  rw [f_Handler_sendForm] at h
  refine ob_aload d_Handler_sendForm_0 rfl ?_
  obtain ⟨hg2, h⟩ := ob_gd h
  refine ob_getR d_Handler_sendForm_1 F_11_4 l_Handler_36 hp_v0 hg2 (fun hk1 => ?_)
  refine ob_push d_Handler_sendForm_4 ?_
  refine ob_push d_Handler_sendForm_5 ?_
  refine ob_aload d_Handler_sendForm_7 rfl ?_
  obtain ⟨hg4, h⟩ := ob_gd h
  refine ob_getR d_Handler_sendForm_8 F_11_0 l_Handler_9 hp_v0 hg4 (fun hk3 => ?_)
  refine ob_getI d_Handler_sendForm_11 F_10_8 l_Handler_58 hk3 ?_
  obtain ⟨x7, D5, h6, h⟩ := ob_bd_e h
  obtain ⟨hk8, h⟩ := ob_gd h
  refine ob_callVr (As := [.int (3 : Int32), .int (25 : Int32), .int (D.1 (D.2.1 v0 0) 8)]) (rest := []) d_Handler_sendForm_14 c_Handler_sendForm_115 hk1 rfl rfl (Nat.le_of_ble_eq_true rfl) (c_Reports_begin hk1 h6) ⟨Nat.le_refl _, Nat.le_refl _⟩ ⟨Nat.le_refl _, Nat.le_refl _⟩ ?_
  refine ob_astore (lo2 := [(0, .ref v0), (1, .int v1), (2, .ref x7)]) d_Handler_sendForm_17 rfl ?_
  refine ob_aload d_Handler_sendForm_18 rfl ?_
  refine ob_aload d_Handler_sendForm_19 rfl ?_
  obtain ⟨hg10, h⟩ := ob_gd h
  refine ob_getR d_Handler_sendForm_20 F_11_5 l_Handler_37 hp_v0 hg10 (fun hk9 => ?_)
  refine ob_iload d_Handler_sendForm_23 rfl ?_
  refine ob_push d_Handler_sendForm_24 ?_
  obtain ⟨x13, D11, h12, h⟩ := ob_bd_e h
  refine ob_callVi (As := [.int v1, .int (0 : Int32)]) (rest := [.ref x7]) d_Handler_sendForm_25 c_Handler_sendForm_130 hk9 rfl rfl (Nat.le_of_ble_eq_true rfl) (c_Table_get hk9 h12) ⟨Nat.le_refl _, Nat.le_refl _⟩ ⟨Nat.le_refl _, Nat.le_refl _⟩ ?_
  refine ob_push d_Handler_sendForm_28 ?_
  obtain ⟨D14, h15, h⟩ := ob_bv_e h
  refine ob_callVv (As := [.int x13, .int (1 : Int32)]) (rest := []) d_Handler_sendForm_29 c_Handler_sendForm_121 hk8 rfl rfl (Nat.le_of_ble_eq_true rfl) (c_Row_add hk8 h15) ⟨Nat.le_refl _, Nat.le_refl _⟩ ⟨Nat.le_refl _, Nat.le_refl _⟩ ?_
  refine ob_aload d_Handler_sendForm_32 rfl ?_
  obtain ⟨hg17, h⟩ := ob_gd h
  refine ob_getR d_Handler_sendForm_33 F_11_5 l_Handler_37 hp_v0 hg17 (fun hk16 => ?_)
  refine ob_iload d_Handler_sendForm_36 rfl ?_
  refine ob_push d_Handler_sendForm_37 ?_
  obtain ⟨x20, D18, h19, h⟩ := ob_bd_e h
  refine ob_callVi (As := [.int v1, .int (3 : Int32)]) (rest := []) d_Handler_sendForm_38 c_Handler_sendForm_130 hk16 rfl rfl (Nat.le_of_ble_eq_true rfl) (c_Table_get hk16 h19) ⟨Nat.le_refl _, Nat.le_refl _⟩ ⟨Nat.le_refl _, Nat.le_refl _⟩ ?_
  refine ob_istore (lo2 := [(0, .ref v0), (1, .int v1), (2, .ref x7), (3, .int x20)]) d_Handler_sendForm_41 rfl ?_
  refine ob_push d_Handler_sendForm_42 ?_
  refine ob_istore (lo2 := [(0, .ref v0), (1, .int v1), (2, .ref x7), (3, .int x20), (4, .int (0 : Int32))]) d_Handler_sendForm_43 rfl ?_
  exact v_Handler_sendForm_L45 ob_FU v0 v1 x7 x20 (0 : Int32) D18 hp_v0 hk8 h
-- OrbitBox$Handler.setSilent(IZ)V
theorem d_Handler_setSilent_17 : ob_dc k_Handler_setSilent 17 (.return_) 1 18 := ⟨by decide +kernel, rfl⟩
theorem d_Handler_setSilent_16 : ob_dc k_Handler_setSilent 16 (.bastore) 1 17 := ⟨by decide +kernel, rfl⟩
theorem d_Handler_setSilent_15 : ob_dv ob_lc k_Handler_setSilent 15 16 2 (.iload_n 2) 1 := ⟨by decide +kernel, rfl, rfl⟩
theorem d_Handler_setSilent_14 : ob_dv ob_lc k_Handler_setSilent 14 15 1 (.iload_n 1) 1 := ⟨by decide +kernel, rfl, rfl⟩
theorem d_Handler_setSilent_11 : ob_dc k_Handler_setSilent 11 (.getfield 323) 3 14 := ⟨by decide +kernel, rfl⟩
theorem d_Handler_setSilent_8 : ob_dc k_Handler_setSilent 8 (.getfield 31) 3 11 := ⟨by decide +kernel, rfl⟩
theorem d_Handler_setSilent_7 : ob_dv ob_ac k_Handler_setSilent 7 8 0 (.aload_n 0) 1 := ⟨by decide +kernel, rfl, rfl⟩
theorem d_Handler_setSilent_4 : ob_db k_Handler_setSilent 4 (.ifCond .eq 13) 13 7 17 := ⟨by decide +kernel, rfl, by decide⟩
theorem d_Handler_setSilent_1 : ob_dc k_Handler_setSilent 1 (.invokestatic 190) 3 4 := ⟨by decide +kernel, rfl⟩
theorem d_Handler_setSilent_0 : ob_dv ob_lc k_Handler_setSilent 0 1 1 (.iload_n 1) 1 := ⟨by decide +kernel, rfl, rfl⟩
theorem c_Handler_setSilent_190 : ob_sd k_Handler_setSilent k_Events_isThere 190 1 := ⟨cw_Events_isThere, yd_Events_isThere, w_687, w_688, w_7, by decide, by decide⟩
def f_Handler_setSilent (S : ob_S) (v0 : Nat) (v1 : Int32) (v2 : Int32) (D : ob_D) : Option (ob_D) :=
  ob_bd (f_Events_isThere S v1 D) fun x3 D1 => (if x3 = 0 then some D1 else if D1.2.1 v0 3 ≠ 0 then if D1.2.1 (D1.2.1 v0 3) 1 ≠ 0 then if ob_in v1 (S.2.1 (D1.2.1 (D1.2.1 v0 3) 1)) then ob_lt (ob_pI D1 (D1.2.1 (D1.2.1 v0 3) 1) v1.toNatClampNeg (v2 &&& 1)) fun D9 => some D9 else none else none else none)
theorem c_Handler_setSilent {l : Launch} {E : ob_E} {S : ob_S} {D : ob_D} {v0 : Nat} {v1 : Int32} {v2 : Int32} {D' : ob_D} (hp_v0 : S.1 v0 = 12) (h : f_Handler_setSilent S v0 v1 v2 D = some D') : ob_M l E k_Handler_setSilent [.ref v0, .int v1, .int v2] S D none S D' := by
  refine ob_ofV (lo := [(0, .ref v0), (1, .int v1), (2, .int v2)]) (by decide) rfl (Nat.le_of_ble_eq_true rfl) rfl (Nat.le_refl _) (Nat.le_refl _) ?_
  rw [f_Handler_setSilent] at h
  refine ob_iload d_Handler_setSilent_0 rfl ?_
  obtain ⟨x3, D1, h2, h⟩ := ob_bd_e h
  refine ob_callSi (As := [.int v1]) (rest := []) d_Handler_setSilent_1 c_Handler_setSilent_190 rfl rfl (Nat.le_of_ble_eq_true rfl) (c_Events_isThere  h2) ⟨Nat.le_refl _, Nat.le_refl _⟩ ⟨Nat.le_refl _, Nat.le_refl _⟩ ?_
  refine ob_if_eq d_Handler_setSilent_4 (fun hc => ?_) (fun hc => ?_)
  · replace h := ob_ift hc h
    exact ob_ve h (ob_vret d_Handler_setSilent_17 rfl)
  · replace h := ob_iff hc h
    refine ob_aload d_Handler_setSilent_7 rfl ?_
    obtain ⟨hg5, h⟩ := ob_gd h
    refine ob_getR d_Handler_setSilent_8 F_11_3 l_Handler_31 hp_v0 hg5 (fun hk4 => ?_)
    obtain ⟨hg7, h⟩ := ob_gd h
    refine ob_getR d_Handler_setSilent_11 F_6_1 l_Handler_323 hk4 hg7 (fun hk6 => ?_)
    refine ob_iload d_Handler_setSilent_14 rfl ?_
    refine ob_iload d_Handler_setSilent_15 rfl ?_
    obtain ⟨hg8, h⟩ := ob_gd h
    replace h := ob_lt_e h
    refine ob_zast d_Handler_setSilent_16 hk6 hg8 ?_
    exact ob_ve h (ob_vret d_Handler_setSilent_17 rfl)
-- OrbitBox$Handler.load()V
theorem d_Handler_load_1 : ob_dk k_Handler_load 1 2 (2 : Int32) (.iconst 2) 1 := ⟨by decide +kernel, rfl, show Int32.ofInt 2 = (2 : Int32) by decide +kernel⟩
theorem d_Handler_load_2 : ob_dk k_Handler_load 2 3 (1 : Int32) (.iconst 1) 1 := ⟨by decide +kernel, rfl, show Int32.ofInt 1 = (1 : Int32) by decide +kernel⟩
theorem d_Handler_load_7 : ob_dk k_Handler_load 7 8 (0 : Int32) (.iconst 0) 1 := ⟨by decide +kernel, rfl, show Int32.ofInt 0 = (0 : Int32) by decide +kernel⟩
theorem d_Handler_load_44 : ob_dc k_Handler_load 44 (.return_) 1 45 := ⟨by decide +kernel, rfl⟩
theorem d_Handler_load_19 : ob_dk k_Handler_load 19 20 (0 : Int32) (.iconst 0) 1 := ⟨by decide +kernel, rfl, show Int32.ofInt 0 = (0 : Int32) by decide +kernel⟩
theorem d_Handler_load_20 : ob_dk k_Handler_load 20 21 (2 : Int32) (.iconst 2) 1 := ⟨by decide +kernel, rfl, show Int32.ofInt 2 = (2 : Int32) by decide +kernel⟩
theorem d_Handler_load_27 : ob_dk k_Handler_load 27 28 (3 : Int32) (.iconst 3) 1 := ⟨by decide +kernel, rfl, show Int32.ofInt 3 = (3 : Int32) by decide +kernel⟩
theorem d_Handler_load_30 : ob_dk k_Handler_load 30 31 (1 : Int32) (.iconst 1) 1 := ⟨by decide +kernel, rfl, show Int32.ofInt 1 = (1 : Int32) by decide +kernel⟩
theorem d_Handler_load_34 : ob_dk k_Handler_load 34 35 (1 : Int32) (.iconst 1) 1 := ⟨by decide +kernel, rfl, show Int32.ofInt 1 = (1 : Int32) by decide +kernel⟩
theorem d_Handler_load_38 : ob_di k_Handler_load 38 41 2 1 (1 : Int32) := ⟨by decide +kernel, rfl, by decide +kernel, by decide +kernel⟩
theorem d_Handler_load_41 : ob_db k_Handler_load 41 (.goto (-32)) (-32) 44 9 := ⟨by decide +kernel, rfl, by decide⟩
theorem d_Handler_load_35 : ob_dc k_Handler_load 35 (.invokevirtual 326) 3 38 := ⟨by decide +kernel, rfl⟩
theorem d_Handler_load_31 : ob_dc k_Handler_load 31 (.invokevirtual 187) 3 34 := ⟨by decide +kernel, rfl⟩
theorem d_Handler_load_29 : ob_dc k_Handler_load 29 (.iadd) 1 30 := ⟨by decide +kernel, rfl⟩
theorem d_Handler_load_28 : ob_dv ob_lc k_Handler_load 28 29 2 (.iload_n 2) 1 := ⟨by decide +kernel, rfl, rfl⟩
theorem d_Handler_load_26 : ob_dv ob_ac k_Handler_load 26 27 0 (.aload_n 0) 1 := ⟨by decide +kernel, rfl, rfl⟩
theorem d_Handler_load_25 : ob_dc k_Handler_load 25 (.iadd) 1 26 := ⟨by decide +kernel, rfl⟩
theorem d_Handler_load_24 : ob_dv ob_lc k_Handler_load 24 25 2 (.iload_n 2) 1 := ⟨by decide +kernel, rfl, rfl⟩
theorem d_Handler_load_21 : ob_dc k_Handler_load 21 (.invokevirtual 187) 3 24 := ⟨by decide +kernel, rfl⟩
theorem d_Handler_load_18 : ob_dv ob_ac k_Handler_load 18 19 0 (.aload_n 0) 1 := ⟨by decide +kernel, rfl, rfl⟩
theorem d_Handler_load_15 : ob_dc k_Handler_load 15 (.getfield 44) 3 18 := ⟨by decide +kernel, rfl⟩
theorem d_Handler_load_14 : ob_dv ob_ac k_Handler_load 14 15 0 (.aload_n 0) 1 := ⟨by decide +kernel, rfl, rfl⟩
theorem d_Handler_load_11 : ob_db k_Handler_load 11 (.if_icmp .ge 33) 33 14 44 := ⟨by decide +kernel, rfl, by decide⟩
theorem d_Handler_load_10 : ob_dv ob_lc k_Handler_load 10 11 1 (.iload_n 1) 1 := ⟨by decide +kernel, rfl, rfl⟩
theorem d_Handler_load_9 : ob_dv ob_lc k_Handler_load 9 10 2 (.iload_n 2) 1 := ⟨by decide +kernel, rfl, rfl⟩
theorem d_Handler_load_8 : ob_dv (ob_sc k_Handler_load.2.2.2.1) k_Handler_load 8 9 2 (.istore_n 2) 1 := ⟨by decide +kernel, rfl, ⟨rfl, by decide +kernel⟩⟩
theorem d_Handler_load_6 : ob_dv (ob_sc k_Handler_load.2.2.2.1) k_Handler_load 6 7 1 (.istore_n 1) 1 := ⟨by decide +kernel, rfl, ⟨rfl, by decide +kernel⟩⟩
theorem d_Handler_load_3 : ob_dc k_Handler_load 3 (.invokevirtual 187) 3 6 := ⟨by decide +kernel, rfl⟩
theorem d_Handler_load_0 : ob_dv ob_ac k_Handler_load 0 1 0 (.aload_n 0) 1 := ⟨by decide +kernel, rfl, rfl⟩
theorem c_Handler_load_326 : ob_vd k_Handler_load k_Row_replace 326 3 1 := ⟨cw_Row_replace, yd_Row_replace, w_774, w_618, w_619, w_2, ⟨_, _, rfl⟩, by decide, by decide⟩
theorem c_Handler_load_187 : ob_vd k_Handler_load k_Handler_data 187 2 11 := ⟨cw_Handler_data, yd_Handler_data, w_663, w_665, wp_16, w_13, ⟨_, _, rfl⟩, by decide, by decide⟩
def f_Handler_load_L9 (S : ob_S) : Nat → Nat → Int32 → Int32 → ob_D → Option (ob_D)
  | 0, _, _, _, _ => none
  | n + 1, v0, v1, v2, D => (if v1 ≤ v2 then some D else if D.2.1 v0 7 ≠ 0 then ob_bd (f_Handler_data S v0 (0 : Int32) (2 : Int32) D) fun x8 D6 => ob_bd (f_Handler_data S v0 ((3 : Int32) + v2) (1 : Int32) D6) fun x11 D9 => ob_bv (f_Row_replace S (D.2.1 v0 7) (x8 + v2) x11 (1 : Int32) D9) fun D12 => f_Handler_load_L9 S n v0 v1 (v2 + (1 : Int32)) D12 else none)
theorem v_Handler_load_L9 {l : Launch} {E : ob_E} {S : ob_S} {D' : ob_D} : ∀ (n : Nat), ∀ (v0 : Nat) (v1 : Int32) (v2 : Int32) (D : ob_D), S.1 v0 = 12 → f_Handler_load_L9 S n v0 v1 v2 D = some D' → ob_V l E k_Handler_load 9 [(0, .ref v0), (1, .int v1), (2, .int v2)] [] S D none S D' := by
  intro n
  induction n with
  | zero =>
    intro v0 v1 v2 D hp_v0 h
    have h : none = some D' := h
    cases h
  | succ n ih =>
    intro v0 v1 v2 D hp_v0 h
    rw [f_Handler_load_L9] at h
    refine ob_iload d_Handler_load_9 rfl ?_
    refine ob_iload d_Handler_load_10 rfl ?_
    refine ob_icmp_ge d_Handler_load_11 (fun hc => ?_) (fun hc => ?_)
    · replace h := ob_ift hc h
      exact ob_ve h (ob_vret d_Handler_load_44 rfl)
    · replace h := ob_iff hc h
      refine ob_aload d_Handler_load_14 rfl ?_
      obtain ⟨hg5, h⟩ := ob_gd h
      refine ob_getR d_Handler_load_15 F_11_7 l_Handler_44 hp_v0 hg5 (fun hk4 => ?_)
      refine ob_aload d_Handler_load_18 rfl ?_
      refine ob_push d_Handler_load_19 ?_
      refine ob_push d_Handler_load_20 ?_
      obtain ⟨x8, D6, h7, h⟩ := ob_bd_e h
      refine ob_callVi (As := [.int (0 : Int32), .int (2 : Int32)]) (rest := [.ref (D.2.1 v0 7)]) d_Handler_load_21 c_Handler_load_187 hp_v0 rfl rfl (Nat.le_of_ble_eq_true rfl) (c_Handler_data hp_v0 h7) ⟨Nat.le_refl _, Nat.le_refl _⟩ ⟨Nat.le_refl _, Nat.le_refl _⟩ ?_
      refine ob_iload d_Handler_load_24 rfl ?_
      refine ob_iadd d_Handler_load_25 ?_
      refine ob_aload d_Handler_load_26 rfl ?_
      refine ob_push d_Handler_load_27 ?_
      refine ob_iload d_Handler_load_28 rfl ?_
      refine ob_iadd d_Handler_load_29 ?_
      refine ob_push d_Handler_load_30 ?_
      obtain ⟨x11, D9, h10, h⟩ := ob_bd_e h
      refine ob_callVi (As := [.int ((3 : Int32) + v2), .int (1 : Int32)]) (rest := [.int (x8 + v2), .ref (D.2.1 v0 7)]) d_Handler_load_31 c_Handler_load_187 hp_v0 rfl rfl (Nat.le_of_ble_eq_true rfl) (c_Handler_data hp_v0 h10) ⟨Nat.le_refl _, Nat.le_refl _⟩ ⟨Nat.le_refl _, Nat.le_refl _⟩ ?_
      refine ob_push d_Handler_load_34 ?_
      obtain ⟨D12, h13, h⟩ := ob_bv_e h
      refine ob_callVv (As := [.int (x8 + v2), .int x11, .int (1 : Int32)]) (rest := []) d_Handler_load_35 c_Handler_load_326 hk4 rfl rfl (Nat.le_of_ble_eq_true rfl) (c_Row_replace hk4 h13) ⟨Nat.le_refl _, Nat.le_refl _⟩ ⟨Nat.le_refl _, Nat.le_refl _⟩ ?_
      refine ob_iinc (lo2 := [(0, .ref v0), (1, .int v1), (2, .int (v2 + (1 : Int32)))]) d_Handler_load_38 rfl rfl ?_
      refine ob_goto d_Handler_load_41 ?_
      exact ih v0 v1 (v2 + (1 : Int32)) D12 hp_v0 h
def f_Handler_load (S : ob_S) (v0 : Nat) (D : ob_D) : Option (ob_D) :=
  ob_bd (f_Handler_data S v0 (2 : Int32) (1 : Int32) D) fun x3 D1 => f_Handler_load_L9 S ob_FU v0 x3 (0 : Int32) D1
theorem c_Handler_load {l : Launch} {E : ob_E} {S : ob_S} {D : ob_D} {v0 : Nat} {D' : ob_D} (hp_v0 : S.1 v0 = 12) (h : f_Handler_load S v0 D = some D') : ob_M l E k_Handler_load [.ref v0] S D none S D' := by
  refine ob_ofV (lo := [(0, .ref v0)]) (by decide) rfl (Nat.le_of_ble_eq_true rfl) rfl (Nat.le_refl _) (Nat.le_refl _) ?_
  rw [f_Handler_load] at h
  refine ob_aload d_Handler_load_0 rfl ?_
  refine ob_push d_Handler_load_1 ?_
  refine ob_push d_Handler_load_2 ?_
  obtain ⟨x3, D1, h2, h⟩ := ob_bd_e h
  refine ob_callVi (As := [.int (2 : Int32), .int (1 : Int32)]) (rest := []) d_Handler_load_3 c_Handler_load_187 hp_v0 rfl rfl (Nat.le_of_ble_eq_true rfl) (c_Handler_data hp_v0 h2) ⟨Nat.le_refl _, Nat.le_refl _⟩ ⟨Nat.le_refl _, Nat.le_refl _⟩ ?_
  refine ob_istore (lo2 := [(0, .ref v0), (1, .int x3)]) d_Handler_load_6 rfl ?_
  refine ob_push d_Handler_load_7 ?_
  refine ob_istore (lo2 := [(0, .ref v0), (1, .int x3), (2, .int (0 : Int32))]) d_Handler_load_8 rfl ?_
  exact v_Handler_load_L9 ob_FU v0 x3 (0 : Int32) D1 hp_v0 h
-- OrbitBox$Handler.dump()V
theorem d_Handler_dump_4 : ob_dk k_Handler_dump 4 6 (6 : Int32) (.bipush 6) 2 := ⟨by decide +kernel, rfl, show (Int8.ofInt 6).toInt32 = (6 : Int32) by decide +kernel⟩
theorem d_Handler_dump_6 : ob_dk k_Handler_dump 6 8 (6 : Int32) (.bipush 6) 2 := ⟨by decide +kernel, rfl, show (Int8.ofInt 6).toInt32 = (6 : Int32) by decide +kernel⟩
theorem d_Handler_dump_21 : ob_dk k_Handler_dump 21 22 (0 : Int32) (.iconst 0) 1 := ⟨by decide +kernel, rfl, show Int32.ofInt 0 = (0 : Int32) by decide +kernel⟩
theorem d_Handler_dump_22 : ob_dk k_Handler_dump 22 23 (3 : Int32) (.iconst 3) 1 := ⟨by decide +kernel, rfl, show Int32.ofInt 3 = (3 : Int32) by decide +kernel⟩
theorem d_Handler_dump_26 : ob_dk k_Handler_dump 26 27 (3 : Int32) (.iconst 3) 1 := ⟨by decide +kernel, rfl, show Int32.ofInt 3 = (3 : Int32) by decide +kernel⟩
theorem d_Handler_dump_36 : ob_dk k_Handler_dump 36 37 (0 : Int32) (.iconst 0) 1 := ⟨by decide +kernel, rfl, show Int32.ofInt 0 = (0 : Int32) by decide +kernel⟩
theorem d_Handler_dump_37 : ob_dk k_Handler_dump 37 38 (2 : Int32) (.iconst 2) 1 := ⟨by decide +kernel, rfl, show Int32.ofInt 2 = (2 : Int32) by decide +kernel⟩
theorem d_Handler_dump_42 : ob_dk k_Handler_dump 42 43 (2 : Int32) (.iconst 2) 1 := ⟨by decide +kernel, rfl, show Int32.ofInt 2 = (2 : Int32) by decide +kernel⟩
theorem d_Handler_dump_43 : ob_dk k_Handler_dump 43 44 (1 : Int32) (.iconst 1) 1 := ⟨by decide +kernel, rfl, show Int32.ofInt 1 = (1 : Int32) by decide +kernel⟩
theorem d_Handler_dump_57 : ob_dc k_Handler_dump 57 (.return_) 1 58 := ⟨by decide +kernel, rfl⟩
theorem d_Handler_dump_54 : ob_dc k_Handler_dump 54 (.invokevirtual 124) 3 57 := ⟨by decide +kernel, rfl⟩
theorem d_Handler_dump_51 : ob_dc k_Handler_dump 51 (.getfield 36) 3 54 := ⟨by decide +kernel, rfl⟩
theorem d_Handler_dump_50 : ob_dv ob_ac k_Handler_dump 50 51 0 (.aload_n 0) 1 := ⟨by decide +kernel, rfl, rfl⟩
theorem d_Handler_dump_47 : ob_dc k_Handler_dump 47 (.invokevirtual 329) 3 50 := ⟨by decide +kernel, rfl⟩
theorem d_Handler_dump_44 : ob_dc k_Handler_dump 44 (.invokevirtual 187) 3 47 := ⟨by decide +kernel, rfl⟩
theorem d_Handler_dump_41 : ob_dv ob_ac k_Handler_dump 41 42 0 (.aload_n 0) 1 := ⟨by decide +kernel, rfl, rfl⟩
theorem d_Handler_dump_38 : ob_dc k_Handler_dump 38 (.invokevirtual 187) 3 41 := ⟨by decide +kernel, rfl⟩
theorem d_Handler_dump_35 : ob_dv ob_ac k_Handler_dump 35 36 0 (.aload_n 0) 1 := ⟨by decide +kernel, rfl, rfl⟩
theorem d_Handler_dump_32 : ob_dc k_Handler_dump 32 (.getfield 44) 3 35 := ⟨by decide +kernel, rfl⟩
theorem d_Handler_dump_31 : ob_dv ob_ac k_Handler_dump 31 32 0 (.aload_n 0) 1 := ⟨by decide +kernel, rfl, rfl⟩
theorem d_Handler_dump_30 : ob_dv ob_ac k_Handler_dump 30 31 1 (.aload_n 1) 1 := ⟨by decide +kernel, rfl, rfl⟩
theorem d_Handler_dump_27 : ob_dc k_Handler_dump 27 (.invokevirtual 121) 3 30 := ⟨by decide +kernel, rfl⟩
theorem d_Handler_dump_23 : ob_dc k_Handler_dump 23 (.invokevirtual 187) 3 26 := ⟨by decide +kernel, rfl⟩
theorem d_Handler_dump_20 : ob_dv ob_ac k_Handler_dump 20 21 0 (.aload_n 0) 1 := ⟨by decide +kernel, rfl, rfl⟩
theorem d_Handler_dump_19 : ob_dv ob_ac k_Handler_dump 19 20 1 (.aload_n 1) 1 := ⟨by decide +kernel, rfl, rfl⟩
theorem d_Handler_dump_18 : ob_dv (ob_bc k_Handler_dump.2.2.2.1) k_Handler_dump 18 19 1 (.astore_n 1) 1 := ⟨by decide +kernel, rfl, ⟨rfl, by decide +kernel⟩⟩
theorem d_Handler_dump_15 : ob_dc k_Handler_dump 15 (.invokevirtual 115) 3 18 := ⟨by decide +kernel, rfl⟩
theorem d_Handler_dump_12 : ob_dc k_Handler_dump 12 (.getfield 58) 3 15 := ⟨by decide +kernel, rfl⟩
theorem d_Handler_dump_9 : ob_dc k_Handler_dump 9 (.getfield 9) 3 12 := ⟨by decide +kernel, rfl⟩
theorem d_Handler_dump_8 : ob_dv ob_ac k_Handler_dump 8 9 0 (.aload_n 0) 1 := ⟨by decide +kernel, rfl, rfl⟩
theorem d_Handler_dump_1 : ob_dc k_Handler_dump 1 (.getfield 36) 3 4 := ⟨by decide +kernel, rfl⟩
theorem d_Handler_dump_0 : ob_dv ob_ac k_Handler_dump 0 1 0 (.aload_n 0) 1 := ⟨by decide +kernel, rfl, rfl⟩
theorem c_Handler_dump_124 : ob_vd k_Handler_dump k_Reports_send 124 0 8 := ⟨cw_Reports_send, yd_Reports_send, w_613, w_614, w_615, w_11, ⟨_, _, rfl⟩, by decide, by decide⟩
theorem c_Handler_dump_329 : ob_vd k_Handler_dump k_Row_addPart 329 3 1 := ⟨cw_Row_addPart, yd_Row_addPart, w_779, w_549, w_550, w_2, ⟨_, _, rfl⟩, by decide, by decide⟩
theorem c_Handler_dump_187 : ob_vd k_Handler_dump k_Handler_data 187 2 11 := ⟨cw_Handler_data, yd_Handler_data, w_663, w_665, wp_16, w_13, ⟨_, _, rfl⟩, by decide, by decide⟩
theorem c_Handler_dump_121 : ob_vd k_Handler_dump k_Row_add 121 2 1 := ⟨cw_Row_add, yd_Row_add, w_612, w_467, w_468, w_2, ⟨_, _, rfl⟩, by decide, by decide⟩
theorem c_Handler_dump_115 : ob_vd k_Handler_dump k_Reports_begin 115 3 8 := ⟨cw_Reports_begin, yd_Reports_begin, w_606, w_607, w_608, w_11, ⟨_, _, rfl⟩, by decide, by decide⟩
def f_Handler_dump (S : ob_S) (v0 : Nat) (D : ob_D) : Option (ob_D) :=
  if D.2.1 v0 4 ≠ 0 then if D.2.1 v0 0 ≠ 0 then ob_bd (f_Reports_begin S (D.2.1 v0 4) (6 : Int32) (6 : Int32) (D.1 (D.2.1 v0 0) 8) D) fun x7 D5 => if S.1 x7 = 2 then ob_bd (f_Handler_data S v0 (0 : Int32) (3 : Int32) D5) fun x11 D9 => ob_bv (f_Row_add S x7 x11 (3 : Int32) D9) fun D12 => if D12.2.1 v0 7 ≠ 0 then ob_bd (f_Handler_data S v0 (0 : Int32) (2 : Int32) D12) fun x18 D16 => ob_bd (f_Handler_data S v0 (2 : Int32) (1 : Int32) D16) fun x21 D19 => ob_bv (f_Row_addPart S x7 (D12.2.1 v0 7) x18 x21 D19) fun D22 => if D22.2.1 v0 4 ≠ 0 then ob_bv (f_Reports_send S (D22.2.1 v0 4) D22) fun D26 => some D26 else none else none else none else none else none
theorem c_Handler_dump {l : Launch} {E : ob_E} {S : ob_S} {D : ob_D} {v0 : Nat} {D' : ob_D} (hp_v0 : S.1 v0 = 12) (h : f_Handler_dump S v0 D = some D') : ob_M l E k_Handler_dump [.ref v0] S D none S D' := by
  refine ob_ofV (lo := [(0, .ref v0)]) (by decide) rfl (Nat.le_of_ble_eq_true rfl) rfl (Nat.le_refl _) (Nat.le_refl _) ?_
  rw [f_Handler_dump] at h
  refine ob_aload d_Handler_dump_0 rfl ?_
  obtain ⟨hg2, h⟩ := ob_gd h
  refine ob_getR d_Handler_dump_1 F_11_4 l_Handler_36 hp_v0 hg2 (fun hk1 => ?_)
  refine ob_push d_Handler_dump_4 ?_
  refine ob_push d_Handler_dump_6 ?_
  refine ob_aload d_Handler_dump_8 rfl ?_
  obtain ⟨hg4, h⟩ := ob_gd h
  refine ob_getR d_Handler_dump_9 F_11_0 l_Handler_9 hp_v0 hg4 (fun hk3 => ?_)
  refine ob_getI d_Handler_dump_12 F_10_8 l_Handler_58 hk3 ?_
  obtain ⟨x7, D5, h6, h⟩ := ob_bd_e h
  obtain ⟨hk8, h⟩ := ob_gd h
  refine ob_callVr (As := [.int (6 : Int32), .int (6 : Int32), .int (D.1 (D.2.1 v0 0) 8)]) (rest := []) d_Handler_dump_15 c_Handler_dump_115 hk1 rfl rfl (Nat.le_of_ble_eq_true rfl) (c_Reports_begin hk1 h6) ⟨Nat.le_refl _, Nat.le_refl _⟩ ⟨Nat.le_refl _, Nat.le_refl _⟩ ?_
  refine ob_astore (lo2 := [(0, .ref v0), (1, .ref x7)]) d_Handler_dump_18 rfl ?_
  refine ob_aload d_Handler_dump_19 rfl ?_
  refine ob_aload d_Handler_dump_20 rfl ?_
  refine ob_push d_Handler_dump_21 ?_
  refine ob_push d_Handler_dump_22 ?_
  obtain ⟨x11, D9, h10, h⟩ := ob_bd_e h
  refine ob_callVi (As := [.int (0 : Int32), .int (3 : Int32)]) (rest := [.ref x7]) d_Handler_dump_23 c_Handler_dump_187 hp_v0 rfl rfl (Nat.le_of_ble_eq_true rfl) (c_Handler_data hp_v0 h10) ⟨Nat.le_refl _, Nat.le_refl _⟩ ⟨Nat.le_refl _, Nat.le_refl _⟩ ?_
  refine ob_push d_Handler_dump_26 ?_
  obtain ⟨D12, h13, h⟩ := ob_bv_e h
  refine ob_callVv (As := [.int x11, .int (3 : Int32)]) (rest := []) d_Handler_dump_27 c_Handler_dump_121 hk8 rfl rfl (Nat.le_of_ble_eq_true rfl) (c_Row_add hk8 h13) ⟨Nat.le_refl _, Nat.le_refl _⟩ ⟨Nat.le_refl _, Nat.le_refl _⟩ ?_
  refine ob_aload d_Handler_dump_30 rfl ?_
  refine ob_aload d_Handler_dump_31 rfl ?_
  obtain ⟨hg15, h⟩ := ob_gd h
  refine ob_getR d_Handler_dump_32 F_11_7 l_Handler_44 hp_v0 hg15 (fun hk14 => ?_)
  refine ob_aload d_Handler_dump_35 rfl ?_
  refine ob_push d_Handler_dump_36 ?_
  refine ob_push d_Handler_dump_37 ?_
  obtain ⟨x18, D16, h17, h⟩ := ob_bd_e h
  refine ob_callVi (As := [.int (0 : Int32), .int (2 : Int32)]) (rest := [.ref (D12.2.1 v0 7), .ref x7]) d_Handler_dump_38 c_Handler_dump_187 hp_v0 rfl rfl (Nat.le_of_ble_eq_true rfl) (c_Handler_data hp_v0 h17) ⟨Nat.le_refl _, Nat.le_refl _⟩ ⟨Nat.le_refl _, Nat.le_refl _⟩ ?_
  refine ob_aload d_Handler_dump_41 rfl ?_
  refine ob_push d_Handler_dump_42 ?_
  refine ob_push d_Handler_dump_43 ?_
  obtain ⟨x21, D19, h20, h⟩ := ob_bd_e h
  refine ob_callVi (As := [.int (2 : Int32), .int (1 : Int32)]) (rest := [.int x18, .ref (D12.2.1 v0 7), .ref x7]) d_Handler_dump_44 c_Handler_dump_187 hp_v0 rfl rfl (Nat.le_of_ble_eq_true rfl) (c_Handler_data hp_v0 h20) ⟨Nat.le_refl _, Nat.le_refl _⟩ ⟨Nat.le_refl _, Nat.le_refl _⟩ ?_
  obtain ⟨D22, h23, h⟩ := ob_bv_e h
  refine ob_callVv (As := [.ref (D12.2.1 v0 7), .int x18, .int x21]) (rest := []) d_Handler_dump_47 c_Handler_dump_329 hk8 rfl rfl (Nat.le_of_ble_eq_true rfl) (c_Row_addPart hk8 hk14 h23) ⟨Nat.le_refl _, Nat.le_refl _⟩ ⟨Nat.le_refl _, Nat.le_refl _⟩ ?_
  refine ob_aload d_Handler_dump_50 rfl ?_
  obtain ⟨hg25, h⟩ := ob_gd h
  refine ob_getR d_Handler_dump_51 F_11_4 l_Handler_36 hp_v0 hg25 (fun hk24 => ?_)
  obtain ⟨D26, h27, h⟩ := ob_bv_e h
  refine ob_callVv (As := []) (rest := []) d_Handler_dump_54 c_Handler_dump_124 hk24 rfl rfl (Nat.le_of_ble_eq_true rfl) (c_Reports_send hk24 h27) ⟨Nat.le_refl _, Nat.le_refl _⟩ ⟨Nat.le_refl _, Nat.le_refl _⟩ ?_
  exact ob_ve h (ob_vret d_Handler_dump_57 rfl)
-- OrbitBox$Handler.sendMemoryCheck()V
theorem d_Handler_sendMemoryCheck_4 : ob_dk k_Handler_sendMemoryCheck 4 6 (6 : Int32) (.bipush 6) 2 := ⟨by decide +kernel, rfl, show (Int8.ofInt 6).toInt32 = (6 : Int32) by decide +kernel⟩
theorem d_Handler_sendMemoryCheck_6 : ob_dk k_Handler_sendMemoryCheck 6 8 (10 : Int32) (.bipush 10) 2 := ⟨by decide +kernel, rfl, show (Int8.ofInt 10).toInt32 = (10 : Int32) by decide +kernel⟩
theorem d_Handler_sendMemoryCheck_21 : ob_dk k_Handler_sendMemoryCheck 21 22 (0 : Int32) (.iconst 0) 1 := ⟨by decide +kernel, rfl, show Int32.ofInt 0 = (0 : Int32) by decide +kernel⟩
theorem d_Handler_sendMemoryCheck_22 : ob_dk k_Handler_sendMemoryCheck 22 23 (4 : Int32) (.iconst 4) 1 := ⟨by decide +kernel, rfl, show Int32.ofInt 4 = (4 : Int32) by decide +kernel⟩
theorem d_Handler_sendMemoryCheck_26 : ob_dk k_Handler_sendMemoryCheck 26 27 (4 : Int32) (.iconst 4) 1 := ⟨by decide +kernel, rfl, show Int32.ofInt 4 = (4 : Int32) by decide +kernel⟩
theorem d_Handler_sendMemoryCheck_36 : ob_dk k_Handler_sendMemoryCheck 36 37 (0 : Int32) (.iconst 0) 1 := ⟨by decide +kernel, rfl, show Int32.ofInt 0 = (0 : Int32) by decide +kernel⟩
theorem d_Handler_sendMemoryCheck_37 : ob_dk k_Handler_sendMemoryCheck 37 38 (2 : Int32) (.iconst 2) 1 := ⟨by decide +kernel, rfl, show Int32.ofInt 2 = (2 : Int32) by decide +kernel⟩
theorem d_Handler_sendMemoryCheck_42 : ob_dk k_Handler_sendMemoryCheck 42 43 (2 : Int32) (.iconst 2) 1 := ⟨by decide +kernel, rfl, show Int32.ofInt 2 = (2 : Int32) by decide +kernel⟩
theorem d_Handler_sendMemoryCheck_43 : ob_dk k_Handler_sendMemoryCheck 43 44 (2 : Int32) (.iconst 2) 1 := ⟨by decide +kernel, rfl, show Int32.ofInt 2 = (2 : Int32) by decide +kernel⟩
theorem d_Handler_sendMemoryCheck_50 : ob_dk k_Handler_sendMemoryCheck 50 51 (2 : Int32) (.iconst 2) 1 := ⟨by decide +kernel, rfl, show Int32.ofInt 2 = (2 : Int32) by decide +kernel⟩
theorem d_Handler_sendMemoryCheck_61 : ob_dc k_Handler_sendMemoryCheck 61 (.return_) 1 62 := ⟨by decide +kernel, rfl⟩
theorem d_Handler_sendMemoryCheck_58 : ob_dc k_Handler_sendMemoryCheck 58 (.invokevirtual 124) 3 61 := ⟨by decide +kernel, rfl⟩
theorem d_Handler_sendMemoryCheck_55 : ob_dc k_Handler_sendMemoryCheck 55 (.getfield 36) 3 58 := ⟨by decide +kernel, rfl⟩
theorem d_Handler_sendMemoryCheck_54 : ob_dv ob_ac k_Handler_sendMemoryCheck 54 55 0 (.aload_n 0) 1 := ⟨by decide +kernel, rfl, rfl⟩
theorem d_Handler_sendMemoryCheck_51 : ob_dc k_Handler_sendMemoryCheck 51 (.invokevirtual 121) 3 54 := ⟨by decide +kernel, rfl⟩
theorem d_Handler_sendMemoryCheck_47 : ob_dc k_Handler_sendMemoryCheck 47 (.invokevirtual 166) 3 50 := ⟨by decide +kernel, rfl⟩
theorem d_Handler_sendMemoryCheck_44 : ob_dc k_Handler_sendMemoryCheck 44 (.invokevirtual 187) 3 47 := ⟨by decide +kernel, rfl⟩
theorem d_Handler_sendMemoryCheck_41 : ob_dv ob_ac k_Handler_sendMemoryCheck 41 42 0 (.aload_n 0) 1 := ⟨by decide +kernel, rfl, rfl⟩
theorem d_Handler_sendMemoryCheck_38 : ob_dc k_Handler_sendMemoryCheck 38 (.invokevirtual 187) 3 41 := ⟨by decide +kernel, rfl⟩
theorem d_Handler_sendMemoryCheck_35 : ob_dv ob_ac k_Handler_sendMemoryCheck 35 36 0 (.aload_n 0) 1 := ⟨by decide +kernel, rfl, rfl⟩
theorem d_Handler_sendMemoryCheck_32 : ob_dc k_Handler_sendMemoryCheck 32 (.getfield 44) 3 35 := ⟨by decide +kernel, rfl⟩
theorem d_Handler_sendMemoryCheck_31 : ob_dv ob_ac k_Handler_sendMemoryCheck 31 32 0 (.aload_n 0) 1 := ⟨by decide +kernel, rfl, rfl⟩
theorem d_Handler_sendMemoryCheck_30 : ob_dv ob_ac k_Handler_sendMemoryCheck 30 31 1 (.aload_n 1) 1 := ⟨by decide +kernel, rfl, rfl⟩
theorem d_Handler_sendMemoryCheck_27 : ob_dc k_Handler_sendMemoryCheck 27 (.invokevirtual 121) 3 30 := ⟨by decide +kernel, rfl⟩
theorem d_Handler_sendMemoryCheck_23 : ob_dc k_Handler_sendMemoryCheck 23 (.invokevirtual 187) 3 26 := ⟨by decide +kernel, rfl⟩
theorem d_Handler_sendMemoryCheck_20 : ob_dv ob_ac k_Handler_sendMemoryCheck 20 21 0 (.aload_n 0) 1 := ⟨by decide +kernel, rfl, rfl⟩
theorem d_Handler_sendMemoryCheck_19 : ob_dv ob_ac k_Handler_sendMemoryCheck 19 20 1 (.aload_n 1) 1 := ⟨by decide +kernel, rfl, rfl⟩
theorem d_Handler_sendMemoryCheck_18 : ob_dv (ob_bc k_Handler_sendMemoryCheck.2.2.2.1) k_Handler_sendMemoryCheck 18 19 1 (.astore_n 1) 1 := ⟨by decide +kernel, rfl, ⟨rfl, by decide +kernel⟩⟩
theorem d_Handler_sendMemoryCheck_15 : ob_dc k_Handler_sendMemoryCheck 15 (.invokevirtual 115) 3 18 := ⟨by decide +kernel, rfl⟩
theorem d_Handler_sendMemoryCheck_12 : ob_dc k_Handler_sendMemoryCheck 12 (.getfield 58) 3 15 := ⟨by decide +kernel, rfl⟩
theorem d_Handler_sendMemoryCheck_9 : ob_dc k_Handler_sendMemoryCheck 9 (.getfield 9) 3 12 := ⟨by decide +kernel, rfl⟩
theorem d_Handler_sendMemoryCheck_8 : ob_dv ob_ac k_Handler_sendMemoryCheck 8 9 0 (.aload_n 0) 1 := ⟨by decide +kernel, rfl, rfl⟩
theorem d_Handler_sendMemoryCheck_1 : ob_dc k_Handler_sendMemoryCheck 1 (.getfield 36) 3 4 := ⟨by decide +kernel, rfl⟩
theorem d_Handler_sendMemoryCheck_0 : ob_dv ob_ac k_Handler_sendMemoryCheck 0 1 0 (.aload_n 0) 1 := ⟨by decide +kernel, rfl, rfl⟩
theorem c_Handler_sendMemoryCheck_124 : ob_vd k_Handler_sendMemoryCheck k_Reports_send 124 0 8 := ⟨cw_Reports_send, yd_Reports_send, w_613, w_614, w_615, w_11, ⟨_, _, rfl⟩, by decide, by decide⟩
theorem c_Handler_sendMemoryCheck_121 : ob_vd k_Handler_sendMemoryCheck k_Row_add 121 2 1 := ⟨cw_Row_add, yd_Row_add, w_612, w_467, w_468, w_2, ⟨_, _, rfl⟩, by decide, by decide⟩
theorem c_Handler_sendMemoryCheck_166 : ob_vd k_Handler_sendMemoryCheck k_Row_check 166 2 1 := ⟨cw_Row_check, yd_Row_check, w_593, w_525, w_526, w_2, ⟨_, _, rfl⟩, by decide, by decide⟩
theorem c_Handler_sendMemoryCheck_187 : ob_vd k_Handler_sendMemoryCheck k_Handler_data 187 2 11 := ⟨cw_Handler_data, yd_Handler_data, w_663, w_665, wp_16, w_13, ⟨_, _, rfl⟩, by decide, by decide⟩
theorem c_Handler_sendMemoryCheck_115 : ob_vd k_Handler_sendMemoryCheck k_Reports_begin 115 3 8 := ⟨cw_Reports_begin, yd_Reports_begin, w_606, w_607, w_608, w_11, ⟨_, _, rfl⟩, by decide, by decide⟩
def f_Handler_sendMemoryCheck (S : ob_S) (v0 : Nat) (D : ob_D) : Option (ob_D) :=
  if D.2.1 v0 4 ≠ 0 then if D.2.1 v0 0 ≠ 0 then ob_bd (f_Reports_begin S (D.2.1 v0 4) (6 : Int32) (10 : Int32) (D.1 (D.2.1 v0 0) 8) D) fun x7 D5 => if S.1 x7 = 2 then ob_bd (f_Handler_data S v0 (0 : Int32) (4 : Int32) D5) fun x11 D9 => ob_bv (f_Row_add S x7 x11 (4 : Int32) D9) fun D12 => if D12.2.1 v0 7 ≠ 0 then ob_bd (f_Handler_data S v0 (0 : Int32) (2 : Int32) D12) fun x18 D16 => ob_bd (f_Handler_data S v0 (2 : Int32) (2 : Int32) D16) fun x21 D19 => ob_bd (f_Row_check S (D12.2.1 v0 7) x18 x21 D19) fun x24 D22 => ob_bv (f_Row_add S x7 x24 (2 : Int32) D22) fun D25 => if D25.2.1 v0 4 ≠ 0 then ob_bv (f_Reports_send S (D25.2.1 v0 4) D25) fun D29 => some D29 else none else none else none else none else none
theorem c_Handler_sendMemoryCheck {l : Launch} {E : ob_E} {S : ob_S} {D : ob_D} {v0 : Nat} {D' : ob_D} (hp_v0 : S.1 v0 = 12) (h : f_Handler_sendMemoryCheck S v0 D = some D') : ob_M l E k_Handler_sendMemoryCheck [.ref v0] S D none S D' := by
  refine ob_ofV (lo := [(0, .ref v0)]) (by decide) rfl (Nat.le_of_ble_eq_true rfl) rfl (Nat.le_refl _) (Nat.le_refl _) ?_
  rw [f_Handler_sendMemoryCheck] at h
  refine ob_aload d_Handler_sendMemoryCheck_0 rfl ?_
  obtain ⟨hg2, h⟩ := ob_gd h
  refine ob_getR d_Handler_sendMemoryCheck_1 F_11_4 l_Handler_36 hp_v0 hg2 (fun hk1 => ?_)
  refine ob_push d_Handler_sendMemoryCheck_4 ?_
  refine ob_push d_Handler_sendMemoryCheck_6 ?_
  refine ob_aload d_Handler_sendMemoryCheck_8 rfl ?_
  obtain ⟨hg4, h⟩ := ob_gd h
  refine ob_getR d_Handler_sendMemoryCheck_9 F_11_0 l_Handler_9 hp_v0 hg4 (fun hk3 => ?_)
  refine ob_getI d_Handler_sendMemoryCheck_12 F_10_8 l_Handler_58 hk3 ?_
  obtain ⟨x7, D5, h6, h⟩ := ob_bd_e h
  obtain ⟨hk8, h⟩ := ob_gd h
  refine ob_callVr (As := [.int (6 : Int32), .int (10 : Int32), .int (D.1 (D.2.1 v0 0) 8)]) (rest := []) d_Handler_sendMemoryCheck_15 c_Handler_sendMemoryCheck_115 hk1 rfl rfl (Nat.le_of_ble_eq_true rfl) (c_Reports_begin hk1 h6) ⟨Nat.le_refl _, Nat.le_refl _⟩ ⟨Nat.le_refl _, Nat.le_refl _⟩ ?_
  refine ob_astore (lo2 := [(0, .ref v0), (1, .ref x7)]) d_Handler_sendMemoryCheck_18 rfl ?_
  refine ob_aload d_Handler_sendMemoryCheck_19 rfl ?_
  refine ob_aload d_Handler_sendMemoryCheck_20 rfl ?_
  refine ob_push d_Handler_sendMemoryCheck_21 ?_
  refine ob_push d_Handler_sendMemoryCheck_22 ?_
  obtain ⟨x11, D9, h10, h⟩ := ob_bd_e h
  refine ob_callVi (As := [.int (0 : Int32), .int (4 : Int32)]) (rest := [.ref x7]) d_Handler_sendMemoryCheck_23 c_Handler_sendMemoryCheck_187 hp_v0 rfl rfl (Nat.le_of_ble_eq_true rfl) (c_Handler_data hp_v0 h10) ⟨Nat.le_refl _, Nat.le_refl _⟩ ⟨Nat.le_refl _, Nat.le_refl _⟩ ?_
  refine ob_push d_Handler_sendMemoryCheck_26 ?_
  obtain ⟨D12, h13, h⟩ := ob_bv_e h
  refine ob_callVv (As := [.int x11, .int (4 : Int32)]) (rest := []) d_Handler_sendMemoryCheck_27 c_Handler_sendMemoryCheck_121 hk8 rfl rfl (Nat.le_of_ble_eq_true rfl) (c_Row_add hk8 h13) ⟨Nat.le_refl _, Nat.le_refl _⟩ ⟨Nat.le_refl _, Nat.le_refl _⟩ ?_
  refine ob_aload d_Handler_sendMemoryCheck_30 rfl ?_
  refine ob_aload d_Handler_sendMemoryCheck_31 rfl ?_
  obtain ⟨hg15, h⟩ := ob_gd h
  refine ob_getR d_Handler_sendMemoryCheck_32 F_11_7 l_Handler_44 hp_v0 hg15 (fun hk14 => ?_)
  refine ob_aload d_Handler_sendMemoryCheck_35 rfl ?_
  refine ob_push d_Handler_sendMemoryCheck_36 ?_
  refine ob_push d_Handler_sendMemoryCheck_37 ?_
  obtain ⟨x18, D16, h17, h⟩ := ob_bd_e h
  refine ob_callVi (As := [.int (0 : Int32), .int (2 : Int32)]) (rest := [.ref (D12.2.1 v0 7), .ref x7]) d_Handler_sendMemoryCheck_38 c_Handler_sendMemoryCheck_187 hp_v0 rfl rfl (Nat.le_of_ble_eq_true rfl) (c_Handler_data hp_v0 h17) ⟨Nat.le_refl _, Nat.le_refl _⟩ ⟨Nat.le_refl _, Nat.le_refl _⟩ ?_
  refine ob_aload d_Handler_sendMemoryCheck_41 rfl ?_
  refine ob_push d_Handler_sendMemoryCheck_42 ?_
  refine ob_push d_Handler_sendMemoryCheck_43 ?_
  obtain ⟨x21, D19, h20, h⟩ := ob_bd_e h
  refine ob_callVi (As := [.int (2 : Int32), .int (2 : Int32)]) (rest := [.int x18, .ref (D12.2.1 v0 7), .ref x7]) d_Handler_sendMemoryCheck_44 c_Handler_sendMemoryCheck_187 hp_v0 rfl rfl (Nat.le_of_ble_eq_true rfl) (c_Handler_data hp_v0 h20) ⟨Nat.le_refl _, Nat.le_refl _⟩ ⟨Nat.le_refl _, Nat.le_refl _⟩ ?_
  obtain ⟨x24, D22, h23, h⟩ := ob_bd_e h
  refine ob_callVi (As := [.int x18, .int x21]) (rest := [.ref x7]) d_Handler_sendMemoryCheck_47 c_Handler_sendMemoryCheck_166 hk14 rfl rfl (Nat.le_of_ble_eq_true rfl) (c_Row_check hk14 h23) ⟨Nat.le_refl _, Nat.le_refl _⟩ ⟨Nat.le_refl _, Nat.le_refl _⟩ ?_
  refine ob_push d_Handler_sendMemoryCheck_50 ?_
  obtain ⟨D25, h26, h⟩ := ob_bv_e h
  refine ob_callVv (As := [.int x24, .int (2 : Int32)]) (rest := []) d_Handler_sendMemoryCheck_51 c_Handler_sendMemoryCheck_121 hk8 rfl rfl (Nat.le_of_ble_eq_true rfl) (c_Row_add hk8 h26) ⟨Nat.le_refl _, Nat.le_refl _⟩ ⟨Nat.le_refl _, Nat.le_refl _⟩ ?_
  refine ob_aload d_Handler_sendMemoryCheck_54 rfl ?_
  obtain ⟨hg28, h⟩ := ob_gd h
  refine ob_getR d_Handler_sendMemoryCheck_55 F_11_4 l_Handler_36 hp_v0 hg28 (fun hk27 => ?_)
  obtain ⟨D29, h30, h⟩ := ob_bv_e h
  refine ob_callVv (As := []) (rest := []) d_Handler_sendMemoryCheck_58 c_Handler_sendMemoryCheck_124 hk27 rfl rfl (Nat.le_of_ble_eq_true rfl) (c_Reports_send hk27 h30) ⟨Nat.le_refl _, Nat.le_refl _⟩ ⟨Nat.le_refl _, Nat.le_refl _⟩ ?_
  exact ob_ve h (ob_vret d_Handler_sendMemoryCheck_61 rfl)
-- OrbitBox$Handler.performFunction(III)V
theorem d_Handler_performFunction_1 : ob_dk k_Handler_performFunction 1 2 (1 : Int32) (.iconst 1) 1 := ⟨by decide +kernel, rfl, show Int32.ofInt 1 = (1 : Int32) by decide +kernel⟩
theorem d_Handler_performFunction_18 : ob_dk k_Handler_performFunction 18 19 (2 : Int32) (.iconst 2) 1 := ⟨by decide +kernel, rfl, show Int32.ofInt 2 = (2 : Int32) by decide +kernel⟩
theorem d_Handler_performFunction_34 : ob_dk k_Handler_performFunction 34 35 (3 : Int32) (.iconst 3) 1 := ⟨by decide +kernel, rfl, show Int32.ofInt 3 = (3 : Int32) by decide +kernel⟩
theorem d_Handler_performFunction_47 : ob_dc k_Handler_performFunction 47 (.return_) 1 48 := ⟨by decide +kernel, rfl⟩
theorem d_Handler_performFunction_44 : ob_dc k_Handler_performFunction 44 (.invokevirtual 339) 3 47 := ⟨by decide +kernel, rfl⟩
theorem d_Handler_performFunction_43 : ob_dv ob_lc k_Handler_performFunction 43 44 3 (.iload_n 3) 1 := ⟨by decide +kernel, rfl, rfl⟩
theorem d_Handler_performFunction_42 : ob_dv ob_lc k_Handler_performFunction 42 43 2 (.iload_n 2) 1 := ⟨by decide +kernel, rfl, rfl⟩
theorem d_Handler_performFunction_39 : ob_dc k_Handler_performFunction 39 (.getfield 31) 3 42 := ⟨by decide +kernel, rfl⟩
theorem d_Handler_performFunction_38 : ob_dv ob_ac k_Handler_performFunction 38 39 0 (.aload_n 0) 1 := ⟨by decide +kernel, rfl, rfl⟩
theorem d_Handler_performFunction_35 : ob_db k_Handler_performFunction 35 (.if_icmp .ne 12) 12 38 47 := ⟨by decide +kernel, rfl, by decide⟩
theorem d_Handler_performFunction_33 : ob_dv ob_lc k_Handler_performFunction 33 34 1 (.iload_n 1) 1 := ⟨by decide +kernel, rfl, rfl⟩
theorem d_Handler_performFunction_30 : ob_db k_Handler_performFunction 30 (.goto 17) 17 33 47 := ⟨by decide +kernel, rfl, by decide⟩
theorem d_Handler_performFunction_27 : ob_dc k_Handler_performFunction 27 (.invokevirtual 336) 3 30 := ⟨by decide +kernel, rfl⟩
theorem d_Handler_performFunction_26 : ob_dv ob_lc k_Handler_performFunction 26 27 2 (.iload_n 2) 1 := ⟨by decide +kernel, rfl, rfl⟩
theorem d_Handler_performFunction_23 : ob_dc k_Handler_performFunction 23 (.getfield 9) 3 26 := ⟨by decide +kernel, rfl⟩
theorem d_Handler_performFunction_22 : ob_dv ob_ac k_Handler_performFunction 22 23 0 (.aload_n 0) 1 := ⟨by decide +kernel, rfl, rfl⟩
theorem d_Handler_performFunction_19 : ob_db k_Handler_performFunction 19 (.if_icmp .ne 14) 14 22 33 := ⟨by decide +kernel, rfl, by decide⟩
theorem d_Handler_performFunction_17 : ob_dv ob_lc k_Handler_performFunction 17 18 1 (.iload_n 1) 1 := ⟨by decide +kernel, rfl, rfl⟩
theorem d_Handler_performFunction_14 : ob_db k_Handler_performFunction 14 (.goto 33) 33 17 47 := ⟨by decide +kernel, rfl, by decide⟩
theorem d_Handler_performFunction_11 : ob_dc k_Handler_performFunction 11 (.invokevirtual 333) 3 14 := ⟨by decide +kernel, rfl⟩
theorem d_Handler_performFunction_10 : ob_dv ob_lc k_Handler_performFunction 10 11 3 (.iload_n 3) 1 := ⟨by decide +kernel, rfl, rfl⟩
theorem d_Handler_performFunction_9 : ob_dv ob_lc k_Handler_performFunction 9 10 2 (.iload_n 2) 1 := ⟨by decide +kernel, rfl, rfl⟩
theorem d_Handler_performFunction_6 : ob_dc k_Handler_performFunction 6 (.getfield 9) 3 9 := ⟨by decide +kernel, rfl⟩
theorem d_Handler_performFunction_5 : ob_dv ob_ac k_Handler_performFunction 5 6 0 (.aload_n 0) 1 := ⟨by decide +kernel, rfl, rfl⟩
theorem d_Handler_performFunction_2 : ob_db k_Handler_performFunction 2 (.if_icmp .ne 15) 15 5 17 := ⟨by decide +kernel, rfl, by decide⟩
theorem d_Handler_performFunction_0 : ob_dv ob_lc k_Handler_performFunction 0 1 1 (.iload_n 1) 1 := ⟨by decide +kernel, rfl, rfl⟩
theorem c_Handler_performFunction_339 : ob_vd k_Handler_performFunction k_Events_raise 339 2 6 := ⟨cw_Events_raise, yd_Events_raise, w_804, w_797, w_798, w_7, ⟨_, _, rfl⟩, by decide, by decide⟩
theorem c_Handler_performFunction_336 : ob_vd k_Handler_performFunction k_Craft_changeMode 336 1 10 := ⟨cw_Craft_changeMode, yd_Craft_changeMode, w_792, w_793, w_794, w_12, ⟨_, _, rfl⟩, by decide, by decide⟩
theorem c_Handler_performFunction_333 : ob_vd k_Handler_performFunction k_Craft_actuate 333 2 10 := ⟨cw_Craft_actuate, yd_Craft_actuate, w_788, w_789, w_790, w_12, ⟨_, _, rfl⟩, by decide, by decide⟩
def f_Handler_performFunction (S : ob_S) (v0 : Nat) (v1 : Int32) (v2 : Int32) (v3 : Int32) (D : ob_D) : Option (ob_D) :=
  (if v1 = (1 : Int32) then if D.2.1 v0 0 ≠ 0 then ob_bv (f_Craft_actuate S (D.2.1 v0 0) v2 v3 D) fun D11 => some D11 else none else (if v1 = (2 : Int32) then if D.2.1 v0 0 ≠ 0 then ob_bv (f_Craft_changeMode S (D.2.1 v0 0) v2 D) fun D7 => some D7 else none else (if v1 = (3 : Int32) then if D.2.1 v0 3 ≠ 0 then ob_bv (f_Events_raise S (D.2.1 v0 3) v2 v3 D) fun D3 => some D3 else none else some D)))
theorem c_Handler_performFunction {l : Launch} {E : ob_E} {S : ob_S} {D : ob_D} {v0 : Nat} {v1 : Int32} {v2 : Int32} {v3 : Int32} {D' : ob_D} (hp_v0 : S.1 v0 = 12) (h : f_Handler_performFunction S v0 v1 v2 v3 D = some D') : ob_M l E k_Handler_performFunction [.ref v0, .int v1, .int v2, .int v3] S D none S D' := by
  refine ob_ofV (lo := [(0, .ref v0), (1, .int v1), (2, .int v2), (3, .int v3)]) (by decide) rfl (Nat.le_of_ble_eq_true rfl) rfl (Nat.le_refl _) (Nat.le_refl _) ?_
  rw [f_Handler_performFunction] at h
  refine ob_iload d_Handler_performFunction_0 rfl ?_
  refine ob_push d_Handler_performFunction_1 ?_
  refine ob_icmp_ne d_Handler_performFunction_2 (fun hc => ?_) (fun hc => ?_)
  · replace h := ob_iff hc h
    refine ob_iload d_Handler_performFunction_17 rfl ?_
    refine ob_push d_Handler_performFunction_18 ?_
    refine ob_icmp_ne d_Handler_performFunction_19 (fun hc => ?_) (fun hc => ?_)
    · replace h := ob_iff hc h
      refine ob_iload d_Handler_performFunction_33 rfl ?_
      refine ob_push d_Handler_performFunction_34 ?_
      refine ob_icmp_ne d_Handler_performFunction_35 (fun hc => ?_) (fun hc => ?_)
      · replace h := ob_iff hc h
        exact ob_ve h (ob_vret d_Handler_performFunction_47 rfl)
      · replace h := ob_ift hc h
        refine ob_aload d_Handler_performFunction_38 rfl ?_
        obtain ⟨hg2, h⟩ := ob_gd h
        refine ob_getR d_Handler_performFunction_39 F_11_3 l_Handler_31 hp_v0 hg2 (fun hk1 => ?_)
        refine ob_iload d_Handler_performFunction_42 rfl ?_
        refine ob_iload d_Handler_performFunction_43 rfl ?_
        obtain ⟨D3, h4, h⟩ := ob_bv_e h
        refine ob_callVv (As := [.int v2, .int v3]) (rest := []) d_Handler_performFunction_44 c_Handler_performFunction_339 hk1 rfl rfl (Nat.le_of_ble_eq_true rfl) (c_Events_raise hk1 h4) ⟨Nat.le_refl _, Nat.le_refl _⟩ ⟨Nat.le_refl _, Nat.le_refl _⟩ ?_
        exact ob_ve h (ob_vret d_Handler_performFunction_47 rfl)
    · replace h := ob_ift hc h
      refine ob_aload d_Handler_performFunction_22 rfl ?_
      obtain ⟨hg6, h⟩ := ob_gd h
      refine ob_getR d_Handler_performFunction_23 F_11_0 l_Handler_9 hp_v0 hg6 (fun hk5 => ?_)
      refine ob_iload d_Handler_performFunction_26 rfl ?_
      obtain ⟨D7, h8, h⟩ := ob_bv_e h
      refine ob_callVv (As := [.int v2]) (rest := []) d_Handler_performFunction_27 c_Handler_performFunction_336 hk5 rfl rfl (Nat.le_of_ble_eq_true rfl) (c_Craft_changeMode hk5 h8) ⟨Nat.le_refl _, Nat.le_refl _⟩ ⟨Nat.le_refl _, Nat.le_refl _⟩ ?_
      refine ob_goto d_Handler_performFunction_30 ?_
      exact ob_ve h (ob_vret d_Handler_performFunction_47 rfl)
  · replace h := ob_ift hc h
    refine ob_aload d_Handler_performFunction_5 rfl ?_
    obtain ⟨hg10, h⟩ := ob_gd h
    refine ob_getR d_Handler_performFunction_6 F_11_0 l_Handler_9 hp_v0 hg10 (fun hk9 => ?_)
    refine ob_iload d_Handler_performFunction_9 rfl ?_
    refine ob_iload d_Handler_performFunction_10 rfl ?_
    obtain ⟨D11, h12, h⟩ := ob_bv_e h
    refine ob_callVv (As := [.int v2, .int v3]) (rest := []) d_Handler_performFunction_11 c_Handler_performFunction_333 hk9 rfl rfl (Nat.le_of_ble_eq_true rfl) (c_Craft_actuate hk9 h12) ⟨Nat.le_refl _, Nat.le_refl _⟩ ⟨Nat.le_refl _, Nat.le_refl _⟩ ?_
    refine ob_goto d_Handler_performFunction_14 ?_
    exact ob_ve h (ob_vret d_Handler_performFunction_47 rfl)
-- OrbitBox$Handler.tellEntries()V
theorem d_Handler_tellEntries_8 : ob_dk k_Handler_tellEntries 8 10 (11 : Int32) (.bipush 11) 2 := ⟨by decide +kernel, rfl, show (Int8.ofInt 11).toInt32 = (11 : Int32) by decide +kernel⟩
theorem d_Handler_tellEntries_10 : ob_dk k_Handler_tellEntries 10 12 (13 : Int32) (.bipush 13) 2 := ⟨by decide +kernel, rfl, show (Int8.ofInt 13).toInt32 = (13 : Int32) by decide +kernel⟩
theorem d_Handler_tellEntries_32 : ob_dc k_Handler_tellEntries 32 (.return_) 1 33 := ⟨by decide +kernel, rfl⟩
theorem d_Handler_tellEntries_29 : ob_dc k_Handler_tellEntries 29 (.invokevirtual 124) 3 32 := ⟨by decide +kernel, rfl⟩
theorem d_Handler_tellEntries_26 : ob_dc k_Handler_tellEntries 26 (.getfield 36) 3 29 := ⟨by decide +kernel, rfl⟩
theorem d_Handler_tellEntries_25 : ob_dv ob_ac k_Handler_tellEntries 25 26 0 (.aload_n 0) 1 := ⟨by decide +kernel, rfl, rfl⟩
theorem d_Handler_tellEntries_22 : ob_dc k_Handler_tellEntries 22 (.invokevirtual 342) 3 25 := ⟨by decide +kernel, rfl⟩
theorem d_Handler_tellEntries_19 : ob_dc k_Handler_tellEntries 19 (.invokevirtual 115) 3 22 := ⟨by decide +kernel, rfl⟩
theorem d_Handler_tellEntries_16 : ob_dc k_Handler_tellEntries 16 (.getfield 58) 3 19 := ⟨by decide +kernel, rfl⟩
theorem d_Handler_tellEntries_13 : ob_dc k_Handler_tellEntries 13 (.getfield 9) 3 16 := ⟨by decide +kernel, rfl⟩
theorem d_Handler_tellEntries_12 : ob_dv ob_ac k_Handler_tellEntries 12 13 0 (.aload_n 0) 1 := ⟨by decide +kernel, rfl, rfl⟩
theorem d_Handler_tellEntries_5 : ob_dc k_Handler_tellEntries 5 (.getfield 36) 3 8 := ⟨by decide +kernel, rfl⟩
theorem d_Handler_tellEntries_4 : ob_dv ob_ac k_Handler_tellEntries 4 5 0 (.aload_n 0) 1 := ⟨by decide +kernel, rfl, rfl⟩
theorem d_Handler_tellEntries_1 : ob_dc k_Handler_tellEntries 1 (.getfield 26) 3 4 := ⟨by decide +kernel, rfl⟩
theorem d_Handler_tellEntries_0 : ob_dv ob_ac k_Handler_tellEntries 0 1 0 (.aload_n 0) 1 := ⟨by decide +kernel, rfl, rfl⟩
theorem c_Handler_tellEntries_124 : ob_vd k_Handler_tellEntries k_Reports_send 124 0 8 := ⟨cw_Reports_send, yd_Reports_send, w_613, w_614, w_615, w_11, ⟨_, _, rfl⟩, by decide, by decide⟩
theorem c_Handler_tellEntries_342 : ob_vd k_Handler_tellEntries k_Timetable_tell 342 1 5 := ⟨cw_Timetable_tell, yd_Timetable_tell, w_822, w_823, w_824, w_5, ⟨_, _, rfl⟩, by decide, by decide⟩
theorem c_Handler_tellEntries_115 : ob_vd k_Handler_tellEntries k_Reports_begin 115 3 8 := ⟨cw_Reports_begin, yd_Reports_begin, w_606, w_607, w_608, w_11, ⟨_, _, rfl⟩, by decide, by decide⟩
def f_Handler_tellEntries (S : ob_S) (v0 : Nat) (D : ob_D) : Option (ob_D) :=
  if D.2.1 v0 2 ≠ 0 then if D.2.1 v0 4 ≠ 0 then if D.2.1 v0 0 ≠ 0 then ob_bd (f_Reports_begin S (D.2.1 v0 4) (11 : Int32) (13 : Int32) (D.1 (D.2.1 v0 0) 8) D) fun x9 D7 => if S.1 x9 = 2 then ob_bv (f_Timetable_tell S (D.2.1 v0 2) x9 D7) fun D11 => if D11.2.1 v0 4 ≠ 0 then ob_bv (f_Reports_send S (D11.2.1 v0 4) D11) fun D15 => some D15 else none else none else none else none else none
theorem c_Handler_tellEntries {l : Launch} {E : ob_E} {S : ob_S} {D : ob_D} {v0 : Nat} {D' : ob_D} (hp_v0 : S.1 v0 = 12) (h : f_Handler_tellEntries S v0 D = some D') : ob_M l E k_Handler_tellEntries [.ref v0] S D none S D' := by
  refine ob_ofV (lo := [(0, .ref v0)]) (by decide) rfl (Nat.le_of_ble_eq_true rfl) rfl (Nat.le_refl _) (Nat.le_refl _) ?_
  rw [f_Handler_tellEntries] at h
  refine ob_aload d_Handler_tellEntries_0 rfl ?_
  obtain ⟨hg2, h⟩ := ob_gd h
  refine ob_getR d_Handler_tellEntries_1 F_11_2 l_Handler_26 hp_v0 hg2 (fun hk1 => ?_)
  refine ob_aload d_Handler_tellEntries_4 rfl ?_
  obtain ⟨hg4, h⟩ := ob_gd h
  refine ob_getR d_Handler_tellEntries_5 F_11_4 l_Handler_36 hp_v0 hg4 (fun hk3 => ?_)
  refine ob_push d_Handler_tellEntries_8 ?_
  refine ob_push d_Handler_tellEntries_10 ?_
  refine ob_aload d_Handler_tellEntries_12 rfl ?_
  obtain ⟨hg6, h⟩ := ob_gd h
  refine ob_getR d_Handler_tellEntries_13 F_11_0 l_Handler_9 hp_v0 hg6 (fun hk5 => ?_)
  refine ob_getI d_Handler_tellEntries_16 F_10_8 l_Handler_58 hk5 ?_
  obtain ⟨x9, D7, h8, h⟩ := ob_bd_e h
  obtain ⟨hk10, h⟩ := ob_gd h
  refine ob_callVr (As := [.int (11 : Int32), .int (13 : Int32), .int (D.1 (D.2.1 v0 0) 8)]) (rest := [.ref (D.2.1 v0 2)]) d_Handler_tellEntries_19 c_Handler_tellEntries_115 hk3 rfl rfl (Nat.le_of_ble_eq_true rfl) (c_Reports_begin hk3 h8) ⟨Nat.le_refl _, Nat.le_refl _⟩ ⟨Nat.le_refl _, Nat.le_refl _⟩ ?_
  obtain ⟨D11, h12, h⟩ := ob_bv_e h
  refine ob_callVv (As := [.ref x9]) (rest := []) d_Handler_tellEntries_22 c_Handler_tellEntries_342 hk1 rfl rfl (Nat.le_of_ble_eq_true rfl) (c_Timetable_tell hk1 hk10 h12) ⟨Nat.le_refl _, Nat.le_refl _⟩ ⟨Nat.le_refl _, Nat.le_refl _⟩ ?_
  refine ob_aload d_Handler_tellEntries_25 rfl ?_
  obtain ⟨hg14, h⟩ := ob_gd h
  refine ob_getR d_Handler_tellEntries_26 F_11_4 l_Handler_36 hp_v0 hg14 (fun hk13 => ?_)
  obtain ⟨D15, h16, h⟩ := ob_bv_e h
  refine ob_callVv (As := []) (rest := []) d_Handler_tellEntries_29 c_Handler_tellEntries_124 hk13 rfl rfl (Nat.le_of_ble_eq_true rfl) (c_Reports_send hk13 h16) ⟨Nat.le_refl _, Nat.le_refl _⟩ ⟨Nat.le_refl _, Nat.le_refl _⟩ ?_
  exact ob_ve h (ob_vret d_Handler_tellEntries_32 rfl)
-- OrbitBox$Handler.switchLimit(II)V
theorem d_Handler_switchLimit_5 : ob_dk k_Handler_switchLimit 5 6 (1 : Int32) (.iconst 1) 1 := ⟨by decide +kernel, rfl, show Int32.ofInt 1 = (1 : Int32) by decide +kernel⟩
theorem d_Handler_switchLimit_15 : ob_dk k_Handler_switchLimit 15 16 (2 : Int32) (.iconst 2) 1 := ⟨by decide +kernel, rfl, show Int32.ofInt 2 = (2 : Int32) by decide +kernel⟩
theorem d_Handler_switchLimit_16 : ob_dk k_Handler_switchLimit 16 17 (0 : Int32) (.iconst 0) 1 := ⟨by decide +kernel, rfl, show Int32.ofInt 0 = (0 : Int32) by decide +kernel⟩
theorem d_Handler_switchLimit_20 : ob_dc k_Handler_switchLimit 20 (.return_) 1 21 := ⟨by decide +kernel, rfl⟩
theorem d_Handler_switchLimit_17 : ob_dc k_Handler_switchLimit 17 (.invokevirtual 256) 3 20 := ⟨by decide +kernel, rfl⟩
theorem d_Handler_switchLimit_14 : ob_dv ob_lc k_Handler_switchLimit 14 15 1 (.iload_n 1) 1 := ⟨by decide +kernel, rfl, rfl⟩
theorem d_Handler_switchLimit_11 : ob_dc k_Handler_switchLimit 11 (.getfield 41) 3 14 := ⟨by decide +kernel, rfl⟩
theorem d_Handler_switchLimit_10 : ob_dv ob_ac k_Handler_switchLimit 10 11 0 (.aload_n 0) 1 := ⟨by decide +kernel, rfl, rfl⟩
theorem d_Handler_switchLimit_7 : ob_dc k_Handler_switchLimit 7 (.invokevirtual 256) 3 10 := ⟨by decide +kernel, rfl⟩
theorem d_Handler_switchLimit_6 : ob_dv ob_lc k_Handler_switchLimit 6 7 2 (.iload_n 2) 1 := ⟨by decide +kernel, rfl, rfl⟩
theorem d_Handler_switchLimit_4 : ob_dv ob_lc k_Handler_switchLimit 4 5 1 (.iload_n 1) 1 := ⟨by decide +kernel, rfl, rfl⟩
theorem d_Handler_switchLimit_1 : ob_dc k_Handler_switchLimit 1 (.getfield 41) 3 4 := ⟨by decide +kernel, rfl⟩
theorem d_Handler_switchLimit_0 : ob_dv ob_ac k_Handler_switchLimit 0 1 0 (.aload_n 0) 1 := ⟨by decide +kernel, rfl, rfl⟩
theorem c_Handler_switchLimit_256 : ob_vd k_Handler_switchLimit k_Table_set 256 3 7 := ⟨cw_Table_set, yd_Table_set, w_749, w_750, w_751, w_9, ⟨_, _, rfl⟩, by decide, by decide⟩
def f_Handler_switchLimit (S : ob_S) (v0 : Nat) (v1 : Int32) (v2 : Int32) (D : ob_D) : Option (ob_D) :=
  if D.2.1 v0 6 ≠ 0 then ob_bv (f_Table_set S (D.2.1 v0 6) v1 (1 : Int32) v2 D) fun D3 => if D3.2.1 v0 6 ≠ 0 then ob_bv (f_Table_set S (D3.2.1 v0 6) v1 (2 : Int32) (0 : Int32) D3) fun D7 => some D7 else none else none
theorem c_Handler_switchLimit {l : Launch} {E : ob_E} {S : ob_S} {D : ob_D} {v0 : Nat} {v1 : Int32} {v2 : Int32} {D' : ob_D} (hp_v0 : S.1 v0 = 12) (h : f_Handler_switchLimit S v0 v1 v2 D = some D') : ob_M l E k_Handler_switchLimit [.ref v0, .int v1, .int v2] S D none S D' := by
  refine ob_ofV (lo := [(0, .ref v0), (1, .int v1), (2, .int v2)]) (by decide) rfl (Nat.le_of_ble_eq_true rfl) rfl (Nat.le_refl _) (Nat.le_refl _) ?_
  rw [f_Handler_switchLimit] at h
  refine ob_aload d_Handler_switchLimit_0 rfl ?_
  obtain ⟨hg2, h⟩ := ob_gd h
  refine ob_getR d_Handler_switchLimit_1 F_11_6 l_Handler_41 hp_v0 hg2 (fun hk1 => ?_)
  refine ob_iload d_Handler_switchLimit_4 rfl ?_
  refine ob_push d_Handler_switchLimit_5 ?_
  refine ob_iload d_Handler_switchLimit_6 rfl ?_
  obtain ⟨D3, h4, h⟩ := ob_bv_e h
  refine ob_callVv (As := [.int v1, .int (1 : Int32), .int v2]) (rest := []) d_Handler_switchLimit_7 c_Handler_switchLimit_256 hk1 rfl rfl (Nat.le_of_ble_eq_true rfl) (c_Table_set hk1 h4) ⟨Nat.le_refl _, Nat.le_refl _⟩ ⟨Nat.le_refl _, Nat.le_refl _⟩ ?_
  refine ob_aload d_Handler_switchLimit_10 rfl ?_
  obtain ⟨hg6, h⟩ := ob_gd h
  refine ob_getR d_Handler_switchLimit_11 F_11_6 l_Handler_41 hp_v0 hg6 (fun hk5 => ?_)
  refine ob_iload d_Handler_switchLimit_14 rfl ?_
  refine ob_push d_Handler_switchLimit_15 ?_
  refine ob_push d_Handler_switchLimit_16 ?_
  obtain ⟨D7, h8, h⟩ := ob_bv_e h
  refine ob_callVv (As := [.int v1, .int (2 : Int32), .int (0 : Int32)]) (rest := []) d_Handler_switchLimit_17 c_Handler_switchLimit_256 hk5 rfl rfl (Nat.le_of_ble_eq_true rfl) (c_Table_set hk5 h8) ⟨Nat.le_refl _, Nat.le_refl _⟩ ⟨Nat.le_refl _, Nat.le_refl _⟩ ?_
  exact ob_ve h (ob_vret d_Handler_switchLimit_20 rfl)
-- OrbitBox$Handler.addLimit()V
theorem d_Handler_addLimit_5 : ob_dk k_Handler_addLimit 5 6 (0 : Int32) (.iconst 0) 1 := ⟨by decide +kernel, rfl, show Int32.ofInt 0 = (0 : Int32) by decide +kernel⟩
theorem d_Handler_addLimit_6 : ob_dk k_Handler_addLimit 6 7 (1 : Int32) (.iconst 1) 1 := ⟨by decide +kernel, rfl, show Int32.ofInt 1 = (1 : Int32) by decide +kernel⟩
theorem d_Handler_addLimit_19 : ob_dk k_Handler_addLimit 19 20 (3 : Int32) (.iconst 3) 1 := ⟨by decide +kernel, rfl, show Int32.ofInt 3 = (3 : Int32) by decide +kernel⟩
theorem d_Handler_addLimit_21 : ob_dk k_Handler_addLimit 21 22 (1 : Int32) (.iconst 1) 1 := ⟨by decide +kernel, rfl, show Int32.ofInt 1 = (1 : Int32) by decide +kernel⟩
theorem d_Handler_addLimit_22 : ob_dk k_Handler_addLimit 22 23 (1 : Int32) (.iconst 1) 1 := ⟨by decide +kernel, rfl, show Int32.ofInt 1 = (1 : Int32) by decide +kernel⟩
theorem d_Handler_addLimit_34 : ob_dk k_Handler_addLimit 34 35 (4 : Int32) (.iconst 4) 1 := ⟨by decide +kernel, rfl, show Int32.ofInt 4 = (4 : Int32) by decide +kernel⟩
theorem d_Handler_addLimit_36 : ob_dk k_Handler_addLimit 36 37 (2 : Int32) (.iconst 2) 1 := ⟨by decide +kernel, rfl, show Int32.ofInt 2 = (2 : Int32) by decide +kernel⟩
theorem d_Handler_addLimit_37 : ob_dk k_Handler_addLimit 37 38 (1 : Int32) (.iconst 1) 1 := ⟨by decide +kernel, rfl, show Int32.ofInt 1 = (1 : Int32) by decide +kernel⟩
theorem d_Handler_addLimit_49 : ob_dk k_Handler_addLimit 49 50 (5 : Int32) (.iconst 5) 1 := ⟨by decide +kernel, rfl, show Int32.ofInt 5 = (5 : Int32) by decide +kernel⟩
theorem d_Handler_addLimit_51 : ob_dk k_Handler_addLimit 51 52 (3 : Int32) (.iconst 3) 1 := ⟨by decide +kernel, rfl, show Int32.ofInt 3 = (3 : Int32) by decide +kernel⟩
theorem d_Handler_addLimit_52 : ob_dk k_Handler_addLimit 52 53 (4 : Int32) (.iconst 4) 1 := ⟨by decide +kernel, rfl, show Int32.ofInt 4 = (4 : Int32) by decide +kernel⟩
theorem d_Handler_addLimit_64 : ob_dk k_Handler_addLimit 64 66 (6 : Int32) (.bipush 6) 2 := ⟨by decide +kernel, rfl, show (Int8.ofInt 6).toInt32 = (6 : Int32) by decide +kernel⟩
theorem d_Handler_addLimit_67 : ob_dk k_Handler_addLimit 67 69 (7 : Int32) (.bipush 7) 2 := ⟨by decide +kernel, rfl, show (Int8.ofInt 7).toInt32 = (7 : Int32) by decide +kernel⟩
theorem d_Handler_addLimit_69 : ob_dk k_Handler_addLimit 69 70 (4 : Int32) (.iconst 4) 1 := ⟨by decide +kernel, rfl, show Int32.ofInt 4 = (4 : Int32) by decide +kernel⟩
theorem d_Handler_addLimit_81 : ob_dk k_Handler_addLimit 81 83 (7 : Int32) (.bipush 7) 2 := ⟨by decide +kernel, rfl, show (Int8.ofInt 7).toInt32 = (7 : Int32) by decide +kernel⟩
theorem d_Handler_addLimit_84 : ob_dk k_Handler_addLimit 84 86 (11 : Int32) (.bipush 11) 2 := ⟨by decide +kernel, rfl, show (Int8.ofInt 11).toInt32 = (11 : Int32) by decide +kernel⟩
theorem d_Handler_addLimit_86 : ob_dk k_Handler_addLimit 86 87 (1 : Int32) (.iconst 1) 1 := ⟨by decide +kernel, rfl, show Int32.ofInt 1 = (1 : Int32) by decide +kernel⟩
theorem d_Handler_addLimit_98 : ob_dk k_Handler_addLimit 98 100 (8 : Int32) (.bipush 8) 2 := ⟨by decide +kernel, rfl, show (Int8.ofInt 8).toInt32 = (8 : Int32) by decide +kernel⟩
theorem d_Handler_addLimit_101 : ob_dk k_Handler_addLimit 101 103 (12 : Int32) (.bipush 12) 2 := ⟨by decide +kernel, rfl, show (Int8.ofInt 12).toInt32 = (12 : Int32) by decide +kernel⟩
theorem d_Handler_addLimit_103 : ob_dk k_Handler_addLimit 103 104 (1 : Int32) (.iconst 1) 1 := ⟨by decide +kernel, rfl, show Int32.ofInt 1 = (1 : Int32) by decide +kernel⟩
theorem d_Handler_addLimit_110 : ob_dc k_Handler_addLimit 110 (.return_) 1 111 := ⟨by decide +kernel, rfl⟩
theorem d_Handler_addLimit_107 : ob_dc k_Handler_addLimit 107 (.invokevirtual 256) 3 110 := ⟨by decide +kernel, rfl⟩
theorem d_Handler_addLimit_104 : ob_dc k_Handler_addLimit 104 (.invokevirtual 187) 3 107 := ⟨by decide +kernel, rfl⟩
theorem d_Handler_addLimit_100 : ob_dv ob_ac k_Handler_addLimit 100 101 0 (.aload_n 0) 1 := ⟨by decide +kernel, rfl, rfl⟩
theorem d_Handler_addLimit_97 : ob_dv ob_lc k_Handler_addLimit 97 98 1 (.iload_n 1) 1 := ⟨by decide +kernel, rfl, rfl⟩
theorem d_Handler_addLimit_94 : ob_dc k_Handler_addLimit 94 (.getfield 41) 3 97 := ⟨by decide +kernel, rfl⟩
theorem d_Handler_addLimit_93 : ob_dv ob_ac k_Handler_addLimit 93 94 0 (.aload_n 0) 1 := ⟨by decide +kernel, rfl, rfl⟩
theorem d_Handler_addLimit_90 : ob_dc k_Handler_addLimit 90 (.invokevirtual 256) 3 93 := ⟨by decide +kernel, rfl⟩
theorem d_Handler_addLimit_87 : ob_dc k_Handler_addLimit 87 (.invokevirtual 187) 3 90 := ⟨by decide +kernel, rfl⟩
theorem d_Handler_addLimit_83 : ob_dv ob_ac k_Handler_addLimit 83 84 0 (.aload_n 0) 1 := ⟨by decide +kernel, rfl, rfl⟩
theorem d_Handler_addLimit_80 : ob_dv ob_lc k_Handler_addLimit 80 81 1 (.iload_n 1) 1 := ⟨by decide +kernel, rfl, rfl⟩
theorem d_Handler_addLimit_77 : ob_dc k_Handler_addLimit 77 (.getfield 41) 3 80 := ⟨by decide +kernel, rfl⟩
theorem d_Handler_addLimit_76 : ob_dv ob_ac k_Handler_addLimit 76 77 0 (.aload_n 0) 1 := ⟨by decide +kernel, rfl, rfl⟩
theorem d_Handler_addLimit_73 : ob_dc k_Handler_addLimit 73 (.invokevirtual 256) 3 76 := ⟨by decide +kernel, rfl⟩
theorem d_Handler_addLimit_70 : ob_dc k_Handler_addLimit 70 (.invokevirtual 187) 3 73 := ⟨by decide +kernel, rfl⟩
theorem d_Handler_addLimit_66 : ob_dv ob_ac k_Handler_addLimit 66 67 0 (.aload_n 0) 1 := ⟨by decide +kernel, rfl, rfl⟩
theorem d_Handler_addLimit_63 : ob_dv ob_lc k_Handler_addLimit 63 64 1 (.iload_n 1) 1 := ⟨by decide +kernel, rfl, rfl⟩
theorem d_Handler_addLimit_60 : ob_dc k_Handler_addLimit 60 (.getfield 41) 3 63 := ⟨by decide +kernel, rfl⟩
theorem d_Handler_addLimit_59 : ob_dv ob_ac k_Handler_addLimit 59 60 0 (.aload_n 0) 1 := ⟨by decide +kernel, rfl, rfl⟩
theorem d_Handler_addLimit_56 : ob_dc k_Handler_addLimit 56 (.invokevirtual 256) 3 59 := ⟨by decide +kernel, rfl⟩
theorem d_Handler_addLimit_53 : ob_dc k_Handler_addLimit 53 (.invokevirtual 187) 3 56 := ⟨by decide +kernel, rfl⟩
theorem d_Handler_addLimit_50 : ob_dv ob_ac k_Handler_addLimit 50 51 0 (.aload_n 0) 1 := ⟨by decide +kernel, rfl, rfl⟩
theorem d_Handler_addLimit_48 : ob_dv ob_lc k_Handler_addLimit 48 49 1 (.iload_n 1) 1 := ⟨by decide +kernel, rfl, rfl⟩
theorem d_Handler_addLimit_45 : ob_dc k_Handler_addLimit 45 (.getfield 41) 3 48 := ⟨by decide +kernel, rfl⟩
theorem d_Handler_addLimit_44 : ob_dv ob_ac k_Handler_addLimit 44 45 0 (.aload_n 0) 1 := ⟨by decide +kernel, rfl, rfl⟩
theorem d_Handler_addLimit_41 : ob_dc k_Handler_addLimit 41 (.invokevirtual 256) 3 44 := ⟨by decide +kernel, rfl⟩
theorem d_Handler_addLimit_38 : ob_dc k_Handler_addLimit 38 (.invokevirtual 187) 3 41 := ⟨by decide +kernel, rfl⟩
theorem d_Handler_addLimit_35 : ob_dv ob_ac k_Handler_addLimit 35 36 0 (.aload_n 0) 1 := ⟨by decide +kernel, rfl, rfl⟩
theorem d_Handler_addLimit_33 : ob_dv ob_lc k_Handler_addLimit 33 34 1 (.iload_n 1) 1 := ⟨by decide +kernel, rfl, rfl⟩
theorem d_Handler_addLimit_30 : ob_dc k_Handler_addLimit 30 (.getfield 41) 3 33 := ⟨by decide +kernel, rfl⟩
theorem d_Handler_addLimit_29 : ob_dv ob_ac k_Handler_addLimit 29 30 0 (.aload_n 0) 1 := ⟨by decide +kernel, rfl, rfl⟩
theorem d_Handler_addLimit_26 : ob_dc k_Handler_addLimit 26 (.invokevirtual 256) 3 29 := ⟨by decide +kernel, rfl⟩
theorem d_Handler_addLimit_23 : ob_dc k_Handler_addLimit 23 (.invokevirtual 187) 3 26 := ⟨by decide +kernel, rfl⟩
theorem d_Handler_addLimit_20 : ob_dv ob_ac k_Handler_addLimit 20 21 0 (.aload_n 0) 1 := ⟨by decide +kernel, rfl, rfl⟩
theorem d_Handler_addLimit_18 : ob_dv ob_lc k_Handler_addLimit 18 19 1 (.iload_n 1) 1 := ⟨by decide +kernel, rfl, rfl⟩
theorem d_Handler_addLimit_15 : ob_dc k_Handler_addLimit 15 (.getfield 41) 3 18 := ⟨by decide +kernel, rfl⟩
theorem d_Handler_addLimit_14 : ob_dv ob_ac k_Handler_addLimit 14 15 0 (.aload_n 0) 1 := ⟨by decide +kernel, rfl, rfl⟩
theorem d_Handler_addLimit_13 : ob_dv (ob_sc k_Handler_addLimit.2.2.2.1) k_Handler_addLimit 13 14 1 (.istore_n 1) 1 := ⟨by decide +kernel, rfl, ⟨rfl, by decide +kernel⟩⟩
theorem d_Handler_addLimit_10 : ob_dc k_Handler_addLimit 10 (.invokevirtual 313) 3 13 := ⟨by decide +kernel, rfl⟩
theorem d_Handler_addLimit_7 : ob_dc k_Handler_addLimit 7 (.invokevirtual 187) 3 10 := ⟨by decide +kernel, rfl⟩
theorem d_Handler_addLimit_4 : ob_dv ob_ac k_Handler_addLimit 4 5 0 (.aload_n 0) 1 := ⟨by decide +kernel, rfl, rfl⟩
theorem d_Handler_addLimit_1 : ob_dc k_Handler_addLimit 1 (.getfield 41) 3 4 := ⟨by decide +kernel, rfl⟩
theorem d_Handler_addLimit_0 : ob_dv ob_ac k_Handler_addLimit 0 1 0 (.aload_n 0) 1 := ⟨by decide +kernel, rfl, rfl⟩
theorem c_Handler_addLimit_256 : ob_vd k_Handler_addLimit k_Table_set 256 3 7 := ⟨cw_Table_set, yd_Table_set, w_749, w_750, w_751, w_9, ⟨_, _, rfl⟩, by decide, by decide⟩
theorem c_Handler_addLimit_187 : ob_vd k_Handler_addLimit k_Handler_data 187 2 11 := ⟨cw_Handler_data, yd_Handler_data, w_663, w_665, wp_16, w_13, ⟨_, _, rfl⟩, by decide, by decide⟩
theorem c_Handler_addLimit_313 : ob_vd k_Handler_addLimit k_Table_add 313 1 7 := ⟨cw_Table_add, yd_Table_add, w_744, w_745, w_746, w_9, ⟨_, _, rfl⟩, by decide, by decide⟩
def f_Handler_addLimit (S : ob_S) (v0 : Nat) (D : ob_D) : Option (ob_D) :=
  if D.2.1 v0 6 ≠ 0 then ob_bd (f_Handler_data S v0 (0 : Int32) (1 : Int32) D) fun x5 D3 => ob_bd (f_Table_add S (D.2.1 v0 6) x5 D3) fun x8 D6 => if D6.2.1 v0 6 ≠ 0 then ob_bd (f_Handler_data S v0 (1 : Int32) (1 : Int32) D6) fun x13 D11 => ob_bv (f_Table_set S (D6.2.1 v0 6) x8 (3 : Int32) x13 D11) fun D14 => if D14.2.1 v0 6 ≠ 0 then ob_bd (f_Handler_data S v0 (2 : Int32) (1 : Int32) D14) fun x20 D18 => ob_bv (f_Table_set S (D14.2.1 v0 6) x8 (4 : Int32) x20 D18) fun D21 => if D21.2.1 v0 6 ≠ 0 then ob_bd (f_Handler_data S v0 (3 : Int32) (4 : Int32) D21) fun x27 D25 => ob_bv (f_Table_set S (D21.2.1 v0 6) x8 (5 : Int32) x27 D25) fun D28 => if D28.2.1 v0 6 ≠ 0 then ob_bd (f_Handler_data S v0 (7 : Int32) (4 : Int32) D28) fun x34 D32 => ob_bv (f_Table_set S (D28.2.1 v0 6) x8 (6 : Int32) x34 D32) fun D35 => if D35.2.1 v0 6 ≠ 0 then ob_bd (f_Handler_data S v0 (11 : Int32) (1 : Int32) D35) fun x41 D39 => ob_bv (f_Table_set S (D35.2.1 v0 6) x8 (7 : Int32) x41 D39) fun D42 => if D42.2.1 v0 6 ≠ 0 then ob_bd (f_Handler_data S v0 (12 : Int32) (1 : Int32) D42) fun x48 D46 => ob_bv (f_Table_set S (D42.2.1 v0 6) x8 (8 : Int32) x48 D46) fun D49 => some D49 else none else none else none else none else none else none else none
theorem c_Handler_addLimit {l : Launch} {E : ob_E} {S : ob_S} {D : ob_D} {v0 : Nat} {D' : ob_D} (hp_v0 : S.1 v0 = 12) (h : f_Handler_addLimit S v0 D = some D') : ob_M l E k_Handler_addLimit [.ref v0] S D none S D' := by
  refine ob_ofV (lo := [(0, .ref v0)]) (by decide) rfl (Nat.le_of_ble_eq_true rfl) rfl (Nat.le_refl _) (Nat.le_refl _) ?_
  rw [f_Handler_addLimit] at h
  refine ob_aload d_Handler_addLimit_0 rfl ?_
  obtain ⟨hg2, h⟩ := ob_gd h
  refine ob_getR d_Handler_addLimit_1 F_11_6 l_Handler_41 hp_v0 hg2 (fun hk1 => ?_)
  refine ob_aload d_Handler_addLimit_4 rfl ?_
  refine ob_push d_Handler_addLimit_5 ?_
  refine ob_push d_Handler_addLimit_6 ?_
  obtain ⟨x5, D3, h4, h⟩ := ob_bd_e h
  refine ob_callVi (As := [.int (0 : Int32), .int (1 : Int32)]) (rest := [.ref (D.2.1 v0 6)]) d_Handler_addLimit_7 c_Handler_addLimit_187 hp_v0 rfl rfl (Nat.le_of_ble_eq_true rfl) (c_Handler_data hp_v0 h4) ⟨Nat.le_refl _, Nat.le_refl _⟩ ⟨Nat.le_refl _, Nat.le_refl _⟩ ?_
  obtain ⟨x8, D6, h7, h⟩ := ob_bd_e h
  refine ob_callVi (As := [.int x5]) (rest := []) d_Handler_addLimit_10 c_Handler_addLimit_313 hk1 rfl rfl (Nat.le_of_ble_eq_true rfl) (c_Table_add hk1 h7) ⟨Nat.le_refl _, Nat.le_refl _⟩ ⟨Nat.le_refl _, Nat.le_refl _⟩ ?_
  refine ob_istore (lo2 := [(0, .ref v0), (1, .int x8)]) d_Handler_addLimit_13 rfl ?_
  refine ob_aload d_Handler_addLimit_14 rfl ?_
  obtain ⟨hg10, h⟩ := ob_gd h
  refine ob_getR d_Handler_addLimit_15 F_11_6 l_Handler_41 hp_v0 hg10 (fun hk9 => ?_)
  refine ob_iload d_Handler_addLimit_18 rfl ?_
  refine ob_push d_Handler_addLimit_19 ?_
  refine ob_aload d_Handler_addLimit_20 rfl ?_
  refine ob_push d_Handler_addLimit_21 ?_
  refine ob_push d_Handler_addLimit_22 ?_
  obtain ⟨x13, D11, h12, h⟩ := ob_bd_e h
  refine ob_callVi (As := [.int (1 : Int32), .int (1 : Int32)]) (rest := [.int (3 : Int32), .int x8, .ref (D6.2.1 v0 6)]) d_Handler_addLimit_23 c_Handler_addLimit_187 hp_v0 rfl rfl (Nat.le_of_ble_eq_true rfl) (c_Handler_data hp_v0 h12) ⟨Nat.le_refl _, Nat.le_refl _⟩ ⟨Nat.le_refl _, Nat.le_refl _⟩ ?_
  obtain ⟨D14, h15, h⟩ := ob_bv_e h
  refine ob_callVv (As := [.int x8, .int (3 : Int32), .int x13]) (rest := []) d_Handler_addLimit_26 c_Handler_addLimit_256 hk9 rfl rfl (Nat.le_of_ble_eq_true rfl) (c_Table_set hk9 h15) ⟨Nat.le_refl _, Nat.le_refl _⟩ ⟨Nat.le_refl _, Nat.le_refl _⟩ ?_
  refine ob_aload d_Handler_addLimit_29 rfl ?_
  obtain ⟨hg17, h⟩ := ob_gd h
  refine ob_getR d_Handler_addLimit_30 F_11_6 l_Handler_41 hp_v0 hg17 (fun hk16 => ?_)
  refine ob_iload d_Handler_addLimit_33 rfl ?_
  refine ob_push d_Handler_addLimit_34 ?_
  refine ob_aload d_Handler_addLimit_35 rfl ?_
  refine ob_push d_Handler_addLimit_36 ?_
  refine ob_push d_Handler_addLimit_37 ?_
  obtain ⟨x20, D18, h19, h⟩ := ob_bd_e h
  refine ob_callVi (As := [.int (2 : Int32), .int (1 : Int32)]) (rest := [.int (4 : Int32), .int x8, .ref (D14.2.1 v0 6)]) d_Handler_addLimit_38 c_Handler_addLimit_187 hp_v0 rfl rfl (Nat.le_of_ble_eq_true rfl) (c_Handler_data hp_v0 h19) ⟨Nat.le_refl _, Nat.le_refl _⟩ ⟨Nat.le_refl _, Nat.le_refl _⟩ ?_
  obtain ⟨D21, h22, h⟩ := ob_bv_e h
  refine ob_callVv (As := [.int x8, .int (4 : Int32), .int x20]) (rest := []) d_Handler_addLimit_41 c_Handler_addLimit_256 hk16 rfl rfl (Nat.le_of_ble_eq_true rfl) (c_Table_set hk16 h22) ⟨Nat.le_refl _, Nat.le_refl _⟩ ⟨Nat.le_refl _, Nat.le_refl _⟩ ?_
  refine ob_aload d_Handler_addLimit_44 rfl ?_
  obtain ⟨hg24, h⟩ := ob_gd h
  refine ob_getR d_Handler_addLimit_45 F_11_6 l_Handler_41 hp_v0 hg24 (fun hk23 => ?_)
  refine ob_iload d_Handler_addLimit_48 rfl ?_
  refine ob_push d_Handler_addLimit_49 ?_
  refine ob_aload d_Handler_addLimit_50 rfl ?_
  refine ob_push d_Handler_addLimit_51 ?_
  refine ob_push d_Handler_addLimit_52 ?_
  obtain ⟨x27, D25, h26, h⟩ := ob_bd_e h
  refine ob_callVi (As := [.int (3 : Int32), .int (4 : Int32)]) (rest := [.int (5 : Int32), .int x8, .ref (D21.2.1 v0 6)]) d_Handler_addLimit_53 c_Handler_addLimit_187 hp_v0 rfl rfl (Nat.le_of_ble_eq_true rfl) (c_Handler_data hp_v0 h26) ⟨Nat.le_refl _, Nat.le_refl _⟩ ⟨Nat.le_refl _, Nat.le_refl _⟩ ?_
  obtain ⟨D28, h29, h⟩ := ob_bv_e h
  refine ob_callVv (As := [.int x8, .int (5 : Int32), .int x27]) (rest := []) d_Handler_addLimit_56 c_Handler_addLimit_256 hk23 rfl rfl (Nat.le_of_ble_eq_true rfl) (c_Table_set hk23 h29) ⟨Nat.le_refl _, Nat.le_refl _⟩ ⟨Nat.le_refl _, Nat.le_refl _⟩ ?_
  refine ob_aload d_Handler_addLimit_59 rfl ?_
  obtain ⟨hg31, h⟩ := ob_gd h
  refine ob_getR d_Handler_addLimit_60 F_11_6 l_Handler_41 hp_v0 hg31 (fun hk30 => ?_)
  refine ob_iload d_Handler_addLimit_63 rfl ?_
  refine ob_push d_Handler_addLimit_64 ?_
  refine ob_aload d_Handler_addLimit_66 rfl ?_
  refine ob_push d_Handler_addLimit_67 ?_
  refine ob_push d_Handler_addLimit_69 ?_
  obtain ⟨x34, D32, h33, h⟩ := ob_bd_e h
  refine ob_callVi (As := [.int (7 : Int32), .int (4 : Int32)]) (rest := [.int (6 : Int32), .int x8, .ref (D28.2.1 v0 6)]) d_Handler_addLimit_70 c_Handler_addLimit_187 hp_v0 rfl rfl (Nat.le_of_ble_eq_true rfl) (c_Handler_data hp_v0 h33) ⟨Nat.le_refl _, Nat.le_refl _⟩ ⟨Nat.le_refl _, Nat.le_refl _⟩ ?_
  obtain ⟨D35, h36, h⟩ := ob_bv_e h
  refine ob_callVv (As := [.int x8, .int (6 : Int32), .int x34]) (rest := []) d_Handler_addLimit_73 c_Handler_addLimit_256 hk30 rfl rfl (Nat.le_of_ble_eq_true rfl) (c_Table_set hk30 h36) ⟨Nat.le_refl _, Nat.le_refl _⟩ ⟨Nat.le_refl _, Nat.le_refl _⟩ ?_
  refine ob_aload d_Handler_addLimit_76 rfl ?_
  obtain ⟨hg38, h⟩ := ob_gd h
  refine ob_getR d_Handler_addLimit_77 F_11_6 l_Handler_41 hp_v0 hg38 (fun hk37 => ?_)
  refine ob_iload d_Handler_addLimit_80 rfl ?_
  refine ob_push d_Handler_addLimit_81 ?_
  refine ob_aload d_Handler_addLimit_83 rfl ?_
  refine ob_push d_Handler_addLimit_84 ?_
  refine ob_push d_Handler_addLimit_86 ?_
  obtain ⟨x41, D39, h40, h⟩ := ob_bd_e h
  refine ob_callVi (As := [.int (11 : Int32), .int (1 : Int32)]) (rest := [.int (7 : Int32), .int x8, .ref (D35.2.1 v0 6)]) d_Handler_addLimit_87 c_Handler_addLimit_187 hp_v0 rfl rfl (Nat.le_of_ble_eq_true rfl) (c_Handler_data hp_v0 h40) ⟨Nat.le_refl _, Nat.le_refl _⟩ ⟨Nat.le_refl _, Nat.le_refl _⟩ ?_
  obtain ⟨D42, h43, h⟩ := ob_bv_e h
  refine ob_callVv (As := [.int x8, .int (7 : Int32), .int x41]) (rest := []) d_Handler_addLimit_90 c_Handler_addLimit_256 hk37 rfl rfl (Nat.le_of_ble_eq_true rfl) (c_Table_set hk37 h43) ⟨Nat.le_refl _, Nat.le_refl _⟩ ⟨Nat.le_refl _, Nat.le_refl _⟩ ?_
  refine ob_aload d_Handler_addLimit_93 rfl ?_
  obtain ⟨hg45, h⟩ := ob_gd h
  refine ob_getR d_Handler_addLimit_94 F_11_6 l_Handler_41 hp_v0 hg45 (fun hk44 => ?_)
  refine ob_iload d_Handler_addLimit_97 rfl ?_
  refine ob_push d_Handler_addLimit_98 ?_
  refine ob_aload d_Handler_addLimit_100 rfl ?_
  refine ob_push d_Handler_addLimit_101 ?_
  refine ob_push d_Handler_addLimit_103 ?_
  obtain ⟨x48, D46, h47, h⟩ := ob_bd_e h
  refine ob_callVi (As := [.int (12 : Int32), .int (1 : Int32)]) (rest := [.int (8 : Int32), .int x8, .ref (D42.2.1 v0 6)]) d_Handler_addLimit_104 c_Handler_addLimit_187 hp_v0 rfl rfl (Nat.le_of_ble_eq_true rfl) (c_Handler_data hp_v0 h47) ⟨Nat.le_refl _, Nat.le_refl _⟩ ⟨Nat.le_refl _, Nat.le_refl _⟩ ?_
  obtain ⟨D49, h50, h⟩ := ob_bv_e h
  refine ob_callVv (As := [.int x8, .int (8 : Int32), .int x48]) (rest := []) d_Handler_addLimit_107 c_Handler_addLimit_256 hk44 rfl rfl (Nat.le_of_ble_eq_true rfl) (c_Table_set hk44 h50) ⟨Nat.le_refl _, Nat.le_refl _⟩ ⟨Nat.le_refl _, Nat.le_refl _⟩ ?_
  exact ob_ve h (ob_vret d_Handler_addLimit_110 rfl)
-- OrbitBox$Handler.setStored(IZ)V
theorem d_Handler_setStored_17 : ob_dc k_Handler_setStored 17 (.return_) 1 18 := ⟨by decide +kernel, rfl⟩
theorem d_Handler_setStored_16 : ob_dc k_Handler_setStored 16 (.bastore) 1 17 := ⟨by decide +kernel, rfl⟩
theorem d_Handler_setStored_15 : ob_dv ob_lc k_Handler_setStored 15 16 2 (.iload_n 2) 1 := ⟨by decide +kernel, rfl, rfl⟩
theorem d_Handler_setStored_14 : ob_dv ob_lc k_Handler_setStored 14 15 1 (.iload_n 1) 1 := ⟨by decide +kernel, rfl, rfl⟩
theorem d_Handler_setStored_11 : ob_dc k_Handler_setStored 11 (.getfield 345) 3 14 := ⟨by decide +kernel, rfl⟩
theorem d_Handler_setStored_8 : ob_dc k_Handler_setStored 8 (.getfield 36) 3 11 := ⟨by decide +kernel, rfl⟩
theorem d_Handler_setStored_7 : ob_dv ob_ac k_Handler_setStored 7 8 0 (.aload_n 0) 1 := ⟨by decide +kernel, rfl, rfl⟩
theorem d_Handler_setStored_4 : ob_db k_Handler_setStored 4 (.ifCond .eq 13) 13 7 17 := ⟨by decide +kernel, rfl, by decide⟩
theorem d_Handler_setStored_1 : ob_dc k_Handler_setStored 1 (.invokestatic 212) 3 4 := ⟨by decide +kernel, rfl⟩
theorem d_Handler_setStored_0 : ob_dv ob_lc k_Handler_setStored 0 1 1 (.iload_n 1) 1 := ⟨by decide +kernel, rfl, rfl⟩
theorem c_Handler_setStored_212 : ob_sd k_Handler_setStored k_Reports_isService 212 1 := ⟨cw_Reports_isService, yd_Reports_isService, w_727, w_636, w_11, by decide, by decide⟩
def f_Handler_setStored (S : ob_S) (v0 : Nat) (v1 : Int32) (v2 : Int32) (D : ob_D) : Option (ob_D) :=
  ob_bd (f_Reports_isService S v1 D) fun x3 D1 => (if x3 = 0 then some D1 else if D1.2.1 v0 4 ≠ 0 then if D1.2.1 (D1.2.1 v0 4) 3 ≠ 0 then if ob_in v1 (S.2.1 (D1.2.1 (D1.2.1 v0 4) 3)) then ob_lt (ob_pI D1 (D1.2.1 (D1.2.1 v0 4) 3) v1.toNatClampNeg (v2 &&& 1)) fun D9 => some D9 else none else none else none)
theorem c_Handler_setStored {l : Launch} {E : ob_E} {S : ob_S} {D : ob_D} {v0 : Nat} {v1 : Int32} {v2 : Int32} {D' : ob_D} (hp_v0 : S.1 v0 = 12) (h : f_Handler_setStored S v0 v1 v2 D = some D') : ob_M l E k_Handler_setStored [.ref v0, .int v1, .int v2] S D none S D' := by
  refine ob_ofV (lo := [(0, .ref v0), (1, .int v1), (2, .int v2)]) (by decide) rfl (Nat.le_of_ble_eq_true rfl) rfl (Nat.le_refl _) (Nat.le_refl _) ?_
  rw [f_Handler_setStored] at h
  refine ob_iload d_Handler_setStored_0 rfl ?_
  obtain ⟨x3, D1, h2, h⟩ := ob_bd_e h
  refine ob_callSi (As := [.int v1]) (rest := []) d_Handler_setStored_1 c_Handler_setStored_212 rfl rfl (Nat.le_of_ble_eq_true rfl) (c_Reports_isService  h2) ⟨Nat.le_refl _, Nat.le_refl _⟩ ⟨Nat.le_refl _, Nat.le_refl _⟩ ?_
  refine ob_if_eq d_Handler_setStored_4 (fun hc => ?_) (fun hc => ?_)
  · replace h := ob_ift hc h
    exact ob_ve h (ob_vret d_Handler_setStored_17 rfl)
  · replace h := ob_iff hc h
    refine ob_aload d_Handler_setStored_7 rfl ?_
    obtain ⟨hg5, h⟩ := ob_gd h
    refine ob_getR d_Handler_setStored_8 F_11_4 l_Handler_36 hp_v0 hg5 (fun hk4 => ?_)
    obtain ⟨hg7, h⟩ := ob_gd h
    refine ob_getR d_Handler_setStored_11 F_8_3 l_Handler_345 hk4 hg7 (fun hk6 => ?_)
    refine ob_iload d_Handler_setStored_14 rfl ?_
    refine ob_iload d_Handler_setStored_15 rfl ?_
    obtain ⟨hg8, h⟩ := ob_gd h
    replace h := ob_lt_e h
    refine ob_zast d_Handler_setStored_16 hk6 hg8 ?_
    exact ob_ve h (ob_vret d_Handler_setStored_17 rfl)
-- OrbitBox$Handler.addAction(I)V
theorem d_Handler_addAction_51 : ob_dc k_Handler_addAction 51 (.return_) 1 52 := ⟨by decide +kernel, rfl⟩
theorem d_Handler_addAction_20 : ob_dk k_Handler_addAction 20 22 (12 : Int32) (.bipush 12) 2 := ⟨by decide +kernel, rfl, show (Int8.ofInt 12).toInt32 = (12 : Int32) by decide +kernel⟩
theorem d_Handler_addAction_26 : ob_dk k_Handler_addAction 26 27 (1 : Int32) (.iconst 1) 1 := ⟨by decide +kernel, rfl, show Int32.ofInt 1 = (1 : Int32) by decide +kernel⟩
theorem d_Handler_addAction_39 : ob_dk k_Handler_addAction 39 40 (1 : Int32) (.iconst 1) 1 := ⟨by decide +kernel, rfl, show Int32.ofInt 1 = (1 : Int32) by decide +kernel⟩
theorem d_Handler_addAction_49 : ob_dk k_Handler_addAction 49 50 (0 : Int32) (.iconst 0) 1 := ⟨by decide +kernel, rfl, show Int32.ofInt 0 = (0 : Int32) by decide +kernel⟩
theorem d_Handler_addAction_50 : ob_dc k_Handler_addAction 50 (.bastore) 1 51 := ⟨by decide +kernel, rfl⟩
theorem d_Handler_addAction_48 : ob_dv ob_lc k_Handler_addAction 48 49 1 (.iload_n 1) 1 := ⟨by decide +kernel, rfl, rfl⟩
theorem d_Handler_addAction_45 : ob_dc k_Handler_addAction 45 (.getfield 247) 3 48 := ⟨by decide +kernel, rfl⟩
theorem d_Handler_addAction_42 : ob_dc k_Handler_addAction 42 (.getfield 31) 3 45 := ⟨by decide +kernel, rfl⟩
theorem d_Handler_addAction_41 : ob_dv ob_ac k_Handler_addAction 41 42 0 (.aload_n 0) 1 := ⟨by decide +kernel, rfl, rfl⟩
theorem d_Handler_addAction_40 : ob_dc k_Handler_addAction 40 (.bastore) 1 41 := ⟨by decide +kernel, rfl⟩
theorem d_Handler_addAction_38 : ob_dv ob_lc k_Handler_addAction 38 39 1 (.iload_n 1) 1 := ⟨by decide +kernel, rfl, rfl⟩
theorem d_Handler_addAction_35 : ob_dc k_Handler_addAction 35 (.getfield 243) 3 38 := ⟨by decide +kernel, rfl⟩
theorem d_Handler_addAction_32 : ob_dc k_Handler_addAction 32 (.getfield 31) 3 35 := ⟨by decide +kernel, rfl⟩
theorem d_Handler_addAction_31 : ob_dv ob_ac k_Handler_addAction 31 32 0 (.aload_n 0) 1 := ⟨by decide +kernel, rfl, rfl⟩
theorem d_Handler_addAction_28 : ob_dc k_Handler_addAction 28 (.invokevirtual 352) 3 31 := ⟨by decide +kernel, rfl⟩
theorem d_Handler_addAction_27 : ob_dc k_Handler_addAction 27 (.isub) 1 28 := ⟨by decide +kernel, rfl⟩
theorem d_Handler_addAction_23 : ob_dc k_Handler_addAction 23 (.invokevirtual 239) 3 26 := ⟨by decide +kernel, rfl⟩
theorem d_Handler_addAction_22 : ob_dv ob_ac k_Handler_addAction 22 23 0 (.aload_n 0) 1 := ⟨by decide +kernel, rfl, rfl⟩
theorem d_Handler_addAction_17 : ob_dc k_Handler_addAction 17 (.getfield 53) 3 20 := ⟨by decide +kernel, rfl⟩
theorem d_Handler_addAction_16 : ob_dv ob_ac k_Handler_addAction 16 17 0 (.aload_n 0) 1 := ⟨by decide +kernel, rfl, rfl⟩
theorem d_Handler_addAction_15 : ob_dc k_Handler_addAction 15 (.aaload) 1 16 := ⟨by decide +kernel, rfl⟩
theorem d_Handler_addAction_14 : ob_dv ob_lc k_Handler_addAction 14 15 1 (.iload_n 1) 1 := ⟨by decide +kernel, rfl, rfl⟩
theorem d_Handler_addAction_11 : ob_dc k_Handler_addAction 11 (.getfield 348) 3 14 := ⟨by decide +kernel, rfl⟩
theorem d_Handler_addAction_8 : ob_dc k_Handler_addAction 8 (.getfield 31) 3 11 := ⟨by decide +kernel, rfl⟩
theorem d_Handler_addAction_7 : ob_dv ob_ac k_Handler_addAction 7 8 0 (.aload_n 0) 1 := ⟨by decide +kernel, rfl, rfl⟩
theorem d_Handler_addAction_4 : ob_db k_Handler_addAction 4 (.ifCond .eq 47) 47 7 51 := ⟨by decide +kernel, rfl, by decide⟩
theorem d_Handler_addAction_1 : ob_dc k_Handler_addAction 1 (.invokestatic 190) 3 4 := ⟨by decide +kernel, rfl⟩
theorem d_Handler_addAction_0 : ob_dv ob_lc k_Handler_addAction 0 1 1 (.iload_n 1) 1 := ⟨by decide +kernel, rfl, rfl⟩
theorem c_Handler_addAction_352 : ob_vd k_Handler_addAction k_Row_become 352 3 1 := ⟨cw_Row_become, yd_Row_become, w_852, w_545, w_546, w_2, ⟨_, _, rfl⟩, by decide, by decide⟩
theorem c_Handler_addAction_239 : ob_vd k_Handler_addAction k_Handler_dataLength 239 0 11 := ⟨cw_Handler_dataLength, yd_Handler_dataLength, w_702, w_704, wp_22, w_13, ⟨_, _, rfl⟩, by decide, by decide⟩
theorem c_Handler_addAction_190 : ob_sd k_Handler_addAction k_Events_isThere 190 1 := ⟨cw_Events_isThere, yd_Events_isThere, w_687, w_688, w_7, by decide, by decide⟩
def f_Handler_addAction (S : ob_S) (v0 : Nat) (v1 : Int32) (D : ob_D) : Option (ob_D) :=
  ob_bd (f_Events_isThere S v1 D) fun x3 D1 => (if x3 = 0 then some D1 else if D1.2.1 v0 3 ≠ 0 then if D1.2.1 (D1.2.1 v0 3) 4 ≠ 0 then if ob_in v1 (S.2.1 (D1.2.1 (D1.2.1 v0 3) 4)) then if D1.2.1 (D1.2.1 (D1.2.1 v0 3) 4) v1.toNatClampNeg ≠ 0 then if D1.2.1 v0 8 ≠ 0 then ob_bd (f_Handler_dataLength S v0 D1) fun x15 D13 => ob_bv (f_Row_become S (D1.2.1 (D1.2.1 (D1.2.1 v0 3) 4) v1.toNatClampNeg) (D1.2.1 v0 8) (12 : Int32) (x15 - (1 : Int32)) D13) fun D16 => if D16.2.1 v0 3 ≠ 0 then if D16.2.1 (D16.2.1 v0 3) 2 ≠ 0 then if ob_in v1 (S.2.1 (D16.2.1 (D16.2.1 v0 3) 2)) then ob_lt (ob_pI D16 (D16.2.1 (D16.2.1 v0 3) 2) v1.toNatClampNeg ((1 : Int32) &&& 1)) fun D23 => if D23.2.1 v0 3 ≠ 0 then if D23.2.1 (D23.2.1 v0 3) 3 ≠ 0 then if ob_in v1 (S.2.1 (D23.2.1 (D23.2.1 v0 3) 3)) then ob_lt (ob_pI D23 (D23.2.1 (D23.2.1 v0 3) 3) v1.toNatClampNeg ((0 : Int32) &&& 1)) fun D29 => some D29 else none else none else none else none else none else none else none else none else none else none else none)
theorem c_Handler_addAction {l : Launch} {E : ob_E} {S : ob_S} {D : ob_D} {v0 : Nat} {v1 : Int32} {D' : ob_D} (hp_v0 : S.1 v0 = 12) (h : f_Handler_addAction S v0 v1 D = some D') : ob_M l E k_Handler_addAction [.ref v0, .int v1] S D none S D' := by
  refine ob_ofV (lo := [(0, .ref v0), (1, .int v1)]) (by decide) rfl (Nat.le_of_ble_eq_true rfl) rfl (Nat.le_refl _) (Nat.le_refl _) ?_
  rw [f_Handler_addAction] at h
  refine ob_iload d_Handler_addAction_0 rfl ?_
  obtain ⟨x3, D1, h2, h⟩ := ob_bd_e h
  refine ob_callSi (As := [.int v1]) (rest := []) d_Handler_addAction_1 c_Handler_addAction_190 rfl rfl (Nat.le_of_ble_eq_true rfl) (c_Events_isThere  h2) ⟨Nat.le_refl _, Nat.le_refl _⟩ ⟨Nat.le_refl _, Nat.le_refl _⟩ ?_
  refine ob_if_eq d_Handler_addAction_4 (fun hc => ?_) (fun hc => ?_)
  · replace h := ob_ift hc h
    exact ob_ve h (ob_vret d_Handler_addAction_51 rfl)
  · replace h := ob_iff hc h
    refine ob_aload d_Handler_addAction_7 rfl ?_
    obtain ⟨hg5, h⟩ := ob_gd h
    refine ob_getR d_Handler_addAction_8 F_11_3 l_Handler_31 hp_v0 hg5 (fun hk4 => ?_)
    obtain ⟨hg7, h⟩ := ob_gd h
    refine ob_getR d_Handler_addAction_11 F_6_4 l_Handler_348 hk4 hg7 (fun hk6 => ?_)
    refine ob_iload d_Handler_addAction_14 rfl ?_
    obtain ⟨hg8, h⟩ := ob_gd h
    obtain ⟨hz9, h⟩ := ob_gd h
    refine ob_aald (j := 4) (t := 1) d_Handler_addAction_15 hk6 (by decide) rfl rfl rfl hg8 hz9 rfl (fun hk10 => ?_)
    refine ob_aload d_Handler_addAction_16 rfl ?_
    obtain ⟨hg12, h⟩ := ob_gd h
    refine ob_getR d_Handler_addAction_17 F_11_8 l_Handler_53 hp_v0 hg12 (fun hk11 => ?_)
    refine ob_push d_Handler_addAction_20 ?_
    refine ob_aload d_Handler_addAction_22 rfl ?_
    obtain ⟨x15, D13, h14, h⟩ := ob_bd_e h
    refine ob_callVi (As := []) (rest := [.int (12 : Int32), .ref (D1.2.1 v0 8), .ref (D1.2.1 (D1.2.1 (D1.2.1 v0 3) 4) v1.toNatClampNeg)]) d_Handler_addAction_23 c_Handler_addAction_239 hp_v0 rfl rfl (Nat.le_of_ble_eq_true rfl) (c_Handler_dataLength hp_v0 h14) ⟨Nat.le_refl _, Nat.le_refl _⟩ ⟨Nat.le_refl _, Nat.le_refl _⟩ ?_
    refine ob_push d_Handler_addAction_26 ?_
    refine ob_isub d_Handler_addAction_27 ?_
    obtain ⟨D16, h17, h⟩ := ob_bv_e h
    refine ob_callVv (As := [.ref (D1.2.1 v0 8), .int (12 : Int32), .int (x15 - (1 : Int32))]) (rest := []) d_Handler_addAction_28 c_Handler_addAction_352 hk10 rfl rfl (Nat.le_of_ble_eq_true rfl) (c_Row_become hk10 hk11 h17) ⟨Nat.le_refl _, Nat.le_refl _⟩ ⟨Nat.le_refl _, Nat.le_refl _⟩ ?_
    refine ob_aload d_Handler_addAction_31 rfl ?_
    obtain ⟨hg19, h⟩ := ob_gd h
    refine ob_getR d_Handler_addAction_32 F_11_3 l_Handler_31 hp_v0 hg19 (fun hk18 => ?_)
    obtain ⟨hg21, h⟩ := ob_gd h
    refine ob_getR d_Handler_addAction_35 F_6_2 l_Handler_243 hk18 hg21 (fun hk20 => ?_)
    refine ob_iload d_Handler_addAction_38 rfl ?_
    refine ob_push d_Handler_addAction_39 ?_
    obtain ⟨hg22, h⟩ := ob_gd h
    replace h := ob_lt_e h
    refine ob_zast d_Handler_addAction_40 hk20 hg22 ?_
    refine ob_aload d_Handler_addAction_41 rfl ?_
    obtain ⟨hg25, h⟩ := ob_gd h
    refine ob_getR d_Handler_addAction_42 F_11_3 l_Handler_31 hp_v0 hg25 (fun hk24 => ?_)
    obtain ⟨hg27, h⟩ := ob_gd h
    refine ob_getR d_Handler_addAction_45 F_6_3 l_Handler_247 hk24 hg27 (fun hk26 => ?_)
    refine ob_iload d_Handler_addAction_48 rfl ?_
    refine ob_push d_Handler_addAction_49 ?_
    obtain ⟨hg28, h⟩ := ob_gd h
    replace h := ob_lt_e h
    refine ob_zast d_Handler_addAction_50 hk26 hg28 ?_
    exact ob_ve h (ob_vret d_Handler_addAction_51 rfl)
-- OrbitBox$Handler.dropAction(I)V
theorem d_Handler_dropAction_17 : ob_dc k_Handler_dropAction 17 (.return_) 1 18 := ⟨by decide +kernel, rfl⟩
theorem d_Handler_dropAction_15 : ob_dk k_Handler_dropAction 15 16 (0 : Int32) (.iconst 0) 1 := ⟨by decide +kernel, rfl, show Int32.ofInt 0 = (0 : Int32) by decide +kernel⟩
theorem d_Handler_dropAction_16 : ob_dc k_Handler_dropAction 16 (.bastore) 1 17 := ⟨by decide +kernel, rfl⟩
theorem d_Handler_dropAction_14 : ob_dv ob_lc k_Handler_dropAction 14 15 1 (.iload_n 1) 1 := ⟨by decide +kernel, rfl, rfl⟩
theorem d_Handler_dropAction_11 : ob_dc k_Handler_dropAction 11 (.getfield 243) 3 14 := ⟨by decide +kernel, rfl⟩
theorem d_Handler_dropAction_8 : ob_dc k_Handler_dropAction 8 (.getfield 31) 3 11 := ⟨by decide +kernel, rfl⟩
theorem d_Handler_dropAction_7 : ob_dv ob_ac k_Handler_dropAction 7 8 0 (.aload_n 0) 1 := ⟨by decide +kernel, rfl, rfl⟩
theorem d_Handler_dropAction_4 : ob_db k_Handler_dropAction 4 (.ifCond .eq 13) 13 7 17 := ⟨by decide +kernel, rfl, by decide⟩
theorem d_Handler_dropAction_1 : ob_dc k_Handler_dropAction 1 (.invokestatic 190) 3 4 := ⟨by decide +kernel, rfl⟩
theorem d_Handler_dropAction_0 : ob_dv ob_lc k_Handler_dropAction 0 1 1 (.iload_n 1) 1 := ⟨by decide +kernel, rfl, rfl⟩
theorem c_Handler_dropAction_190 : ob_sd k_Handler_dropAction k_Events_isThere 190 1 := ⟨cw_Events_isThere, yd_Events_isThere, w_687, w_688, w_7, by decide, by decide⟩
def f_Handler_dropAction (S : ob_S) (v0 : Nat) (v1 : Int32) (D : ob_D) : Option (ob_D) :=
  ob_bd (f_Events_isThere S v1 D) fun x3 D1 => (if x3 = 0 then some D1 else if D1.2.1 v0 3 ≠ 0 then if D1.2.1 (D1.2.1 v0 3) 2 ≠ 0 then if ob_in v1 (S.2.1 (D1.2.1 (D1.2.1 v0 3) 2)) then ob_lt (ob_pI D1 (D1.2.1 (D1.2.1 v0 3) 2) v1.toNatClampNeg ((0 : Int32) &&& 1)) fun D9 => some D9 else none else none else none)
theorem c_Handler_dropAction {l : Launch} {E : ob_E} {S : ob_S} {D : ob_D} {v0 : Nat} {v1 : Int32} {D' : ob_D} (hp_v0 : S.1 v0 = 12) (h : f_Handler_dropAction S v0 v1 D = some D') : ob_M l E k_Handler_dropAction [.ref v0, .int v1] S D none S D' := by
  refine ob_ofV (lo := [(0, .ref v0), (1, .int v1)]) (by decide) rfl (Nat.le_of_ble_eq_true rfl) rfl (Nat.le_refl _) (Nat.le_refl _) ?_
  rw [f_Handler_dropAction] at h
  refine ob_iload d_Handler_dropAction_0 rfl ?_
  obtain ⟨x3, D1, h2, h⟩ := ob_bd_e h
  refine ob_callSi (As := [.int v1]) (rest := []) d_Handler_dropAction_1 c_Handler_dropAction_190 rfl rfl (Nat.le_of_ble_eq_true rfl) (c_Events_isThere  h2) ⟨Nat.le_refl _, Nat.le_refl _⟩ ⟨Nat.le_refl _, Nat.le_refl _⟩ ?_
  refine ob_if_eq d_Handler_dropAction_4 (fun hc => ?_) (fun hc => ?_)
  · replace h := ob_ift hc h
    exact ob_ve h (ob_vret d_Handler_dropAction_17 rfl)
  · replace h := ob_iff hc h
    refine ob_aload d_Handler_dropAction_7 rfl ?_
    obtain ⟨hg5, h⟩ := ob_gd h
    refine ob_getR d_Handler_dropAction_8 F_11_3 l_Handler_31 hp_v0 hg5 (fun hk4 => ?_)
    obtain ⟨hg7, h⟩ := ob_gd h
    refine ob_getR d_Handler_dropAction_11 F_6_2 l_Handler_243 hk4 hg7 (fun hk6 => ?_)
    refine ob_iload d_Handler_dropAction_14 rfl ?_
    refine ob_push d_Handler_dropAction_15 ?_
    obtain ⟨hg8, h⟩ := ob_gd h
    replace h := ob_lt_e h
    refine ob_zast d_Handler_dropAction_16 hk6 hg8 ?_
    exact ob_ve h (ob_vret d_Handler_dropAction_17 rfl)
-- OrbitBox$Handler.switchAction(IZ)V
theorem d_Handler_switchAction_17 : ob_dc k_Handler_switchAction 17 (.return_) 1 18 := ⟨by decide +kernel, rfl⟩
theorem d_Handler_switchAction_16 : ob_dc k_Handler_switchAction 16 (.bastore) 1 17 := ⟨by decide +kernel, rfl⟩
theorem d_Handler_switchAction_15 : ob_dv ob_lc k_Handler_switchAction 15 16 2 (.iload_n 2) 1 := ⟨by decide +kernel, rfl, rfl⟩
theorem d_Handler_switchAction_14 : ob_dv ob_lc k_Handler_switchAction 14 15 1 (.iload_n 1) 1 := ⟨by decide +kernel, rfl, rfl⟩
theorem d_Handler_switchAction_11 : ob_dc k_Handler_switchAction 11 (.getfield 247) 3 14 := ⟨by decide +kernel, rfl⟩
theorem d_Handler_switchAction_8 : ob_dc k_Handler_switchAction 8 (.getfield 31) 3 11 := ⟨by decide +kernel, rfl⟩
theorem d_Handler_switchAction_7 : ob_dv ob_ac k_Handler_switchAction 7 8 0 (.aload_n 0) 1 := ⟨by decide +kernel, rfl, rfl⟩
theorem d_Handler_switchAction_4 : ob_db k_Handler_switchAction 4 (.ifCond .eq 13) 13 7 17 := ⟨by decide +kernel, rfl, by decide⟩
theorem d_Handler_switchAction_1 : ob_dc k_Handler_switchAction 1 (.invokestatic 190) 3 4 := ⟨by decide +kernel, rfl⟩
theorem d_Handler_switchAction_0 : ob_dv ob_lc k_Handler_switchAction 0 1 1 (.iload_n 1) 1 := ⟨by decide +kernel, rfl, rfl⟩
theorem c_Handler_switchAction_190 : ob_sd k_Handler_switchAction k_Events_isThere 190 1 := ⟨cw_Events_isThere, yd_Events_isThere, w_687, w_688, w_7, by decide, by decide⟩
def f_Handler_switchAction (S : ob_S) (v0 : Nat) (v1 : Int32) (v2 : Int32) (D : ob_D) : Option (ob_D) :=
  ob_bd (f_Events_isThere S v1 D) fun x3 D1 => (if x3 = 0 then some D1 else if D1.2.1 v0 3 ≠ 0 then if D1.2.1 (D1.2.1 v0 3) 3 ≠ 0 then if ob_in v1 (S.2.1 (D1.2.1 (D1.2.1 v0 3) 3)) then ob_lt (ob_pI D1 (D1.2.1 (D1.2.1 v0 3) 3) v1.toNatClampNeg (v2 &&& 1)) fun D9 => some D9 else none else none else none)
theorem c_Handler_switchAction {l : Launch} {E : ob_E} {S : ob_S} {D : ob_D} {v0 : Nat} {v1 : Int32} {v2 : Int32} {D' : ob_D} (hp_v0 : S.1 v0 = 12) (h : f_Handler_switchAction S v0 v1 v2 D = some D') : ob_M l E k_Handler_switchAction [.ref v0, .int v1, .int v2] S D none S D' := by
  refine ob_ofV (lo := [(0, .ref v0), (1, .int v1), (2, .int v2)]) (by decide) rfl (Nat.le_of_ble_eq_true rfl) rfl (Nat.le_refl _) (Nat.le_refl _) ?_
  rw [f_Handler_switchAction] at h
  refine ob_iload d_Handler_switchAction_0 rfl ?_
  obtain ⟨x3, D1, h2, h⟩ := ob_bd_e h
  refine ob_callSi (As := [.int v1]) (rest := []) d_Handler_switchAction_1 c_Handler_switchAction_190 rfl rfl (Nat.le_of_ble_eq_true rfl) (c_Events_isThere  h2) ⟨Nat.le_refl _, Nat.le_refl _⟩ ⟨Nat.le_refl _, Nat.le_refl _⟩ ?_
  refine ob_if_eq d_Handler_switchAction_4 (fun hc => ?_) (fun hc => ?_)
  · replace h := ob_ift hc h
    exact ob_ve h (ob_vret d_Handler_switchAction_17 rfl)
  · replace h := ob_iff hc h
    refine ob_aload d_Handler_switchAction_7 rfl ?_
    obtain ⟨hg5, h⟩ := ob_gd h
    refine ob_getR d_Handler_switchAction_8 F_11_3 l_Handler_31 hp_v0 hg5 (fun hk4 => ?_)
    obtain ⟨hg7, h⟩ := ob_gd h
    refine ob_getR d_Handler_switchAction_11 F_6_3 l_Handler_247 hk4 hg7 (fun hk6 => ?_)
    refine ob_iload d_Handler_switchAction_14 rfl ?_
    refine ob_iload d_Handler_switchAction_15 rfl ?_
    obtain ⟨hg8, h⟩ := ob_gd h
    replace h := ob_lt_e h
    refine ob_zast d_Handler_switchAction_16 hk6 hg8 ?_
    exact ob_ve h (ob_vret d_Handler_switchAction_17 rfl)
-- OrbitBox$Handler.perform(I)V
theorem d_Handler_perform_1 : decode k_Handler_perform.2.2.1 1 = .ok (.lookupswitch 784 #[(769, 267), (771, 274), (773, 297), (774, 322), (795, 347), (1285, 367), (1286, 381), (1538, 395), (1541, 402), (1545, 409), (2049, 416), (2817, 441), (2818, 452), (2819, 463), (2820, 482), (2821, 510), (2831, 530), (2833, 546), (3073, 553), (3074, 574), (3077, 595), (3078, 602), (3841, 625), (3842, 639), (3849, 653), (3851, 675), (3852, 691), (4353, 702), (4865, 730), (4866, 743), (4868, 756), (4869, 770)], 267) := by decide +kernel
theorem d_Handler_perform_785 : ob_dc k_Handler_perform 785 (.return_) 1 786 := ⟨by decide +kernel, rfl⟩
theorem d_Handler_perform_272 : ob_db k_Handler_perform 272 (.goto 513) 513 275 785 := ⟨by decide +kernel, rfl, by decide⟩
theorem d_Handler_perform_269 : ob_dc k_Handler_perform 269 (.invokevirtual 250) 3 272 := ⟨by decide +kernel, rfl⟩
theorem d_Handler_perform_268 : ob_dv ob_ac k_Handler_perform 268 269 0 (.aload_n 0) 1 := ⟨by decide +kernel, rfl, rfl⟩
theorem d_Handler_perform_284 : ob_dk k_Handler_perform 284 285 (0 : Int32) (.iconst 0) 1 := ⟨by decide +kernel, rfl, show Int32.ofInt 0 = (0 : Int32) by decide +kernel⟩
theorem d_Handler_perform_285 : ob_dk k_Handler_perform 285 286 (1 : Int32) (.iconst 1) 1 := ⟨by decide +kernel, rfl, show Int32.ofInt 1 = (1 : Int32) by decide +kernel⟩
theorem d_Handler_perform_295 : ob_db k_Handler_perform 295 (.goto 490) 490 298 785 := ⟨by decide +kernel, rfl, by decide⟩
theorem d_Handler_perform_292 : ob_dc k_Handler_perform 292 (.invokevirtual 253) 3 295 := ⟨by decide +kernel, rfl⟩
theorem d_Handler_perform_289 : ob_dc k_Handler_perform 289 (.invokevirtual 229) 3 292 := ⟨by decide +kernel, rfl⟩
theorem d_Handler_perform_286 : ob_dc k_Handler_perform 286 (.invokevirtual 187) 3 289 := ⟨by decide +kernel, rfl⟩
theorem d_Handler_perform_283 : ob_dv ob_ac k_Handler_perform 283 284 0 (.aload_n 0) 1 := ⟨by decide +kernel, rfl, rfl⟩
theorem d_Handler_perform_280 : ob_dc k_Handler_perform 280 (.getfield 37) 3 283 := ⟨by decide +kernel, rfl⟩
theorem d_Handler_perform_279 : ob_dv ob_ac k_Handler_perform 279 280 0 (.aload_n 0) 1 := ⟨by decide +kernel, rfl, rfl⟩
theorem d_Handler_perform_276 : ob_dc k_Handler_perform 276 (.getfield 37) 3 279 := ⟨by decide +kernel, rfl⟩
theorem d_Handler_perform_275 : ob_dv ob_ac k_Handler_perform 275 276 0 (.aload_n 0) 1 := ⟨by decide +kernel, rfl, rfl⟩
theorem d_Handler_perform_307 : ob_dk k_Handler_perform 307 308 (0 : Int32) (.iconst 0) 1 := ⟨by decide +kernel, rfl, show Int32.ofInt 0 = (0 : Int32) by decide +kernel⟩
theorem d_Handler_perform_308 : ob_dk k_Handler_perform 308 309 (1 : Int32) (.iconst 1) 1 := ⟨by decide +kernel, rfl, show Int32.ofInt 1 = (1 : Int32) by decide +kernel⟩
theorem d_Handler_perform_315 : ob_dk k_Handler_perform 315 316 (1 : Int32) (.iconst 1) 1 := ⟨by decide +kernel, rfl, show Int32.ofInt 1 = (1 : Int32) by decide +kernel⟩
theorem d_Handler_perform_316 : ob_dk k_Handler_perform 316 317 (1 : Int32) (.iconst 1) 1 := ⟨by decide +kernel, rfl, show Int32.ofInt 1 = (1 : Int32) by decide +kernel⟩
theorem d_Handler_perform_320 : ob_db k_Handler_perform 320 (.goto 465) 465 323 785 := ⟨by decide +kernel, rfl, by decide⟩
theorem d_Handler_perform_317 : ob_dc k_Handler_perform 317 (.invokevirtual 256) 3 320 := ⟨by decide +kernel, rfl⟩
theorem d_Handler_perform_312 : ob_dc k_Handler_perform 312 (.invokevirtual 229) 3 315 := ⟨by decide +kernel, rfl⟩
theorem d_Handler_perform_309 : ob_dc k_Handler_perform 309 (.invokevirtual 187) 3 312 := ⟨by decide +kernel, rfl⟩
theorem d_Handler_perform_306 : ob_dv ob_ac k_Handler_perform 306 307 0 (.aload_n 0) 1 := ⟨by decide +kernel, rfl, rfl⟩
theorem d_Handler_perform_303 : ob_dc k_Handler_perform 303 (.getfield 37) 3 306 := ⟨by decide +kernel, rfl⟩
theorem d_Handler_perform_302 : ob_dv ob_ac k_Handler_perform 302 303 0 (.aload_n 0) 1 := ⟨by decide +kernel, rfl, rfl⟩
theorem d_Handler_perform_299 : ob_dc k_Handler_perform 299 (.getfield 37) 3 302 := ⟨by decide +kernel, rfl⟩
theorem d_Handler_perform_298 : ob_dv ob_ac k_Handler_perform 298 299 0 (.aload_n 0) 1 := ⟨by decide +kernel, rfl, rfl⟩
theorem d_Handler_perform_332 : ob_dk k_Handler_perform 332 333 (0 : Int32) (.iconst 0) 1 := ⟨by decide +kernel, rfl, show Int32.ofInt 0 = (0 : Int32) by decide +kernel⟩
theorem d_Handler_perform_333 : ob_dk k_Handler_perform 333 334 (1 : Int32) (.iconst 1) 1 := ⟨by decide +kernel, rfl, show Int32.ofInt 1 = (1 : Int32) by decide +kernel⟩
theorem d_Handler_perform_340 : ob_dk k_Handler_perform 340 341 (1 : Int32) (.iconst 1) 1 := ⟨by decide +kernel, rfl, show Int32.ofInt 1 = (1 : Int32) by decide +kernel⟩
theorem d_Handler_perform_341 : ob_dk k_Handler_perform 341 342 (0 : Int32) (.iconst 0) 1 := ⟨by decide +kernel, rfl, show Int32.ofInt 0 = (0 : Int32) by decide +kernel⟩
theorem d_Handler_perform_345 : ob_db k_Handler_perform 345 (.goto 440) 440 348 785 := ⟨by decide +kernel, rfl, by decide⟩
theorem d_Handler_perform_342 : ob_dc k_Handler_perform 342 (.invokevirtual 256) 3 345 := ⟨by decide +kernel, rfl⟩
theorem d_Handler_perform_337 : ob_dc k_Handler_perform 337 (.invokevirtual 229) 3 340 := ⟨by decide +kernel, rfl⟩
theorem d_Handler_perform_334 : ob_dc k_Handler_perform 334 (.invokevirtual 187) 3 337 := ⟨by decide +kernel, rfl⟩
theorem d_Handler_perform_331 : ob_dv ob_ac k_Handler_perform 331 332 0 (.aload_n 0) 1 := ⟨by decide +kernel, rfl, rfl⟩
theorem d_Handler_perform_328 : ob_dc k_Handler_perform 328 (.getfield 37) 3 331 := ⟨by decide +kernel, rfl⟩
theorem d_Handler_perform_327 : ob_dv ob_ac k_Handler_perform 327 328 0 (.aload_n 0) 1 := ⟨by decide +kernel, rfl, rfl⟩
theorem d_Handler_perform_324 : ob_dc k_Handler_perform 324 (.getfield 37) 3 327 := ⟨by decide +kernel, rfl⟩
theorem d_Handler_perform_323 : ob_dv ob_ac k_Handler_perform 323 324 0 (.aload_n 0) 1 := ⟨by decide +kernel, rfl, rfl⟩
theorem d_Handler_perform_354 : ob_dk k_Handler_perform 354 355 (0 : Int32) (.iconst 0) 1 := ⟨by decide +kernel, rfl, show Int32.ofInt 0 = (0 : Int32) by decide +kernel⟩
theorem d_Handler_perform_355 : ob_dk k_Handler_perform 355 356 (1 : Int32) (.iconst 1) 1 := ⟨by decide +kernel, rfl, show Int32.ofInt 1 = (1 : Int32) by decide +kernel⟩
theorem d_Handler_perform_365 : ob_db k_Handler_perform 365 (.goto 420) 420 368 785 := ⟨by decide +kernel, rfl, by decide⟩
theorem d_Handler_perform_362 : ob_dc k_Handler_perform 362 (.invokevirtual 134) 3 365 := ⟨by decide +kernel, rfl⟩
theorem d_Handler_perform_359 : ob_dc k_Handler_perform 359 (.invokevirtual 229) 3 362 := ⟨by decide +kernel, rfl⟩
theorem d_Handler_perform_356 : ob_dc k_Handler_perform 356 (.invokevirtual 187) 3 359 := ⟨by decide +kernel, rfl⟩
theorem d_Handler_perform_353 : ob_dv ob_ac k_Handler_perform 353 354 0 (.aload_n 0) 1 := ⟨by decide +kernel, rfl, rfl⟩
theorem d_Handler_perform_350 : ob_dc k_Handler_perform 350 (.getfield 37) 3 353 := ⟨by decide +kernel, rfl⟩
theorem d_Handler_perform_349 : ob_dv ob_ac k_Handler_perform 349 350 0 (.aload_n 0) 1 := ⟨by decide +kernel, rfl, rfl⟩
theorem d_Handler_perform_348 : ob_dv ob_ac k_Handler_perform 348 349 0 (.aload_n 0) 1 := ⟨by decide +kernel, rfl, rfl⟩
theorem d_Handler_perform_370 : ob_dk k_Handler_perform 370 371 (0 : Int32) (.iconst 0) 1 := ⟨by decide +kernel, rfl, show Int32.ofInt 0 = (0 : Int32) by decide +kernel⟩
theorem d_Handler_perform_371 : ob_dk k_Handler_perform 371 372 (1 : Int32) (.iconst 1) 1 := ⟨by decide +kernel, rfl, show Int32.ofInt 1 = (1 : Int32) by decide +kernel⟩
theorem d_Handler_perform_375 : ob_dk k_Handler_perform 375 376 (0 : Int32) (.iconst 0) 1 := ⟨by decide +kernel, rfl, show Int32.ofInt 0 = (0 : Int32) by decide +kernel⟩
theorem d_Handler_perform_379 : ob_db k_Handler_perform 379 (.goto 406) 406 382 785 := ⟨by decide +kernel, rfl, by decide⟩
theorem d_Handler_perform_376 : ob_dc k_Handler_perform 376 (.invokevirtual 260) 3 379 := ⟨by decide +kernel, rfl⟩
theorem d_Handler_perform_372 : ob_dc k_Handler_perform 372 (.invokevirtual 187) 3 375 := ⟨by decide +kernel, rfl⟩
theorem d_Handler_perform_369 : ob_dv ob_ac k_Handler_perform 369 370 0 (.aload_n 0) 1 := ⟨by decide +kernel, rfl, rfl⟩
theorem d_Handler_perform_368 : ob_dv ob_ac k_Handler_perform 368 369 0 (.aload_n 0) 1 := ⟨by decide +kernel, rfl, rfl⟩
theorem d_Handler_perform_384 : ob_dk k_Handler_perform 384 385 (0 : Int32) (.iconst 0) 1 := ⟨by decide +kernel, rfl, show Int32.ofInt 0 = (0 : Int32) by decide +kernel⟩
theorem d_Handler_perform_385 : ob_dk k_Handler_perform 385 386 (1 : Int32) (.iconst 1) 1 := ⟨by decide +kernel, rfl, show Int32.ofInt 1 = (1 : Int32) by decide +kernel⟩
theorem d_Handler_perform_389 : ob_dk k_Handler_perform 389 390 (1 : Int32) (.iconst 1) 1 := ⟨by decide +kernel, rfl, show Int32.ofInt 1 = (1 : Int32) by decide +kernel⟩
theorem d_Handler_perform_393 : ob_db k_Handler_perform 393 (.goto 392) 392 396 785 := ⟨by decide +kernel, rfl, by decide⟩
theorem d_Handler_perform_390 : ob_dc k_Handler_perform 390 (.invokevirtual 260) 3 393 := ⟨by decide +kernel, rfl⟩
theorem d_Handler_perform_386 : ob_dc k_Handler_perform 386 (.invokevirtual 187) 3 389 := ⟨by decide +kernel, rfl⟩
theorem d_Handler_perform_383 : ob_dv ob_ac k_Handler_perform 383 384 0 (.aload_n 0) 1 := ⟨by decide +kernel, rfl, rfl⟩
theorem d_Handler_perform_382 : ob_dv ob_ac k_Handler_perform 382 383 0 (.aload_n 0) 1 := ⟨by decide +kernel, rfl, rfl⟩
theorem d_Handler_perform_400 : ob_db k_Handler_perform 400 (.goto 385) 385 403 785 := ⟨by decide +kernel, rfl, by decide⟩
theorem d_Handler_perform_397 : ob_dc k_Handler_perform 397 (.invokevirtual 264) 3 400 := ⟨by decide +kernel, rfl⟩
theorem d_Handler_perform_396 : ob_dv ob_ac k_Handler_perform 396 397 0 (.aload_n 0) 1 := ⟨by decide +kernel, rfl, rfl⟩
theorem d_Handler_perform_407 : ob_db k_Handler_perform 407 (.goto 378) 378 410 785 := ⟨by decide +kernel, rfl, by decide⟩
theorem d_Handler_perform_404 : ob_dc k_Handler_perform 404 (.invokevirtual 267) 3 407 := ⟨by decide +kernel, rfl⟩
theorem d_Handler_perform_403 : ob_dv ob_ac k_Handler_perform 403 404 0 (.aload_n 0) 1 := ⟨by decide +kernel, rfl, rfl⟩
theorem d_Handler_perform_414 : ob_db k_Handler_perform 414 (.goto 371) 371 417 785 := ⟨by decide +kernel, rfl, by decide⟩
theorem d_Handler_perform_411 : ob_dc k_Handler_perform 411 (.invokevirtual 270) 3 414 := ⟨by decide +kernel, rfl⟩
theorem d_Handler_perform_410 : ob_dv ob_ac k_Handler_perform 410 411 0 (.aload_n 0) 1 := ⟨by decide +kernel, rfl, rfl⟩
theorem d_Handler_perform_419 : ob_dk k_Handler_perform 419 420 (0 : Int32) (.iconst 0) 1 := ⟨by decide +kernel, rfl, show Int32.ofInt 0 = (0 : Int32) by decide +kernel⟩
theorem d_Handler_perform_420 : ob_dk k_Handler_perform 420 421 (1 : Int32) (.iconst 1) 1 := ⟨by decide +kernel, rfl, show Int32.ofInt 1 = (1 : Int32) by decide +kernel⟩
theorem d_Handler_perform_425 : ob_dk k_Handler_perform 425 426 (1 : Int32) (.iconst 1) 1 := ⟨by decide +kernel, rfl, show Int32.ofInt 1 = (1 : Int32) by decide +kernel⟩
theorem d_Handler_perform_426 : ob_dk k_Handler_perform 426 427 (1 : Int32) (.iconst 1) 1 := ⟨by decide +kernel, rfl, show Int32.ofInt 1 = (1 : Int32) by decide +kernel⟩
theorem d_Handler_perform_431 : ob_dk k_Handler_perform 431 432 (2 : Int32) (.iconst 2) 1 := ⟨by decide +kernel, rfl, show Int32.ofInt 2 = (2 : Int32) by decide +kernel⟩
theorem d_Handler_perform_432 : ob_dk k_Handler_perform 432 433 (4 : Int32) (.iconst 4) 1 := ⟨by decide +kernel, rfl, show Int32.ofInt 4 = (4 : Int32) by decide +kernel⟩
theorem d_Handler_perform_439 : ob_db k_Handler_perform 439 (.goto 346) 346 442 785 := ⟨by decide +kernel, rfl, by decide⟩
theorem d_Handler_perform_436 : ob_dc k_Handler_perform 436 (.invokevirtual 273) 3 439 := ⟨by decide +kernel, rfl⟩
theorem d_Handler_perform_433 : ob_dc k_Handler_perform 433 (.invokevirtual 187) 3 436 := ⟨by decide +kernel, rfl⟩
theorem d_Handler_perform_430 : ob_dv ob_ac k_Handler_perform 430 431 0 (.aload_n 0) 1 := ⟨by decide +kernel, rfl, rfl⟩
theorem d_Handler_perform_427 : ob_dc k_Handler_perform 427 (.invokevirtual 187) 3 430 := ⟨by decide +kernel, rfl⟩
theorem d_Handler_perform_424 : ob_dv ob_ac k_Handler_perform 424 425 0 (.aload_n 0) 1 := ⟨by decide +kernel, rfl, rfl⟩
theorem d_Handler_perform_421 : ob_dc k_Handler_perform 421 (.invokevirtual 187) 3 424 := ⟨by decide +kernel, rfl⟩
theorem d_Handler_perform_418 : ob_dv ob_ac k_Handler_perform 418 419 0 (.aload_n 0) 1 := ⟨by decide +kernel, rfl, rfl⟩
theorem d_Handler_perform_417 : ob_dv ob_ac k_Handler_perform 417 418 0 (.aload_n 0) 1 := ⟨by decide +kernel, rfl, rfl⟩
theorem d_Handler_perform_446 : ob_dk k_Handler_perform 446 447 (1 : Int32) (.iconst 1) 1 := ⟨by decide +kernel, rfl, show Int32.ofInt 1 = (1 : Int32) by decide +kernel⟩
theorem d_Handler_perform_450 : ob_db k_Handler_perform 450 (.goto 335) 335 453 785 := ⟨by decide +kernel, rfl, by decide⟩
theorem d_Handler_perform_447 : ob_dc k_Handler_perform 447 (.putfield 70) 3 450 := ⟨by decide +kernel, rfl⟩
theorem d_Handler_perform_443 : ob_dc k_Handler_perform 443 (.getfield 26) 3 446 := ⟨by decide +kernel, rfl⟩
theorem d_Handler_perform_442 : ob_dv ob_ac k_Handler_perform 442 443 0 (.aload_n 0) 1 := ⟨by decide +kernel, rfl, rfl⟩
theorem d_Handler_perform_457 : ob_dk k_Handler_perform 457 458 (0 : Int32) (.iconst 0) 1 := ⟨by decide +kernel, rfl, show Int32.ofInt 0 = (0 : Int32) by decide +kernel⟩
theorem d_Handler_perform_461 : ob_db k_Handler_perform 461 (.goto 324) 324 464 785 := ⟨by decide +kernel, rfl, by decide⟩
theorem d_Handler_perform_458 : ob_dc k_Handler_perform 458 (.putfield 70) 3 461 := ⟨by decide +kernel, rfl⟩
theorem d_Handler_perform_454 : ob_dc k_Handler_perform 454 (.getfield 26) 3 457 := ⟨by decide +kernel, rfl⟩
theorem d_Handler_perform_453 : ob_dv ob_ac k_Handler_perform 453 454 0 (.aload_n 0) 1 := ⟨by decide +kernel, rfl, rfl⟩
theorem d_Handler_perform_468 : ob_dk k_Handler_perform 468 469 (0 : Int32) (.iconst 0) 1 := ⟨by decide +kernel, rfl, show Int32.ofInt 0 = (0 : Int32) by decide +kernel⟩
theorem d_Handler_perform_476 : ob_dk k_Handler_perform 476 477 (0 : Int32) (.iconst 0) 1 := ⟨by decide +kernel, rfl, show Int32.ofInt 0 = (0 : Int32) by decide +kernel⟩
theorem d_Handler_perform_480 : ob_db k_Handler_perform 480 (.goto 305) 305 483 785 := ⟨by decide +kernel, rfl, by decide⟩
theorem d_Handler_perform_477 : ob_dc k_Handler_perform 477 (.putfield 70) 3 480 := ⟨by decide +kernel, rfl⟩
theorem d_Handler_perform_473 : ob_dc k_Handler_perform 473 (.getfield 26) 3 476 := ⟨by decide +kernel, rfl⟩
theorem d_Handler_perform_472 : ob_dv ob_ac k_Handler_perform 472 473 0 (.aload_n 0) 1 := ⟨by decide +kernel, rfl, rfl⟩
theorem d_Handler_perform_469 : ob_dc k_Handler_perform 469 (.putfield 276) 3 472 := ⟨by decide +kernel, rfl⟩
theorem d_Handler_perform_465 : ob_dc k_Handler_perform 465 (.getfield 26) 3 468 := ⟨by decide +kernel, rfl⟩
theorem d_Handler_perform_464 : ob_dv ob_ac k_Handler_perform 464 465 0 (.aload_n 0) 1 := ⟨by decide +kernel, rfl, rfl⟩
theorem d_Handler_perform_488 : ob_dk k_Handler_perform 488 489 (0 : Int32) (.iconst 0) 1 := ⟨by decide +kernel, rfl, show Int32.ofInt 0 = (0 : Int32) by decide +kernel⟩
theorem d_Handler_perform_489 : ob_dk k_Handler_perform 489 490 (4 : Int32) (.iconst 4) 1 := ⟨by decide +kernel, rfl, show Int32.ofInt 4 = (4 : Int32) by decide +kernel⟩
theorem d_Handler_perform_497 : ob_dk k_Handler_perform 497 499 (15 : Int32) (.bipush 15) 2 := ⟨by decide +kernel, rfl, show (Int8.ofInt 15).toInt32 = (15 : Int32) by decide +kernel⟩
theorem d_Handler_perform_503 : ob_dk k_Handler_perform 503 504 (4 : Int32) (.iconst 4) 1 := ⟨by decide +kernel, rfl, show Int32.ofInt 4 = (4 : Int32) by decide +kernel⟩
theorem d_Handler_perform_508 : ob_db k_Handler_perform 508 (.goto 277) 277 511 785 := ⟨by decide +kernel, rfl, by decide⟩
theorem d_Handler_perform_505 : ob_dc k_Handler_perform 505 (.invokevirtual 277) 3 508 := ⟨by decide +kernel, rfl⟩
theorem d_Handler_perform_504 : ob_dc k_Handler_perform 504 (.isub) 1 505 := ⟨by decide +kernel, rfl⟩
theorem d_Handler_perform_500 : ob_dc k_Handler_perform 500 (.invokevirtual 239) 3 503 := ⟨by decide +kernel, rfl⟩
theorem d_Handler_perform_499 : ob_dv ob_ac k_Handler_perform 499 500 0 (.aload_n 0) 1 := ⟨by decide +kernel, rfl, rfl⟩
theorem d_Handler_perform_494 : ob_dc k_Handler_perform 494 (.getfield 53) 3 497 := ⟨by decide +kernel, rfl⟩
theorem d_Handler_perform_493 : ob_dv ob_ac k_Handler_perform 493 494 0 (.aload_n 0) 1 := ⟨by decide +kernel, rfl, rfl⟩
theorem d_Handler_perform_490 : ob_dc k_Handler_perform 490 (.invokevirtual 187) 3 493 := ⟨by decide +kernel, rfl⟩
theorem d_Handler_perform_487 : ob_dv ob_ac k_Handler_perform 487 488 0 (.aload_n 0) 1 := ⟨by decide +kernel, rfl, rfl⟩
theorem d_Handler_perform_484 : ob_dc k_Handler_perform 484 (.getfield 26) 3 487 := ⟨by decide +kernel, rfl⟩
theorem d_Handler_perform_483 : ob_dv ob_ac k_Handler_perform 483 484 0 (.aload_n 0) 1 := ⟨by decide +kernel, rfl, rfl⟩
theorem d_Handler_perform_516 : ob_dk k_Handler_perform 516 517 (0 : Int32) (.iconst 0) 1 := ⟨by decide +kernel, rfl, show Int32.ofInt 0 = (0 : Int32) by decide +kernel⟩
theorem d_Handler_perform_517 : ob_dk k_Handler_perform 517 518 (2 : Int32) (.iconst 2) 1 := ⟨by decide +kernel, rfl, show Int32.ofInt 2 = (2 : Int32) by decide +kernel⟩
theorem d_Handler_perform_521 : ob_dk k_Handler_perform 521 524 (16383 : Int32) (.sipush 16383) 3 := ⟨by decide +kernel, rfl, show (Int16.ofInt 16383).toInt32 = (16383 : Int32) by decide +kernel⟩
theorem d_Handler_perform_528 : ob_db k_Handler_perform 528 (.goto 257) 257 531 785 := ⟨by decide +kernel, rfl, by decide⟩
theorem d_Handler_perform_525 : ob_dc k_Handler_perform 525 (.invokevirtual 280) 3 528 := ⟨by decide +kernel, rfl⟩
theorem d_Handler_perform_524 : ob_dc k_Handler_perform 524 (.iand) 1 525 := ⟨by decide +kernel, rfl⟩
theorem d_Handler_perform_518 : ob_dc k_Handler_perform 518 (.invokevirtual 187) 3 521 := ⟨by decide +kernel, rfl⟩
theorem d_Handler_perform_515 : ob_dv ob_ac k_Handler_perform 515 516 0 (.aload_n 0) 1 := ⟨by decide +kernel, rfl, rfl⟩
theorem d_Handler_perform_512 : ob_dc k_Handler_perform 512 (.getfield 26) 3 515 := ⟨by decide +kernel, rfl⟩
theorem d_Handler_perform_511 : ob_dv ob_ac k_Handler_perform 511 512 0 (.aload_n 0) 1 := ⟨by decide +kernel, rfl, rfl⟩
theorem d_Handler_perform_536 : ob_dk k_Handler_perform 536 537 (0 : Int32) (.iconst 0) 1 := ⟨by decide +kernel, rfl, show Int32.ofInt 0 = (0 : Int32) by decide +kernel⟩
theorem d_Handler_perform_537 : ob_dk k_Handler_perform 537 538 (4 : Int32) (.iconst 4) 1 := ⟨by decide +kernel, rfl, show Int32.ofInt 4 = (4 : Int32) by decide +kernel⟩
theorem d_Handler_perform_544 : ob_db k_Handler_perform 544 (.goto 241) 241 547 785 := ⟨by decide +kernel, rfl, by decide⟩
theorem d_Handler_perform_541 : ob_dc k_Handler_perform 541 (.invokevirtual 283) 3 544 := ⟨by decide +kernel, rfl⟩
theorem d_Handler_perform_538 : ob_dc k_Handler_perform 538 (.invokevirtual 187) 3 541 := ⟨by decide +kernel, rfl⟩
theorem d_Handler_perform_535 : ob_dv ob_ac k_Handler_perform 535 536 0 (.aload_n 0) 1 := ⟨by decide +kernel, rfl, rfl⟩
theorem d_Handler_perform_532 : ob_dc k_Handler_perform 532 (.getfield 26) 3 535 := ⟨by decide +kernel, rfl⟩
theorem d_Handler_perform_531 : ob_dv ob_ac k_Handler_perform 531 532 0 (.aload_n 0) 1 := ⟨by decide +kernel, rfl, rfl⟩
theorem d_Handler_perform_551 : ob_db k_Handler_perform 551 (.goto 234) 234 554 785 := ⟨by decide +kernel, rfl, by decide⟩
theorem d_Handler_perform_548 : ob_dc k_Handler_perform 548 (.invokevirtual 286) 3 551 := ⟨by decide +kernel, rfl⟩
theorem d_Handler_perform_547 : ob_dv ob_ac k_Handler_perform 547 548 0 (.aload_n 0) 1 := ⟨by decide +kernel, rfl, rfl⟩
theorem d_Handler_perform_560 : ob_dk k_Handler_perform 560 561 (0 : Int32) (.iconst 0) 1 := ⟨by decide +kernel, rfl, show Int32.ofInt 0 = (0 : Int32) by decide +kernel⟩
theorem d_Handler_perform_561 : ob_dk k_Handler_perform 561 562 (1 : Int32) (.iconst 1) 1 := ⟨by decide +kernel, rfl, show Int32.ofInt 1 = (1 : Int32) by decide +kernel⟩
theorem d_Handler_perform_568 : ob_dk k_Handler_perform 568 569 (1 : Int32) (.iconst 1) 1 := ⟨by decide +kernel, rfl, show Int32.ofInt 1 = (1 : Int32) by decide +kernel⟩
theorem d_Handler_perform_572 : ob_db k_Handler_perform 572 (.goto 213) 213 575 785 := ⟨by decide +kernel, rfl, by decide⟩
theorem d_Handler_perform_569 : ob_dc k_Handler_perform 569 (.invokevirtual 289) 3 572 := ⟨by decide +kernel, rfl⟩
theorem d_Handler_perform_565 : ob_dc k_Handler_perform 565 (.invokevirtual 229) 3 568 := ⟨by decide +kernel, rfl⟩
theorem d_Handler_perform_562 : ob_dc k_Handler_perform 562 (.invokevirtual 187) 3 565 := ⟨by decide +kernel, rfl⟩
theorem d_Handler_perform_559 : ob_dv ob_ac k_Handler_perform 559 560 0 (.aload_n 0) 1 := ⟨by decide +kernel, rfl, rfl⟩
theorem d_Handler_perform_556 : ob_dc k_Handler_perform 556 (.getfield 41) 3 559 := ⟨by decide +kernel, rfl⟩
theorem d_Handler_perform_555 : ob_dv ob_ac k_Handler_perform 555 556 0 (.aload_n 0) 1 := ⟨by decide +kernel, rfl, rfl⟩
theorem d_Handler_perform_554 : ob_dv ob_ac k_Handler_perform 554 555 0 (.aload_n 0) 1 := ⟨by decide +kernel, rfl, rfl⟩
theorem d_Handler_perform_581 : ob_dk k_Handler_perform 581 582 (0 : Int32) (.iconst 0) 1 := ⟨by decide +kernel, rfl, show Int32.ofInt 0 = (0 : Int32) by decide +kernel⟩
theorem d_Handler_perform_582 : ob_dk k_Handler_perform 582 583 (1 : Int32) (.iconst 1) 1 := ⟨by decide +kernel, rfl, show Int32.ofInt 1 = (1 : Int32) by decide +kernel⟩
theorem d_Handler_perform_589 : ob_dk k_Handler_perform 589 590 (0 : Int32) (.iconst 0) 1 := ⟨by decide +kernel, rfl, show Int32.ofInt 0 = (0 : Int32) by decide +kernel⟩
theorem d_Handler_perform_593 : ob_db k_Handler_perform 593 (.goto 192) 192 596 785 := ⟨by decide +kernel, rfl, by decide⟩
theorem d_Handler_perform_590 : ob_dc k_Handler_perform 590 (.invokevirtual 289) 3 593 := ⟨by decide +kernel, rfl⟩
theorem d_Handler_perform_586 : ob_dc k_Handler_perform 586 (.invokevirtual 229) 3 589 := ⟨by decide +kernel, rfl⟩
theorem d_Handler_perform_583 : ob_dc k_Handler_perform 583 (.invokevirtual 187) 3 586 := ⟨by decide +kernel, rfl⟩
theorem d_Handler_perform_580 : ob_dv ob_ac k_Handler_perform 580 581 0 (.aload_n 0) 1 := ⟨by decide +kernel, rfl, rfl⟩
theorem d_Handler_perform_577 : ob_dc k_Handler_perform 577 (.getfield 41) 3 580 := ⟨by decide +kernel, rfl⟩
theorem d_Handler_perform_576 : ob_dv ob_ac k_Handler_perform 576 577 0 (.aload_n 0) 1 := ⟨by decide +kernel, rfl, rfl⟩
theorem d_Handler_perform_575 : ob_dv ob_ac k_Handler_perform 575 576 0 (.aload_n 0) 1 := ⟨by decide +kernel, rfl, rfl⟩
theorem d_Handler_perform_600 : ob_db k_Handler_perform 600 (.goto 185) 185 603 785 := ⟨by decide +kernel, rfl, by decide⟩
theorem d_Handler_perform_597 : ob_dc k_Handler_perform 597 (.invokevirtual 292) 3 600 := ⟨by decide +kernel, rfl⟩
theorem d_Handler_perform_596 : ob_dv ob_ac k_Handler_perform 596 597 0 (.aload_n 0) 1 := ⟨by decide +kernel, rfl, rfl⟩
theorem d_Handler_perform_612 : ob_dk k_Handler_perform 612 613 (0 : Int32) (.iconst 0) 1 := ⟨by decide +kernel, rfl, show Int32.ofInt 0 = (0 : Int32) by decide +kernel⟩
theorem d_Handler_perform_613 : ob_dk k_Handler_perform 613 614 (1 : Int32) (.iconst 1) 1 := ⟨by decide +kernel, rfl, show Int32.ofInt 1 = (1 : Int32) by decide +kernel⟩
theorem d_Handler_perform_623 : ob_db k_Handler_perform 623 (.goto 162) 162 626 785 := ⟨by decide +kernel, rfl, by decide⟩
theorem d_Handler_perform_620 : ob_dc k_Handler_perform 620 (.invokevirtual 253) 3 623 := ⟨by decide +kernel, rfl⟩
theorem d_Handler_perform_617 : ob_dc k_Handler_perform 617 (.invokevirtual 229) 3 620 := ⟨by decide +kernel, rfl⟩
theorem d_Handler_perform_614 : ob_dc k_Handler_perform 614 (.invokevirtual 187) 3 617 := ⟨by decide +kernel, rfl⟩
theorem d_Handler_perform_611 : ob_dv ob_ac k_Handler_perform 611 612 0 (.aload_n 0) 1 := ⟨by decide +kernel, rfl, rfl⟩
theorem d_Handler_perform_608 : ob_dc k_Handler_perform 608 (.getfield 41) 3 611 := ⟨by decide +kernel, rfl⟩
theorem d_Handler_perform_607 : ob_dv ob_ac k_Handler_perform 607 608 0 (.aload_n 0) 1 := ⟨by decide +kernel, rfl, rfl⟩
theorem d_Handler_perform_604 : ob_dc k_Handler_perform 604 (.getfield 41) 3 607 := ⟨by decide +kernel, rfl⟩
theorem d_Handler_perform_603 : ob_dv ob_ac k_Handler_perform 603 604 0 (.aload_n 0) 1 := ⟨by decide +kernel, rfl, rfl⟩
theorem d_Handler_perform_628 : ob_dk k_Handler_perform 628 629 (0 : Int32) (.iconst 0) 1 := ⟨by decide +kernel, rfl, show Int32.ofInt 0 = (0 : Int32) by decide +kernel⟩
theorem d_Handler_perform_629 : ob_dk k_Handler_perform 629 630 (1 : Int32) (.iconst 1) 1 := ⟨by decide +kernel, rfl, show Int32.ofInt 1 = (1 : Int32) by decide +kernel⟩
theorem d_Handler_perform_633 : ob_dk k_Handler_perform 633 634 (1 : Int32) (.iconst 1) 1 := ⟨by decide +kernel, rfl, show Int32.ofInt 1 = (1 : Int32) by decide +kernel⟩
theorem d_Handler_perform_637 : ob_db k_Handler_perform 637 (.goto 148) 148 640 785 := ⟨by decide +kernel, rfl, by decide⟩
theorem d_Handler_perform_634 : ob_dc k_Handler_perform 634 (.invokevirtual 295) 3 637 := ⟨by decide +kernel, rfl⟩
theorem d_Handler_perform_630 : ob_dc k_Handler_perform 630 (.invokevirtual 187) 3 633 := ⟨by decide +kernel, rfl⟩
theorem d_Handler_perform_627 : ob_dv ob_ac k_Handler_perform 627 628 0 (.aload_n 0) 1 := ⟨by decide +kernel, rfl, rfl⟩
theorem d_Handler_perform_626 : ob_dv ob_ac k_Handler_perform 626 627 0 (.aload_n 0) 1 := ⟨by decide +kernel, rfl, rfl⟩
theorem d_Handler_perform_642 : ob_dk k_Handler_perform 642 643 (0 : Int32) (.iconst 0) 1 := ⟨by decide +kernel, rfl, show Int32.ofInt 0 = (0 : Int32) by decide +kernel⟩
theorem d_Handler_perform_643 : ob_dk k_Handler_perform 643 644 (1 : Int32) (.iconst 1) 1 := ⟨by decide +kernel, rfl, show Int32.ofInt 1 = (1 : Int32) by decide +kernel⟩
theorem d_Handler_perform_647 : ob_dk k_Handler_perform 647 648 (0 : Int32) (.iconst 0) 1 := ⟨by decide +kernel, rfl, show Int32.ofInt 0 = (0 : Int32) by decide +kernel⟩
theorem d_Handler_perform_651 : ob_db k_Handler_perform 651 (.goto 134) 134 654 785 := ⟨by decide +kernel, rfl, by decide⟩
theorem d_Handler_perform_648 : ob_dc k_Handler_perform 648 (.invokevirtual 295) 3 651 := ⟨by decide +kernel, rfl⟩
theorem d_Handler_perform_644 : ob_dc k_Handler_perform 644 (.invokevirtual 187) 3 647 := ⟨by decide +kernel, rfl⟩
theorem d_Handler_perform_641 : ob_dv ob_ac k_Handler_perform 641 642 0 (.aload_n 0) 1 := ⟨by decide +kernel, rfl, rfl⟩
theorem d_Handler_perform_640 : ob_dv ob_ac k_Handler_perform 640 641 0 (.aload_n 0) 1 := ⟨by decide +kernel, rfl, rfl⟩
theorem d_Handler_perform_659 : ob_dk k_Handler_perform 659 660 (0 : Int32) (.iconst 0) 1 := ⟨by decide +kernel, rfl, show Int32.ofInt 0 = (0 : Int32) by decide +kernel⟩
theorem d_Handler_perform_660 : ob_dk k_Handler_perform 660 661 (4 : Int32) (.iconst 4) 1 := ⟨by decide +kernel, rfl, show Int32.ofInt 4 = (4 : Int32) by decide +kernel⟩
theorem d_Handler_perform_665 : ob_dk k_Handler_perform 665 666 (4 : Int32) (.iconst 4) 1 := ⟨by decide +kernel, rfl, show Int32.ofInt 4 = (4 : Int32) by decide +kernel⟩
theorem d_Handler_perform_666 : ob_dk k_Handler_perform 666 667 (4 : Int32) (.iconst 4) 1 := ⟨by decide +kernel, rfl, show Int32.ofInt 4 = (4 : Int32) by decide +kernel⟩
theorem d_Handler_perform_673 : ob_db k_Handler_perform 673 (.goto 112) 112 676 785 := ⟨by decide +kernel, rfl, by decide⟩
theorem d_Handler_perform_670 : ob_dc k_Handler_perform 670 (.invokevirtual 298) 3 673 := ⟨by decide +kernel, rfl⟩
theorem d_Handler_perform_667 : ob_dc k_Handler_perform 667 (.invokevirtual 187) 3 670 := ⟨by decide +kernel, rfl⟩
theorem d_Handler_perform_664 : ob_dv ob_ac k_Handler_perform 664 665 0 (.aload_n 0) 1 := ⟨by decide +kernel, rfl, rfl⟩
theorem d_Handler_perform_661 : ob_dc k_Handler_perform 661 (.invokevirtual 187) 3 664 := ⟨by decide +kernel, rfl⟩
theorem d_Handler_perform_658 : ob_dv ob_ac k_Handler_perform 658 659 0 (.aload_n 0) 1 := ⟨by decide +kernel, rfl, rfl⟩
theorem d_Handler_perform_655 : ob_dc k_Handler_perform 655 (.getfield 36) 3 658 := ⟨by decide +kernel, rfl⟩
theorem d_Handler_perform_654 : ob_dv ob_ac k_Handler_perform 654 655 0 (.aload_n 0) 1 := ⟨by decide +kernel, rfl, rfl⟩
theorem d_Handler_perform_681 : ob_dk k_Handler_perform 681 682 (0 : Int32) (.iconst 0) 1 := ⟨by decide +kernel, rfl, show Int32.ofInt 0 = (0 : Int32) by decide +kernel⟩
theorem d_Handler_perform_682 : ob_dk k_Handler_perform 682 683 (4 : Int32) (.iconst 4) 1 := ⟨by decide +kernel, rfl, show Int32.ofInt 4 = (4 : Int32) by decide +kernel⟩
theorem d_Handler_perform_689 : ob_db k_Handler_perform 689 (.goto 96) 96 692 785 := ⟨by decide +kernel, rfl, by decide⟩
theorem d_Handler_perform_686 : ob_dc k_Handler_perform 686 (.invokevirtual 301) 3 689 := ⟨by decide +kernel, rfl⟩
theorem d_Handler_perform_683 : ob_dc k_Handler_perform 683 (.invokevirtual 187) 3 686 := ⟨by decide +kernel, rfl⟩
theorem d_Handler_perform_680 : ob_dv ob_ac k_Handler_perform 680 681 0 (.aload_n 0) 1 := ⟨by decide +kernel, rfl, rfl⟩
theorem d_Handler_perform_677 : ob_dc k_Handler_perform 677 (.getfield 36) 3 680 := ⟨by decide +kernel, rfl⟩
theorem d_Handler_perform_676 : ob_dv ob_ac k_Handler_perform 676 677 0 (.aload_n 0) 1 := ⟨by decide +kernel, rfl, rfl⟩
theorem d_Handler_perform_696 : ob_dk k_Handler_perform 696 697 (0 : Int32) (.iconst 0) 1 := ⟨by decide +kernel, rfl, show Int32.ofInt 0 = (0 : Int32) by decide +kernel⟩
theorem d_Handler_perform_700 : ob_db k_Handler_perform 700 (.goto 85) 85 703 785 := ⟨by decide +kernel, rfl, by decide⟩
theorem d_Handler_perform_697 : ob_dc k_Handler_perform 697 (.putfield 215) 3 700 := ⟨by decide +kernel, rfl⟩
theorem d_Handler_perform_693 : ob_dc k_Handler_perform 693 (.getfield 36) 3 696 := ⟨by decide +kernel, rfl⟩
theorem d_Handler_perform_692 : ob_dv ob_ac k_Handler_perform 692 693 0 (.aload_n 0) 1 := ⟨by decide +kernel, rfl, rfl⟩
theorem d_Handler_perform_707 : ob_dk k_Handler_perform 707 709 (17 : Int32) (.bipush 17) 2 := ⟨by decide +kernel, rfl, show (Int8.ofInt 17).toInt32 = (17 : Int32) by decide +kernel⟩
theorem d_Handler_perform_709 : ob_dk k_Handler_perform 709 710 (2 : Int32) (.iconst 2) 1 := ⟨by decide +kernel, rfl, show Int32.ofInt 2 = (2 : Int32) by decide +kernel⟩
theorem d_Handler_perform_728 : ob_db k_Handler_perform 728 (.goto 57) 57 731 785 := ⟨by decide +kernel, rfl, by decide⟩
theorem d_Handler_perform_725 : ob_dc k_Handler_perform 725 (.invokevirtual 124) 3 728 := ⟨by decide +kernel, rfl⟩
theorem d_Handler_perform_722 : ob_dc k_Handler_perform 722 (.getfield 36) 3 725 := ⟨by decide +kernel, rfl⟩
theorem d_Handler_perform_721 : ob_dv ob_ac k_Handler_perform 721 722 0 (.aload_n 0) 1 := ⟨by decide +kernel, rfl, rfl⟩
theorem d_Handler_perform_720 : ob_dc k_Handler_perform 720 (.pop) 1 721 := ⟨by decide +kernel, rfl⟩
theorem d_Handler_perform_717 : ob_dc k_Handler_perform 717 (.invokevirtual 115) 3 720 := ⟨by decide +kernel, rfl⟩
theorem d_Handler_perform_714 : ob_dc k_Handler_perform 714 (.getfield 58) 3 717 := ⟨by decide +kernel, rfl⟩
theorem d_Handler_perform_711 : ob_dc k_Handler_perform 711 (.getfield 9) 3 714 := ⟨by decide +kernel, rfl⟩
theorem d_Handler_perform_710 : ob_dv ob_ac k_Handler_perform 710 711 0 (.aload_n 0) 1 := ⟨by decide +kernel, rfl, rfl⟩
theorem d_Handler_perform_704 : ob_dc k_Handler_perform 704 (.getfield 36) 3 707 := ⟨by decide +kernel, rfl⟩
theorem d_Handler_perform_703 : ob_dv ob_ac k_Handler_perform 703 704 0 (.aload_n 0) 1 := ⟨by decide +kernel, rfl, rfl⟩
theorem d_Handler_perform_733 : ob_dk k_Handler_perform 733 734 (0 : Int32) (.iconst 0) 1 := ⟨by decide +kernel, rfl, show Int32.ofInt 0 = (0 : Int32) by decide +kernel⟩
theorem d_Handler_perform_734 : ob_dk k_Handler_perform 734 735 (1 : Int32) (.iconst 1) 1 := ⟨by decide +kernel, rfl, show Int32.ofInt 1 = (1 : Int32) by decide +kernel⟩
theorem d_Handler_perform_741 : ob_db k_Handler_perform 741 (.goto 44) 44 744 785 := ⟨by decide +kernel, rfl, by decide⟩
theorem d_Handler_perform_738 : ob_dc k_Handler_perform 738 (.invokevirtual 304) 3 741 := ⟨by decide +kernel, rfl⟩
theorem d_Handler_perform_735 : ob_dc k_Handler_perform 735 (.invokevirtual 187) 3 738 := ⟨by decide +kernel, rfl⟩
theorem d_Handler_perform_732 : ob_dv ob_ac k_Handler_perform 732 733 0 (.aload_n 0) 1 := ⟨by decide +kernel, rfl, rfl⟩
theorem d_Handler_perform_731 : ob_dv ob_ac k_Handler_perform 731 732 0 (.aload_n 0) 1 := ⟨by decide +kernel, rfl, rfl⟩
theorem d_Handler_perform_746 : ob_dk k_Handler_perform 746 747 (0 : Int32) (.iconst 0) 1 := ⟨by decide +kernel, rfl, show Int32.ofInt 0 = (0 : Int32) by decide +kernel⟩
theorem d_Handler_perform_747 : ob_dk k_Handler_perform 747 748 (1 : Int32) (.iconst 1) 1 := ⟨by decide +kernel, rfl, show Int32.ofInt 1 = (1 : Int32) by decide +kernel⟩
theorem d_Handler_perform_754 : ob_db k_Handler_perform 754 (.goto 31) 31 757 785 := ⟨by decide +kernel, rfl, by decide⟩
theorem d_Handler_perform_751 : ob_dc k_Handler_perform 751 (.invokevirtual 307) 3 754 := ⟨by decide +kernel, rfl⟩
theorem d_Handler_perform_748 : ob_dc k_Handler_perform 748 (.invokevirtual 187) 3 751 := ⟨by decide +kernel, rfl⟩
theorem d_Handler_perform_745 : ob_dv ob_ac k_Handler_perform 745 746 0 (.aload_n 0) 1 := ⟨by decide +kernel, rfl, rfl⟩
theorem d_Handler_perform_744 : ob_dv ob_ac k_Handler_perform 744 745 0 (.aload_n 0) 1 := ⟨by decide +kernel, rfl, rfl⟩
theorem d_Handler_perform_759 : ob_dk k_Handler_perform 759 760 (0 : Int32) (.iconst 0) 1 := ⟨by decide +kernel, rfl, show Int32.ofInt 0 = (0 : Int32) by decide +kernel⟩
theorem d_Handler_perform_760 : ob_dk k_Handler_perform 760 761 (1 : Int32) (.iconst 1) 1 := ⟨by decide +kernel, rfl, show Int32.ofInt 1 = (1 : Int32) by decide +kernel⟩
theorem d_Handler_perform_764 : ob_dk k_Handler_perform 764 765 (1 : Int32) (.iconst 1) 1 := ⟨by decide +kernel, rfl, show Int32.ofInt 1 = (1 : Int32) by decide +kernel⟩
theorem d_Handler_perform_768 : ob_db k_Handler_perform 768 (.goto 17) 17 771 785 := ⟨by decide +kernel, rfl, by decide⟩
theorem d_Handler_perform_765 : ob_dc k_Handler_perform 765 (.invokevirtual 310) 3 768 := ⟨by decide +kernel, rfl⟩
theorem d_Handler_perform_761 : ob_dc k_Handler_perform 761 (.invokevirtual 187) 3 764 := ⟨by decide +kernel, rfl⟩
theorem d_Handler_perform_758 : ob_dv ob_ac k_Handler_perform 758 759 0 (.aload_n 0) 1 := ⟨by decide +kernel, rfl, rfl⟩
theorem d_Handler_perform_757 : ob_dv ob_ac k_Handler_perform 757 758 0 (.aload_n 0) 1 := ⟨by decide +kernel, rfl, rfl⟩
theorem d_Handler_perform_773 : ob_dk k_Handler_perform 773 774 (0 : Int32) (.iconst 0) 1 := ⟨by decide +kernel, rfl, show Int32.ofInt 0 = (0 : Int32) by decide +kernel⟩
theorem d_Handler_perform_774 : ob_dk k_Handler_perform 774 775 (1 : Int32) (.iconst 1) 1 := ⟨by decide +kernel, rfl, show Int32.ofInt 1 = (1 : Int32) by decide +kernel⟩
theorem d_Handler_perform_778 : ob_dk k_Handler_perform 778 779 (0 : Int32) (.iconst 0) 1 := ⟨by decide +kernel, rfl, show Int32.ofInt 0 = (0 : Int32) by decide +kernel⟩
theorem d_Handler_perform_782 : ob_db k_Handler_perform 782 (.goto 3) 3 785 785 := ⟨by decide +kernel, rfl, by decide⟩
theorem d_Handler_perform_779 : ob_dc k_Handler_perform 779 (.invokevirtual 310) 3 782 := ⟨by decide +kernel, rfl⟩
theorem d_Handler_perform_775 : ob_dc k_Handler_perform 775 (.invokevirtual 187) 3 778 := ⟨by decide +kernel, rfl⟩
theorem d_Handler_perform_772 : ob_dv ob_ac k_Handler_perform 772 773 0 (.aload_n 0) 1 := ⟨by decide +kernel, rfl, rfl⟩
theorem d_Handler_perform_771 : ob_dv ob_ac k_Handler_perform 771 772 0 (.aload_n 0) 1 := ⟨by decide +kernel, rfl, rfl⟩
theorem d_Handler_perform_0 : ob_dv ob_lc k_Handler_perform 0 1 1 (.iload_n 1) 1 := ⟨by decide +kernel, rfl, rfl⟩
theorem c_Handler_perform_250 : ob_vd k_Handler_perform k_Handler_addForm 250 0 11 := ⟨cw_Handler_addForm, yd_Handler_addForm, w_740, w_742, wp_27, w_13, ⟨_, _, rfl⟩, by decide, by decide⟩
theorem c_Handler_perform_253 : ob_vd k_Handler_perform k_Table_remove 253 1 7 := ⟨cw_Table_remove, yd_Table_remove, w_754, w_755, w_756, w_9, ⟨_, _, rfl⟩, by decide, by decide⟩
theorem c_Handler_perform_229 : ob_vd k_Handler_perform k_Table_find 229 1 7 := ⟨cw_Table_find, yd_Table_find, w_671, w_672, w_673, w_9, ⟨_, _, rfl⟩, by decide, by decide⟩
theorem c_Handler_perform_187 : ob_vd k_Handler_perform k_Handler_data 187 2 11 := ⟨cw_Handler_data, yd_Handler_data, w_663, w_665, wp_16, w_13, ⟨_, _, rfl⟩, by decide, by decide⟩
theorem c_Handler_perform_256 : ob_vd k_Handler_perform k_Table_set 256 3 7 := ⟨cw_Table_set, yd_Table_set, w_749, w_750, w_751, w_9, ⟨_, _, rfl⟩, by decide, by decide⟩
theorem c_Handler_perform_134 : ob_vd k_Handler_perform k_Handler_sendForm 134 1 11 := ⟨cw_Handler_sendForm, yd_Handler_sendForm, w_758, w_760, wp_28, w_13, ⟨_, _, rfl⟩, by decide, by decide⟩
theorem c_Handler_perform_260 : ob_vd k_Handler_perform k_Handler_setSilent 260 2 11 := ⟨cw_Handler_setSilent, yd_Handler_setSilent, w_766, w_768, wp_29, w_13, ⟨_, _, rfl⟩, by decide, by decide⟩
theorem c_Handler_perform_264 : ob_vd k_Handler_perform k_Handler_load 264 0 11 := ⟨cw_Handler_load, yd_Handler_load, w_770, w_772, wp_30, w_13, ⟨_, _, rfl⟩, by decide, by decide⟩
theorem c_Handler_perform_267 : ob_vd k_Handler_perform k_Handler_dump 267 0 11 := ⟨cw_Handler_dump, yd_Handler_dump, w_775, w_777, wp_31, w_13, ⟨_, _, rfl⟩, by decide, by decide⟩
theorem c_Handler_perform_270 : ob_vd k_Handler_perform k_Handler_sendMemoryCheck 270 0 11 := ⟨cw_Handler_sendMemoryCheck, yd_Handler_sendMemoryCheck, w_780, w_782, wp_32, w_13, ⟨_, _, rfl⟩, by decide, by decide⟩
theorem c_Handler_perform_273 : ob_vd k_Handler_perform k_Handler_performFunction 273 3 11 := ⟨cw_Handler_performFunction, yd_Handler_performFunction, w_784, w_786, wp_33, w_13, ⟨_, _, rfl⟩, by decide, by decide⟩
theorem c_Handler_perform_277 : ob_vd k_Handler_perform k_Timetable_add 277 4 5 := ⟨cw_Timetable_add, yd_Timetable_add, w_805, w_806, w_807, w_5, ⟨_, _, rfl⟩, by decide, by decide⟩
theorem c_Handler_perform_239 : ob_vd k_Handler_perform k_Handler_dataLength 239 0 11 := ⟨cw_Handler_dataLength, yd_Handler_dataLength, w_702, w_704, wp_22, w_13, ⟨_, _, rfl⟩, by decide, by decide⟩
theorem c_Handler_perform_280 : ob_vd k_Handler_perform k_Timetable_removeAll 280 1 5 := ⟨cw_Timetable_removeAll, yd_Timetable_removeAll, w_810, w_811, w_812, w_5, ⟨_, _, rfl⟩, by decide, by decide⟩
theorem c_Handler_perform_283 : ob_vd k_Handler_perform k_Timetable_shift 283 1 5 := ⟨cw_Timetable_shift, yd_Timetable_shift, w_814, w_815, w_816, w_5, ⟨_, _, rfl⟩, by decide, by decide⟩
theorem c_Handler_perform_286 : ob_vd k_Handler_perform k_Handler_tellEntries 286 0 11 := ⟨cw_Handler_tellEntries, yd_Handler_tellEntries, w_818, w_820, wp_34, w_13, ⟨_, _, rfl⟩, by decide, by decide⟩
theorem c_Handler_perform_289 : ob_vd k_Handler_perform k_Handler_switchLimit 289 2 11 := ⟨cw_Handler_switchLimit, yd_Handler_switchLimit, w_828, w_830, wp_35, w_13, ⟨_, _, rfl⟩, by decide, by decide⟩
theorem c_Handler_perform_292 : ob_vd k_Handler_perform k_Handler_addLimit 292 0 11 := ⟨cw_Handler_addLimit, yd_Handler_addLimit, w_832, w_834, wp_36, w_13, ⟨_, _, rfl⟩, by decide, by decide⟩
theorem c_Handler_perform_295 : ob_vd k_Handler_perform k_Handler_setStored 295 2 11 := ⟨cw_Handler_setStored, yd_Handler_setStored, w_836, w_838, wp_37, w_13, ⟨_, _, rfl⟩, by decide, by decide⟩
theorem c_Handler_perform_298 : ob_vd k_Handler_perform k_Reports_beginRetrieval 298 2 8 := ⟨cw_Reports_beginRetrieval, yd_Reports_beginRetrieval, w_840, w_841, w_842, w_11, ⟨_, _, rfl⟩, by decide, by decide⟩
theorem c_Handler_perform_301 : ob_vd k_Handler_perform k_Reports_dropUpTo 301 1 8 := ⟨cw_Reports_dropUpTo, yd_Reports_dropUpTo, w_844, w_845, w_846, w_11, ⟨_, _, rfl⟩, by decide, by decide⟩
theorem c_Handler_perform_124 : ob_vd k_Handler_perform k_Reports_send 124 0 8 := ⟨cw_Reports_send, yd_Reports_send, w_613, w_614, w_615, w_11, ⟨_, _, rfl⟩, by decide, by decide⟩
theorem c_Handler_perform_115 : ob_vd k_Handler_perform k_Reports_begin 115 3 8 := ⟨cw_Reports_begin, yd_Reports_begin, w_606, w_607, w_608, w_11, ⟨_, _, rfl⟩, by decide, by decide⟩
theorem c_Handler_perform_304 : ob_vd k_Handler_perform k_Handler_addAction 304 1 11 := ⟨cw_Handler_addAction, yd_Handler_addAction, w_848, w_850, wp_38, w_13, ⟨_, _, rfl⟩, by decide, by decide⟩
theorem c_Handler_perform_307 : ob_vd k_Handler_perform k_Handler_dropAction 307 1 11 := ⟨cw_Handler_dropAction, yd_Handler_dropAction, w_853, w_855, wp_39, w_13, ⟨_, _, rfl⟩, by decide, by decide⟩
theorem c_Handler_perform_310 : ob_vd k_Handler_perform k_Handler_switchAction 310 2 11 := ⟨cw_Handler_switchAction, yd_Handler_switchAction, w_857, w_859, wp_40, w_13, ⟨_, _, rfl⟩, by decide, by decide⟩
def f_Handler_perform (S : ob_S) (v0 : Nat) (v1 : Int32) (D : ob_D) : Option (ob_D) :=
  (if v1 = (769 : Int32) then ob_bv (f_Handler_addForm S v0 D) fun D1 => some D1 else if v1 = (771 : Int32) then if D.2.1 v0 5 ≠ 0 then if D.2.1 v0 5 ≠ 0 then ob_bd (f_Handler_data S v0 (0 : Int32) (1 : Int32) D) fun x10 D8 => ob_bd (f_Table_find S (D.2.1 v0 5) x10 D8) fun x13 D11 => ob_bv (f_Table_remove S (D.2.1 v0 5) x13 D11) fun D14 => some D14 else none else none else if v1 = (773 : Int32) then if D.2.1 v0 5 ≠ 0 then if D.2.1 v0 5 ≠ 0 then ob_bd (f_Handler_data S v0 (0 : Int32) (1 : Int32) D) fun x23 D21 => ob_bd (f_Table_find S (D.2.1 v0 5) x23 D21) fun x26 D24 => ob_bv (f_Table_set S (D.2.1 v0 5) x26 (1 : Int32) (1 : Int32) D24) fun D27 => some D27 else none else none else if v1 = (774 : Int32) then if D.2.1 v0 5 ≠ 0 then if D.2.1 v0 5 ≠ 0 then ob_bd (f_Handler_data S v0 (0 : Int32) (1 : Int32) D) fun x36 D34 => ob_bd (f_Table_find S (D.2.1 v0 5) x36 D34) fun x39 D37 => ob_bv (f_Table_set S (D.2.1 v0 5) x39 (1 : Int32) (0 : Int32) D37) fun D40 => some D40 else none else none else if v1 = (795 : Int32) then if D.2.1 v0 5 ≠ 0 then ob_bd (f_Handler_data S v0 (0 : Int32) (1 : Int32) D) fun x47 D45 => ob_bd (f_Table_find S (D.2.1 v0 5) x47 D45) fun x50 D48 => ob_bv (f_Handler_sendForm S v0 x50 D48) fun D51 => some D51 else none else if v1 = (1285 : Int32) then ob_bd (f_Handler_data S v0 (0 : Int32) (1 : Int32) D) fun x56 D54 => ob_bv (f_Handler_setSilent S v0 x56 (0 : Int32) D54) fun D57 => some D57 else if v1 = (1286 : Int32) then ob_bd (f_Handler_data S v0 (0 : Int32) (1 : Int32) D) fun x62 D60 => ob_bv (f_Handler_setSilent S v0 x62 (1 : Int32) D60) fun D63 => some D63 else if v1 = (1538 : Int32) then ob_bv (f_Handler_load S v0 D) fun D66 => some D66 else if v1 = (1541 : Int32) then ob_bv (f_Handler_dump S v0 D) fun D69 => some D69 else if v1 = (1545 : Int32) then ob_bv (f_Handler_sendMemoryCheck S v0 D) fun D72 => some D72 else if v1 = (2049 : Int32) then ob_bd (f_Handler_data S v0 (0 : Int32) (1 : Int32) D) fun x77 D75 => ob_bd (f_Handler_data S v0 (1 : Int32) (1 : Int32) D75) fun x80 D78 => ob_bd (f_Handler_data S v0 (2 : Int32) (4 : Int32) D78) fun x83 D81 => ob_bv (f_Handler_performFunction S v0 x77 x80 x83 D81) fun D84 => some D84 else if v1 = (2817 : Int32) then if D.2.1 v0 2 ≠ 0 then ob_lt (ob_pI D (D.2.1 v0 2) 3 (1 : Int32)) fun D89 => some D89 else none else if v1 = (2818 : Int32) then if D.2.1 v0 2 ≠ 0 then ob_lt (ob_pI D (D.2.1 v0 2) 3 (0 : Int32)) fun D93 => some D93 else none else if v1 = (2819 : Int32) then if D.2.1 v0 2 ≠ 0 then ob_lt (ob_pI D (D.2.1 v0 2) 2 (0 : Int32)) fun D97 => if D97.2.1 v0 2 ≠ 0 then ob_lt (ob_pI D97 (D97.2.1 v0 2) 3 (0 : Int32)) fun D100 => some D100 else none else none else if v1 = (2820 : Int32) then if D.2.1 v0 2 ≠ 0 then ob_bd (f_Handler_data S v0 (0 : Int32) (4 : Int32) D) fun x106 D104 => if D104.2.1 v0 8 ≠ 0 then ob_bd (f_Handler_dataLength S v0 D104) fun x111 D109 => ob_bv (f_Timetable_add S (D.2.1 v0 2) x106 (D104.2.1 v0 8) (15 : Int32) (x111 - (4 : Int32)) D109) fun D112 => some D112 else none else none else if v1 = (2821 : Int32) then if D.2.1 v0 2 ≠ 0 then ob_bd (f_Handler_data S v0 (0 : Int32) (2 : Int32) D) fun x119 D117 => ob_bv (f_Timetable_removeAll S (D.2.1 v0 2) (x119 &&& (16383 : Int32)) D117) fun D120 => some D120 else none else if v1 = (2831 : Int32) then if D.2.1 v0 2 ≠ 0 then ob_bd (f_Handler_data S v0 (0 : Int32) (4 : Int32) D) fun x127 D125 => ob_bv (f_Timetable_shift S (D.2.1 v0 2) x127 D125) fun D128 => some D128 else none else if v1 = (2833 : Int32) then ob_bv (f_Handler_tellEntries S v0 D) fun D131 => some D131 else if v1 = (3073 : Int32) then if D.2.1 v0 6 ≠ 0 then ob_bd (f_Handler_data S v0 (0 : Int32) (1 : Int32) D) fun x138 D136 => ob_bd (f_Table_find S (D.2.1 v0 6) x138 D136) fun x141 D139 => ob_bv (f_Handler_switchLimit S v0 x141 (1 : Int32) D139) fun D142 => some D142 else none else if v1 = (3074 : Int32) then if D.2.1 v0 6 ≠ 0 then ob_bd (f_Handler_data S v0 (0 : Int32) (1 : Int32) D) fun x149 D147 => ob_bd (f_Table_find S (D.2.1 v0 6) x149 D147) fun x152 D150 => ob_bv (f_Handler_switchLimit S v0 x152 (0 : Int32) D150) fun D153 => some D153 else none else if v1 = (3077 : Int32) then ob_bv (f_Handler_addLimit S v0 D) fun D156 => some D156 else if v1 = (3078 : Int32) then if D.2.1 v0 6 ≠ 0 then if D.2.1 v0 6 ≠ 0 then ob_bd (f_Handler_data S v0 (0 : Int32) (1 : Int32) D) fun x165 D163 => ob_bd (f_Table_find S (D.2.1 v0 6) x165 D163) fun x168 D166 => ob_bv (f_Table_remove S (D.2.1 v0 6) x168 D166) fun D169 => some D169 else none else none else if v1 = (3841 : Int32) then ob_bd (f_Handler_data S v0 (0 : Int32) (1 : Int32) D) fun x174 D172 => ob_bv (f_Handler_setStored S v0 x174 (1 : Int32) D172) fun D175 => some D175 else if v1 = (3842 : Int32) then ob_bd (f_Handler_data S v0 (0 : Int32) (1 : Int32) D) fun x180 D178 => ob_bv (f_Handler_setStored S v0 x180 (0 : Int32) D178) fun D181 => some D181 else if v1 = (3849 : Int32) then if D.2.1 v0 4 ≠ 0 then ob_bd (f_Handler_data S v0 (0 : Int32) (4 : Int32) D) fun x188 D186 => ob_bd (f_Handler_data S v0 (4 : Int32) (4 : Int32) D186) fun x191 D189 => ob_bv (f_Reports_beginRetrieval S (D.2.1 v0 4) x188 x191 D189) fun D192 => some D192 else none else if v1 = (3851 : Int32) then if D.2.1 v0 4 ≠ 0 then ob_bd (f_Handler_data S v0 (0 : Int32) (4 : Int32) D) fun x199 D197 => ob_bv (f_Reports_dropUpTo S (D.2.1 v0 4) x199 D197) fun D200 => some D200 else none else if v1 = (3852 : Int32) then if D.2.1 v0 4 ≠ 0 then ob_lt (ob_pI D (D.2.1 v0 4) 8 (0 : Int32)) fun D205 => some D205 else none else if v1 = (4353 : Int32) then if D.2.1 v0 4 ≠ 0 then if D.2.1 v0 0 ≠ 0 then ob_bd (f_Reports_begin S (D.2.1 v0 4) (17 : Int32) (2 : Int32) (D.1 (D.2.1 v0 0) 8) D) fun x213 D211 => if S.1 x213 = 2 then if D211.2.1 v0 4 ≠ 0 then ob_bv (f_Reports_send S (D211.2.1 v0 4) D211) fun D217 => some D217 else none else none else none else none else if v1 = (4865 : Int32) then ob_bd (f_Handler_data S v0 (0 : Int32) (1 : Int32) D) fun x222 D220 => ob_bv (f_Handler_addAction S v0 x222 D220) fun D223 => some D223 else if v1 = (4866 : Int32) then ob_bd (f_Handler_data S v0 (0 : Int32) (1 : Int32) D) fun x228 D226 => ob_bv (f_Handler_dropAction S v0 x228 D226) fun D229 => some D229 else if v1 = (4868 : Int32) then ob_bd (f_Handler_data S v0 (0 : Int32) (1 : Int32) D) fun x234 D232 => ob_bv (f_Handler_switchAction S v0 x234 (1 : Int32) D232) fun D235 => some D235 else if v1 = (4869 : Int32) then ob_bd (f_Handler_data S v0 (0 : Int32) (1 : Int32) D) fun x240 D238 => ob_bv (f_Handler_switchAction S v0 x240 (0 : Int32) D238) fun D241 => some D241 else some D)
theorem c_Handler_perform {l : Launch} {E : ob_E} {S : ob_S} {D : ob_D} {v0 : Nat} {v1 : Int32} {D' : ob_D} (hp_v0 : S.1 v0 = 12) (h : f_Handler_perform S v0 v1 D = some D') : ob_M l E k_Handler_perform [.ref v0, .int v1] S D none S D' := by
  refine ob_ofV (lo := [(0, .ref v0), (1, .int v1)]) (by decide) rfl (Nat.le_of_ble_eq_true rfl) rfl (Nat.le_refl _) (Nat.le_refl _) ?_
  rw [f_Handler_perform] at h
  refine ob_iload d_Handler_perform_0 rfl ?_
  by_cases hs3 : v1 = (769 : Int32)
  · replace h := ob_ift hs3 h
    refine ob_lku (off := 267) (t := 268) d_Handler_perform_1 (by decide +kernel) (by rw [hs3]; decide +kernel) (by decide) ?_
    refine ob_aload d_Handler_perform_268 rfl ?_
    obtain ⟨D1, h2, h⟩ := ob_bv_e h
    refine ob_callVv (As := []) (rest := []) d_Handler_perform_269 c_Handler_perform_250 hp_v0 rfl rfl (Nat.le_of_ble_eq_true rfl) (c_Handler_addForm hp_v0 h2) ⟨Nat.le_refl _, Nat.le_refl _⟩ ⟨Nat.le_refl _, Nat.le_refl _⟩ ?_
    refine ob_goto d_Handler_perform_272 ?_
    exact ob_ve h (ob_vret d_Handler_perform_785 rfl)
  replace h := ob_iff hs3 h
  by_cases hs16 : v1 = (771 : Int32)
  · replace h := ob_ift hs16 h
    refine ob_lku (off := 274) (t := 275) d_Handler_perform_1 (by decide +kernel) (by rw [hs16]; decide +kernel) (by decide) ?_
    refine ob_aload d_Handler_perform_275 rfl ?_
    obtain ⟨hg5, h⟩ := ob_gd h
    refine ob_getR d_Handler_perform_276 F_11_5 l_Handler_37 hp_v0 hg5 (fun hk4 => ?_)
    refine ob_aload d_Handler_perform_279 rfl ?_
    obtain ⟨hg7, h⟩ := ob_gd h
    refine ob_getR d_Handler_perform_280 F_11_5 l_Handler_37 hp_v0 hg7 (fun hk6 => ?_)
    refine ob_aload d_Handler_perform_283 rfl ?_
    refine ob_push d_Handler_perform_284 ?_
    refine ob_push d_Handler_perform_285 ?_
    obtain ⟨x10, D8, h9, h⟩ := ob_bd_e h
    refine ob_callVi (As := [.int (0 : Int32), .int (1 : Int32)]) (rest := [.ref (D.2.1 v0 5), .ref (D.2.1 v0 5)]) d_Handler_perform_286 c_Handler_perform_187 hp_v0 rfl rfl (Nat.le_of_ble_eq_true rfl) (c_Handler_data hp_v0 h9) ⟨Nat.le_refl _, Nat.le_refl _⟩ ⟨Nat.le_refl _, Nat.le_refl _⟩ ?_
    obtain ⟨x13, D11, h12, h⟩ := ob_bd_e h
    refine ob_callVi (As := [.int x10]) (rest := [.ref (D.2.1 v0 5)]) d_Handler_perform_289 c_Handler_perform_229 hk6 rfl rfl (Nat.le_of_ble_eq_true rfl) (c_Table_find hk6 h12) ⟨Nat.le_refl _, Nat.le_refl _⟩ ⟨Nat.le_refl _, Nat.le_refl _⟩ ?_
    obtain ⟨D14, h15, h⟩ := ob_bv_e h
    refine ob_callVv (As := [.int x13]) (rest := []) d_Handler_perform_292 c_Handler_perform_253 hk4 rfl rfl (Nat.le_of_ble_eq_true rfl) (c_Table_remove hk4 h15) ⟨Nat.le_refl _, Nat.le_refl _⟩ ⟨Nat.le_refl _, Nat.le_refl _⟩ ?_
    refine ob_goto d_Handler_perform_295 ?_
    exact ob_ve h (ob_vret d_Handler_perform_785 rfl)
  replace h := ob_iff hs16 h
  by_cases hs29 : v1 = (773 : Int32)
  · replace h := ob_ift hs29 h
    refine ob_lku (off := 297) (t := 298) d_Handler_perform_1 (by decide +kernel) (by rw [hs29]; decide +kernel) (by decide) ?_
    refine ob_aload d_Handler_perform_298 rfl ?_
    obtain ⟨hg18, h⟩ := ob_gd h
    refine ob_getR d_Handler_perform_299 F_11_5 l_Handler_37 hp_v0 hg18 (fun hk17 => ?_)
    refine ob_aload d_Handler_perform_302 rfl ?_
    obtain ⟨hg20, h⟩ := ob_gd h
    refine ob_getR d_Handler_perform_303 F_11_5 l_Handler_37 hp_v0 hg20 (fun hk19 => ?_)
    refine ob_aload d_Handler_perform_306 rfl ?_
    refine ob_push d_Handler_perform_307 ?_
    refine ob_push d_Handler_perform_308 ?_
    obtain ⟨x23, D21, h22, h⟩ := ob_bd_e h
    refine ob_callVi (As := [.int (0 : Int32), .int (1 : Int32)]) (rest := [.ref (D.2.1 v0 5), .ref (D.2.1 v0 5)]) d_Handler_perform_309 c_Handler_perform_187 hp_v0 rfl rfl (Nat.le_of_ble_eq_true rfl) (c_Handler_data hp_v0 h22) ⟨Nat.le_refl _, Nat.le_refl _⟩ ⟨Nat.le_refl _, Nat.le_refl _⟩ ?_
    obtain ⟨x26, D24, h25, h⟩ := ob_bd_e h
    refine ob_callVi (As := [.int x23]) (rest := [.ref (D.2.1 v0 5)]) d_Handler_perform_312 c_Handler_perform_229 hk19 rfl rfl (Nat.le_of_ble_eq_true rfl) (c_Table_find hk19 h25) ⟨Nat.le_refl _, Nat.le_refl _⟩ ⟨Nat.le_refl _, Nat.le_refl _⟩ ?_
    refine ob_push d_Handler_perform_315 ?_
    refine ob_push d_Handler_perform_316 ?_
    obtain ⟨D27, h28, h⟩ := ob_bv_e h
    refine ob_callVv (As := [.int x26, .int (1 : Int32), .int (1 : Int32)]) (rest := []) d_Handler_perform_317 c_Handler_perform_256 hk17 rfl rfl (Nat.le_of_ble_eq_true rfl) (c_Table_set hk17 h28) ⟨Nat.le_refl _, Nat.le_refl _⟩ ⟨Nat.le_refl _, Nat.le_refl _⟩ ?_
    refine ob_goto d_Handler_perform_320 ?_
    exact ob_ve h (ob_vret d_Handler_perform_785 rfl)
  replace h := ob_iff hs29 h
  by_cases hs42 : v1 = (774 : Int32)
  · replace h := ob_ift hs42 h
    refine ob_lku (off := 322) (t := 323) d_Handler_perform_1 (by decide +kernel) (by rw [hs42]; decide +kernel) (by decide) ?_
    refine ob_aload d_Handler_perform_323 rfl ?_
    obtain ⟨hg31, h⟩ := ob_gd h
    refine ob_getR d_Handler_perform_324 F_11_5 l_Handler_37 hp_v0 hg31 (fun hk30 => ?_)
    refine ob_aload d_Handler_perform_327 rfl ?_
    obtain ⟨hg33, h⟩ := ob_gd h
    refine ob_getR d_Handler_perform_328 F_11_5 l_Handler_37 hp_v0 hg33 (fun hk32 => ?_)
    refine ob_aload d_Handler_perform_331 rfl ?_
    refine ob_push d_Handler_perform_332 ?_
    refine ob_push d_Handler_perform_333 ?_
    obtain ⟨x36, D34, h35, h⟩ := ob_bd_e h
    refine ob_callVi (As := [.int (0 : Int32), .int (1 : Int32)]) (rest := [.ref (D.2.1 v0 5), .ref (D.2.1 v0 5)]) d_Handler_perform_334 c_Handler_perform_187 hp_v0 rfl rfl (Nat.le_of_ble_eq_true rfl) (c_Handler_data hp_v0 h35) ⟨Nat.le_refl _, Nat.le_refl _⟩ ⟨Nat.le_refl _, Nat.le_refl _⟩ ?_
    obtain ⟨x39, D37, h38, h⟩ := ob_bd_e h
    refine ob_callVi (As := [.int x36]) (rest := [.ref (D.2.1 v0 5)]) d_Handler_perform_337 c_Handler_perform_229 hk32 rfl rfl (Nat.le_of_ble_eq_true rfl) (c_Table_find hk32 h38) ⟨Nat.le_refl _, Nat.le_refl _⟩ ⟨Nat.le_refl _, Nat.le_refl _⟩ ?_
    refine ob_push d_Handler_perform_340 ?_
    refine ob_push d_Handler_perform_341 ?_
    obtain ⟨D40, h41, h⟩ := ob_bv_e h
    refine ob_callVv (As := [.int x39, .int (1 : Int32), .int (0 : Int32)]) (rest := []) d_Handler_perform_342 c_Handler_perform_256 hk30 rfl rfl (Nat.le_of_ble_eq_true rfl) (c_Table_set hk30 h41) ⟨Nat.le_refl _, Nat.le_refl _⟩ ⟨Nat.le_refl _, Nat.le_refl _⟩ ?_
    refine ob_goto d_Handler_perform_345 ?_
    exact ob_ve h (ob_vret d_Handler_perform_785 rfl)
  replace h := ob_iff hs42 h
  by_cases hs53 : v1 = (795 : Int32)
  · replace h := ob_ift hs53 h
    refine ob_lku (off := 347) (t := 348) d_Handler_perform_1 (by decide +kernel) (by rw [hs53]; decide +kernel) (by decide) ?_
    refine ob_aload d_Handler_perform_348 rfl ?_
    refine ob_aload d_Handler_perform_349 rfl ?_
    obtain ⟨hg44, h⟩ := ob_gd h
    refine ob_getR d_Handler_perform_350 F_11_5 l_Handler_37 hp_v0 hg44 (fun hk43 => ?_)
    refine ob_aload d_Handler_perform_353 rfl ?_
    refine ob_push d_Handler_perform_354 ?_
    refine ob_push d_Handler_perform_355 ?_
    obtain ⟨x47, D45, h46, h⟩ := ob_bd_e h
    refine ob_callVi (As := [.int (0 : Int32), .int (1 : Int32)]) (rest := [.ref (D.2.1 v0 5), .ref v0]) d_Handler_perform_356 c_Handler_perform_187 hp_v0 rfl rfl (Nat.le_of_ble_eq_true rfl) (c_Handler_data hp_v0 h46) ⟨Nat.le_refl _, Nat.le_refl _⟩ ⟨Nat.le_refl _, Nat.le_refl _⟩ ?_
    obtain ⟨x50, D48, h49, h⟩ := ob_bd_e h
    refine ob_callVi (As := [.int x47]) (rest := [.ref v0]) d_Handler_perform_359 c_Handler_perform_229 hk43 rfl rfl (Nat.le_of_ble_eq_true rfl) (c_Table_find hk43 h49) ⟨Nat.le_refl _, Nat.le_refl _⟩ ⟨Nat.le_refl _, Nat.le_refl _⟩ ?_
    obtain ⟨D51, h52, h⟩ := ob_bv_e h
    refine ob_callVv (As := [.int x50]) (rest := []) d_Handler_perform_362 c_Handler_perform_134 hp_v0 rfl rfl (Nat.le_of_ble_eq_true rfl) (c_Handler_sendForm hp_v0 h52) ⟨Nat.le_refl _, Nat.le_refl _⟩ ⟨Nat.le_refl _, Nat.le_refl _⟩ ?_
    refine ob_goto d_Handler_perform_365 ?_
    exact ob_ve h (ob_vret d_Handler_perform_785 rfl)
  replace h := ob_iff hs53 h
  by_cases hs59 : v1 = (1285 : Int32)
  · replace h := ob_ift hs59 h
    refine ob_lku (off := 367) (t := 368) d_Handler_perform_1 (by decide +kernel) (by rw [hs59]; decide +kernel) (by decide) ?_
    refine ob_aload d_Handler_perform_368 rfl ?_
    refine ob_aload d_Handler_perform_369 rfl ?_
    refine ob_push d_Handler_perform_370 ?_
    refine ob_push d_Handler_perform_371 ?_
    obtain ⟨x56, D54, h55, h⟩ := ob_bd_e h
    refine ob_callVi (As := [.int (0 : Int32), .int (1 : Int32)]) (rest := [.ref v0]) d_Handler_perform_372 c_Handler_perform_187 hp_v0 rfl rfl (Nat.le_of_ble_eq_true rfl) (c_Handler_data hp_v0 h55) ⟨Nat.le_refl _, Nat.le_refl _⟩ ⟨Nat.le_refl _, Nat.le_refl _⟩ ?_
    refine ob_push d_Handler_perform_375 ?_
    obtain ⟨D57, h58, h⟩ := ob_bv_e h
    refine ob_callVv (As := [.int x56, .int (0 : Int32)]) (rest := []) d_Handler_perform_376 c_Handler_perform_260 hp_v0 rfl rfl (Nat.le_of_ble_eq_true rfl) (c_Handler_setSilent hp_v0 h58) ⟨Nat.le_refl _, Nat.le_refl _⟩ ⟨Nat.le_refl _, Nat.le_refl _⟩ ?_
    refine ob_goto d_Handler_perform_379 ?_
    exact ob_ve h (ob_vret d_Handler_perform_785 rfl)
  replace h := ob_iff hs59 h
  by_cases hs65 : v1 = (1286 : Int32)
  · replace h := ob_ift hs65 h
    refine ob_lku (off := 381) (t := 382) d_Handler_perform_1 (by decide +kernel) (by rw [hs65]; decide +kernel) (by decide) ?_
    refine ob_aload d_Handler_perform_382 rfl ?_
    refine ob_aload d_Handler_perform_383 rfl ?_
    refine ob_push d_Handler_perform_384 ?_
    refine ob_push d_Handler_perform_385 ?_
    obtain ⟨x62, D60, h61, h⟩ := ob_bd_e h
    refine ob_callVi (As := [.int (0 : Int32), .int (1 : Int32)]) (rest := [.ref v0]) d_Handler_perform_386 c_Handler_perform_187 hp_v0 rfl rfl (Nat.le_of_ble_eq_true rfl) (c_Handler_data hp_v0 h61) ⟨Nat.le_refl _, Nat.le_refl _⟩ ⟨Nat.le_refl _, Nat.le_refl _⟩ ?_
    refine ob_push d_Handler_perform_389 ?_
    obtain ⟨D63, h64, h⟩ := ob_bv_e h
    refine ob_callVv (As := [.int x62, .int (1 : Int32)]) (rest := []) d_Handler_perform_390 c_Handler_perform_260 hp_v0 rfl rfl (Nat.le_of_ble_eq_true rfl) (c_Handler_setSilent hp_v0 h64) ⟨Nat.le_refl _, Nat.le_refl _⟩ ⟨Nat.le_refl _, Nat.le_refl _⟩ ?_
    refine ob_goto d_Handler_perform_393 ?_
    exact ob_ve h (ob_vret d_Handler_perform_785 rfl)
  replace h := ob_iff hs65 h
  by_cases hs68 : v1 = (1538 : Int32)
  · replace h := ob_ift hs68 h
    refine ob_lku (off := 395) (t := 396) d_Handler_perform_1 (by decide +kernel) (by rw [hs68]; decide +kernel) (by decide) ?_
    refine ob_aload d_Handler_perform_396 rfl ?_
    obtain ⟨D66, h67, h⟩ := ob_bv_e h
    refine ob_callVv (As := []) (rest := []) d_Handler_perform_397 c_Handler_perform_264 hp_v0 rfl rfl (Nat.le_of_ble_eq_true rfl) (c_Handler_load hp_v0 h67) ⟨Nat.le_refl _, Nat.le_refl _⟩ ⟨Nat.le_refl _, Nat.le_refl _⟩ ?_
    refine ob_goto d_Handler_perform_400 ?_
    exact ob_ve h (ob_vret d_Handler_perform_785 rfl)
  replace h := ob_iff hs68 h
  by_cases hs71 : v1 = (1541 : Int32)
  · replace h := ob_ift hs71 h
    refine ob_lku (off := 402) (t := 403) d_Handler_perform_1 (by decide +kernel) (by rw [hs71]; decide +kernel) (by decide) ?_
    refine ob_aload d_Handler_perform_403 rfl ?_
    obtain ⟨D69, h70, h⟩ := ob_bv_e h
    refine ob_callVv (As := []) (rest := []) d_Handler_perform_404 c_Handler_perform_267 hp_v0 rfl rfl (Nat.le_of_ble_eq_true rfl) (c_Handler_dump hp_v0 h70) ⟨Nat.le_refl _, Nat.le_refl _⟩ ⟨Nat.le_refl _, Nat.le_refl _⟩ ?_
    refine ob_goto d_Handler_perform_407 ?_
    exact ob_ve h (ob_vret d_Handler_perform_785 rfl)
  replace h := ob_iff hs71 h
  by_cases hs74 : v1 = (1545 : Int32)
  · replace h := ob_ift hs74 h
    refine ob_lku (off := 409) (t := 410) d_Handler_perform_1 (by decide +kernel) (by rw [hs74]; decide +kernel) (by decide) ?_
    refine ob_aload d_Handler_perform_410 rfl ?_
    obtain ⟨D72, h73, h⟩ := ob_bv_e h
    refine ob_callVv (As := []) (rest := []) d_Handler_perform_411 c_Handler_perform_270 hp_v0 rfl rfl (Nat.le_of_ble_eq_true rfl) (c_Handler_sendMemoryCheck hp_v0 h73) ⟨Nat.le_refl _, Nat.le_refl _⟩ ⟨Nat.le_refl _, Nat.le_refl _⟩ ?_
    refine ob_goto d_Handler_perform_414 ?_
    exact ob_ve h (ob_vret d_Handler_perform_785 rfl)
  replace h := ob_iff hs74 h
  by_cases hs86 : v1 = (2049 : Int32)
  · replace h := ob_ift hs86 h
    refine ob_lku (off := 416) (t := 417) d_Handler_perform_1 (by decide +kernel) (by rw [hs86]; decide +kernel) (by decide) ?_
    refine ob_aload d_Handler_perform_417 rfl ?_
    refine ob_aload d_Handler_perform_418 rfl ?_
    refine ob_push d_Handler_perform_419 ?_
    refine ob_push d_Handler_perform_420 ?_
    obtain ⟨x77, D75, h76, h⟩ := ob_bd_e h
    refine ob_callVi (As := [.int (0 : Int32), .int (1 : Int32)]) (rest := [.ref v0]) d_Handler_perform_421 c_Handler_perform_187 hp_v0 rfl rfl (Nat.le_of_ble_eq_true rfl) (c_Handler_data hp_v0 h76) ⟨Nat.le_refl _, Nat.le_refl _⟩ ⟨Nat.le_refl _, Nat.le_refl _⟩ ?_
    refine ob_aload d_Handler_perform_424 rfl ?_
    refine ob_push d_Handler_perform_425 ?_
    refine ob_push d_Handler_perform_426 ?_
    obtain ⟨x80, D78, h79, h⟩ := ob_bd_e h
    refine ob_callVi (As := [.int (1 : Int32), .int (1 : Int32)]) (rest := [.int x77, .ref v0]) d_Handler_perform_427 c_Handler_perform_187 hp_v0 rfl rfl (Nat.le_of_ble_eq_true rfl) (c_Handler_data hp_v0 h79) ⟨Nat.le_refl _, Nat.le_refl _⟩ ⟨Nat.le_refl _, Nat.le_refl _⟩ ?_
    refine ob_aload d_Handler_perform_430 rfl ?_
    refine ob_push d_Handler_perform_431 ?_
    refine ob_push d_Handler_perform_432 ?_
    obtain ⟨x83, D81, h82, h⟩ := ob_bd_e h
    refine ob_callVi (As := [.int (2 : Int32), .int (4 : Int32)]) (rest := [.int x80, .int x77, .ref v0]) d_Handler_perform_433 c_Handler_perform_187 hp_v0 rfl rfl (Nat.le_of_ble_eq_true rfl) (c_Handler_data hp_v0 h82) ⟨Nat.le_refl _, Nat.le_refl _⟩ ⟨Nat.le_refl _, Nat.le_refl _⟩ ?_
    obtain ⟨D84, h85, h⟩ := ob_bv_e h
    refine ob_callVv (As := [.int x77, .int x80, .int x83]) (rest := []) d_Handler_perform_436 c_Handler_perform_273 hp_v0 rfl rfl (Nat.le_of_ble_eq_true rfl) (c_Handler_performFunction hp_v0 h85) ⟨Nat.le_refl _, Nat.le_refl _⟩ ⟨Nat.le_refl _, Nat.le_refl _⟩ ?_
    refine ob_goto d_Handler_perform_439 ?_
    exact ob_ve h (ob_vret d_Handler_perform_785 rfl)
  replace h := ob_iff hs86 h
  by_cases hs90 : v1 = (2817 : Int32)
  · replace h := ob_ift hs90 h
    refine ob_lku (off := 441) (t := 442) d_Handler_perform_1 (by decide +kernel) (by rw [hs90]; decide +kernel) (by decide) ?_
    refine ob_aload d_Handler_perform_442 rfl ?_
    obtain ⟨hg88, h⟩ := ob_gd h
    refine ob_getR d_Handler_perform_443 F_11_2 l_Handler_26 hp_v0 hg88 (fun hk87 => ?_)
    refine ob_push d_Handler_perform_446 ?_
    replace h := ob_lt_e h
    refine ob_putZ d_Handler_perform_447 F_5_3 l_Handler_70 hk87 (Or.inr rfl) ?_
    refine ob_goto d_Handler_perform_450 ?_
    exact ob_ve h (ob_vret d_Handler_perform_785 rfl)
  replace h := ob_iff hs90 h
  by_cases hs94 : v1 = (2818 : Int32)
  · replace h := ob_ift hs94 h
    refine ob_lku (off := 452) (t := 453) d_Handler_perform_1 (by decide +kernel) (by rw [hs94]; decide +kernel) (by decide) ?_
    refine ob_aload d_Handler_perform_453 rfl ?_
    obtain ⟨hg92, h⟩ := ob_gd h
    refine ob_getR d_Handler_perform_454 F_11_2 l_Handler_26 hp_v0 hg92 (fun hk91 => ?_)
    refine ob_push d_Handler_perform_457 ?_
    replace h := ob_lt_e h
    refine ob_putZ d_Handler_perform_458 F_5_3 l_Handler_70 hk91 (Or.inl rfl) ?_
    refine ob_goto d_Handler_perform_461 ?_
    exact ob_ve h (ob_vret d_Handler_perform_785 rfl)
  replace h := ob_iff hs94 h
  by_cases hs101 : v1 = (2819 : Int32)
  · replace h := ob_ift hs101 h
    refine ob_lku (off := 463) (t := 464) d_Handler_perform_1 (by decide +kernel) (by rw [hs101]; decide +kernel) (by decide) ?_
    refine ob_aload d_Handler_perform_464 rfl ?_
    obtain ⟨hg96, h⟩ := ob_gd h
    refine ob_getR d_Handler_perform_465 F_11_2 l_Handler_26 hp_v0 hg96 (fun hk95 => ?_)
    refine ob_push d_Handler_perform_468 ?_
    replace h := ob_lt_e h
    refine ob_putI d_Handler_perform_469 F_5_2 l_Handler_276 hk95 ?_
    refine ob_aload d_Handler_perform_472 rfl ?_
    obtain ⟨hg99, h⟩ := ob_gd h
    refine ob_getR d_Handler_perform_473 F_11_2 l_Handler_26 hp_v0 hg99 (fun hk98 => ?_)
    refine ob_push d_Handler_perform_476 ?_
    replace h := ob_lt_e h
    refine ob_putZ d_Handler_perform_477 F_5_3 l_Handler_70 hk98 (Or.inl rfl) ?_
    refine ob_goto d_Handler_perform_480 ?_
    exact ob_ve h (ob_vret d_Handler_perform_785 rfl)
  replace h := ob_iff hs101 h
  by_cases hs114 : v1 = (2820 : Int32)
  · replace h := ob_ift hs114 h
    refine ob_lku (off := 482) (t := 483) d_Handler_perform_1 (by decide +kernel) (by rw [hs114]; decide +kernel) (by decide) ?_
    refine ob_aload d_Handler_perform_483 rfl ?_
    obtain ⟨hg103, h⟩ := ob_gd h
    refine ob_getR d_Handler_perform_484 F_11_2 l_Handler_26 hp_v0 hg103 (fun hk102 => ?_)
    refine ob_aload d_Handler_perform_487 rfl ?_
    refine ob_push d_Handler_perform_488 ?_
    refine ob_push d_Handler_perform_489 ?_
    obtain ⟨x106, D104, h105, h⟩ := ob_bd_e h
    refine ob_callVi (As := [.int (0 : Int32), .int (4 : Int32)]) (rest := [.ref (D.2.1 v0 2)]) d_Handler_perform_490 c_Handler_perform_187 hp_v0 rfl rfl (Nat.le_of_ble_eq_true rfl) (c_Handler_data hp_v0 h105) ⟨Nat.le_refl _, Nat.le_refl _⟩ ⟨Nat.le_refl _, Nat.le_refl _⟩ ?_
    refine ob_aload d_Handler_perform_493 rfl ?_
    obtain ⟨hg108, h⟩ := ob_gd h
    refine ob_getR d_Handler_perform_494 F_11_8 l_Handler_53 hp_v0 hg108 (fun hk107 => ?_)
    refine ob_push d_Handler_perform_497 ?_
    refine ob_aload d_Handler_perform_499 rfl ?_
    obtain ⟨x111, D109, h110, h⟩ := ob_bd_e h
    refine ob_callVi (As := []) (rest := [.int (15 : Int32), .ref (D104.2.1 v0 8), .int x106, .ref (D.2.1 v0 2)]) d_Handler_perform_500 c_Handler_perform_239 hp_v0 rfl rfl (Nat.le_of_ble_eq_true rfl) (c_Handler_dataLength hp_v0 h110) ⟨Nat.le_refl _, Nat.le_refl _⟩ ⟨Nat.le_refl _, Nat.le_refl _⟩ ?_
    refine ob_push d_Handler_perform_503 ?_
    refine ob_isub d_Handler_perform_504 ?_
    obtain ⟨D112, h113, h⟩ := ob_bv_e h
    refine ob_callVv (As := [.int x106, .ref (D104.2.1 v0 8), .int (15 : Int32), .int (x111 - (4 : Int32))]) (rest := []) d_Handler_perform_505 c_Handler_perform_277 hk102 rfl rfl (Nat.le_of_ble_eq_true rfl) (c_Timetable_add hk102 hk107 h113) ⟨Nat.le_refl _, Nat.le_refl _⟩ ⟨Nat.le_refl _, Nat.le_refl _⟩ ?_
    refine ob_goto d_Handler_perform_508 ?_
    exact ob_ve h (ob_vret d_Handler_perform_785 rfl)
  replace h := ob_iff hs114 h
  by_cases hs122 : v1 = (2821 : Int32)
  · replace h := ob_ift hs122 h
    refine ob_lku (off := 510) (t := 511) d_Handler_perform_1 (by decide +kernel) (by rw [hs122]; decide +kernel) (by decide) ?_
    refine ob_aload d_Handler_perform_511 rfl ?_
    obtain ⟨hg116, h⟩ := ob_gd h
    refine ob_getR d_Handler_perform_512 F_11_2 l_Handler_26 hp_v0 hg116 (fun hk115 => ?_)
    refine ob_aload d_Handler_perform_515 rfl ?_
    refine ob_push d_Handler_perform_516 ?_
    refine ob_push d_Handler_perform_517 ?_
    obtain ⟨x119, D117, h118, h⟩ := ob_bd_e h
    refine ob_callVi (As := [.int (0 : Int32), .int (2 : Int32)]) (rest := [.ref (D.2.1 v0 2)]) d_Handler_perform_518 c_Handler_perform_187 hp_v0 rfl rfl (Nat.le_of_ble_eq_true rfl) (c_Handler_data hp_v0 h118) ⟨Nat.le_refl _, Nat.le_refl _⟩ ⟨Nat.le_refl _, Nat.le_refl _⟩ ?_
    refine ob_push d_Handler_perform_521 ?_
    refine ob_iand d_Handler_perform_524 ?_
    obtain ⟨D120, h121, h⟩ := ob_bv_e h
    refine ob_callVv (As := [.int (x119 &&& (16383 : Int32))]) (rest := []) d_Handler_perform_525 c_Handler_perform_280 hk115 rfl rfl (Nat.le_of_ble_eq_true rfl) (c_Timetable_removeAll hk115 h121) ⟨Nat.le_refl _, Nat.le_refl _⟩ ⟨Nat.le_refl _, Nat.le_refl _⟩ ?_
    refine ob_goto d_Handler_perform_528 ?_
    exact ob_ve h (ob_vret d_Handler_perform_785 rfl)
  replace h := ob_iff hs122 h
  by_cases hs130 : v1 = (2831 : Int32)
  · replace h := ob_ift hs130 h
    refine ob_lku (off := 530) (t := 531) d_Handler_perform_1 (by decide +kernel) (by rw [hs130]; decide +kernel) (by decide) ?_
    refine ob_aload d_Handler_perform_531 rfl ?_
    obtain ⟨hg124, h⟩ := ob_gd h
    refine ob_getR d_Handler_perform_532 F_11_2 l_Handler_26 hp_v0 hg124 (fun hk123 => ?_)
    refine ob_aload d_Handler_perform_535 rfl ?_
    refine ob_push d_Handler_perform_536 ?_
    refine ob_push d_Handler_perform_537 ?_
    obtain ⟨x127, D125, h126, h⟩ := ob_bd_e h
    refine ob_callVi (As := [.int (0 : Int32), .int (4 : Int32)]) (rest := [.ref (D.2.1 v0 2)]) d_Handler_perform_538 c_Handler_perform_187 hp_v0 rfl rfl (Nat.le_of_ble_eq_true rfl) (c_Handler_data hp_v0 h126) ⟨Nat.le_refl _, Nat.le_refl _⟩ ⟨Nat.le_refl _, Nat.le_refl _⟩ ?_
    obtain ⟨D128, h129, h⟩ := ob_bv_e h
    refine ob_callVv (As := [.int x127]) (rest := []) d_Handler_perform_541 c_Handler_perform_283 hk123 rfl rfl (Nat.le_of_ble_eq_true rfl) (c_Timetable_shift hk123 h129) ⟨Nat.le_refl _, Nat.le_refl _⟩ ⟨Nat.le_refl _, Nat.le_refl _⟩ ?_
    refine ob_goto d_Handler_perform_544 ?_
    exact ob_ve h (ob_vret d_Handler_perform_785 rfl)
  replace h := ob_iff hs130 h
  by_cases hs133 : v1 = (2833 : Int32)
  · replace h := ob_ift hs133 h
    refine ob_lku (off := 546) (t := 547) d_Handler_perform_1 (by decide +kernel) (by rw [hs133]; decide +kernel) (by decide) ?_
    refine ob_aload d_Handler_perform_547 rfl ?_
    obtain ⟨D131, h132, h⟩ := ob_bv_e h
    refine ob_callVv (As := []) (rest := []) d_Handler_perform_548 c_Handler_perform_286 hp_v0 rfl rfl (Nat.le_of_ble_eq_true rfl) (c_Handler_tellEntries hp_v0 h132) ⟨Nat.le_refl _, Nat.le_refl _⟩ ⟨Nat.le_refl _, Nat.le_refl _⟩ ?_
    refine ob_goto d_Handler_perform_551 ?_
    exact ob_ve h (ob_vret d_Handler_perform_785 rfl)
  replace h := ob_iff hs133 h
  by_cases hs144 : v1 = (3073 : Int32)
  · replace h := ob_ift hs144 h
    refine ob_lku (off := 553) (t := 554) d_Handler_perform_1 (by decide +kernel) (by rw [hs144]; decide +kernel) (by decide) ?_
    refine ob_aload d_Handler_perform_554 rfl ?_
    refine ob_aload d_Handler_perform_555 rfl ?_
    obtain ⟨hg135, h⟩ := ob_gd h
    refine ob_getR d_Handler_perform_556 F_11_6 l_Handler_41 hp_v0 hg135 (fun hk134 => ?_)
    refine ob_aload d_Handler_perform_559 rfl ?_
    refine ob_push d_Handler_perform_560 ?_
    refine ob_push d_Handler_perform_561 ?_
    obtain ⟨x138, D136, h137, h⟩ := ob_bd_e h
    refine ob_callVi (As := [.int (0 : Int32), .int (1 : Int32)]) (rest := [.ref (D.2.1 v0 6), .ref v0]) d_Handler_perform_562 c_Handler_perform_187 hp_v0 rfl rfl (Nat.le_of_ble_eq_true rfl) (c_Handler_data hp_v0 h137) ⟨Nat.le_refl _, Nat.le_refl _⟩ ⟨Nat.le_refl _, Nat.le_refl _⟩ ?_
    obtain ⟨x141, D139, h140, h⟩ := ob_bd_e h
    refine ob_callVi (As := [.int x138]) (rest := [.ref v0]) d_Handler_perform_565 c_Handler_perform_229 hk134 rfl rfl (Nat.le_of_ble_eq_true rfl) (c_Table_find hk134 h140) ⟨Nat.le_refl _, Nat.le_refl _⟩ ⟨Nat.le_refl _, Nat.le_refl _⟩ ?_
    refine ob_push d_Handler_perform_568 ?_
    obtain ⟨D142, h143, h⟩ := ob_bv_e h
    refine ob_callVv (As := [.int x141, .int (1 : Int32)]) (rest := []) d_Handler_perform_569 c_Handler_perform_289 hp_v0 rfl rfl (Nat.le_of_ble_eq_true rfl) (c_Handler_switchLimit hp_v0 h143) ⟨Nat.le_refl _, Nat.le_refl _⟩ ⟨Nat.le_refl _, Nat.le_refl _⟩ ?_
    refine ob_goto d_Handler_perform_572 ?_
    exact ob_ve h (ob_vret d_Handler_perform_785 rfl)
  replace h := ob_iff hs144 h
  by_cases hs155 : v1 = (3074 : Int32)
  · replace h := ob_ift hs155 h
    refine ob_lku (off := 574) (t := 575) d_Handler_perform_1 (by decide +kernel) (by rw [hs155]; decide +kernel) (by decide) ?_
    refine ob_aload d_Handler_perform_575 rfl ?_
    refine ob_aload d_Handler_perform_576 rfl ?_
    obtain ⟨hg146, h⟩ := ob_gd h
    refine ob_getR d_Handler_perform_577 F_11_6 l_Handler_41 hp_v0 hg146 (fun hk145 => ?_)
    refine ob_aload d_Handler_perform_580 rfl ?_
    refine ob_push d_Handler_perform_581 ?_
    refine ob_push d_Handler_perform_582 ?_
    obtain ⟨x149, D147, h148, h⟩ := ob_bd_e h
    refine ob_callVi (As := [.int (0 : Int32), .int (1 : Int32)]) (rest := [.ref (D.2.1 v0 6), .ref v0]) d_Handler_perform_583 c_Handler_perform_187 hp_v0 rfl rfl (Nat.le_of_ble_eq_true rfl) (c_Handler_data hp_v0 h148) ⟨Nat.le_refl _, Nat.le_refl _⟩ ⟨Nat.le_refl _, Nat.le_refl _⟩ ?_
    obtain ⟨x152, D150, h151, h⟩ := ob_bd_e h
    refine ob_callVi (As := [.int x149]) (rest := [.ref v0]) d_Handler_perform_586 c_Handler_perform_229 hk145 rfl rfl (Nat.le_of_ble_eq_true rfl) (c_Table_find hk145 h151) ⟨Nat.le_refl _, Nat.le_refl _⟩ ⟨Nat.le_refl _, Nat.le_refl _⟩ ?_
    refine ob_push d_Handler_perform_589 ?_
    obtain ⟨D153, h154, h⟩ := ob_bv_e h
    refine ob_callVv (As := [.int x152, .int (0 : Int32)]) (rest := []) d_Handler_perform_590 c_Handler_perform_289 hp_v0 rfl rfl (Nat.le_of_ble_eq_true rfl) (c_Handler_switchLimit hp_v0 h154) ⟨Nat.le_refl _, Nat.le_refl _⟩ ⟨Nat.le_refl _, Nat.le_refl _⟩ ?_
    refine ob_goto d_Handler_perform_593 ?_
    exact ob_ve h (ob_vret d_Handler_perform_785 rfl)
  replace h := ob_iff hs155 h
  by_cases hs158 : v1 = (3077 : Int32)
  · replace h := ob_ift hs158 h
    refine ob_lku (off := 595) (t := 596) d_Handler_perform_1 (by decide +kernel) (by rw [hs158]; decide +kernel) (by decide) ?_
    refine ob_aload d_Handler_perform_596 rfl ?_
    obtain ⟨D156, h157, h⟩ := ob_bv_e h
    refine ob_callVv (As := []) (rest := []) d_Handler_perform_597 c_Handler_perform_292 hp_v0 rfl rfl (Nat.le_of_ble_eq_true rfl) (c_Handler_addLimit hp_v0 h157) ⟨Nat.le_refl _, Nat.le_refl _⟩ ⟨Nat.le_refl _, Nat.le_refl _⟩ ?_
    refine ob_goto d_Handler_perform_600 ?_
    exact ob_ve h (ob_vret d_Handler_perform_785 rfl)
  replace h := ob_iff hs158 h
  by_cases hs171 : v1 = (3078 : Int32)
  · replace h := ob_ift hs171 h
    refine ob_lku (off := 602) (t := 603) d_Handler_perform_1 (by decide +kernel) (by rw [hs171]; decide +kernel) (by decide) ?_
    refine ob_aload d_Handler_perform_603 rfl ?_
    obtain ⟨hg160, h⟩ := ob_gd h
    refine ob_getR d_Handler_perform_604 F_11_6 l_Handler_41 hp_v0 hg160 (fun hk159 => ?_)
    refine ob_aload d_Handler_perform_607 rfl ?_
    obtain ⟨hg162, h⟩ := ob_gd h
    refine ob_getR d_Handler_perform_608 F_11_6 l_Handler_41 hp_v0 hg162 (fun hk161 => ?_)
    refine ob_aload d_Handler_perform_611 rfl ?_
    refine ob_push d_Handler_perform_612 ?_
    refine ob_push d_Handler_perform_613 ?_
    obtain ⟨x165, D163, h164, h⟩ := ob_bd_e h
    refine ob_callVi (As := [.int (0 : Int32), .int (1 : Int32)]) (rest := [.ref (D.2.1 v0 6), .ref (D.2.1 v0 6)]) d_Handler_perform_614 c_Handler_perform_187 hp_v0 rfl rfl (Nat.le_of_ble_eq_true rfl) (c_Handler_data hp_v0 h164) ⟨Nat.le_refl _, Nat.le_refl _⟩ ⟨Nat.le_refl _, Nat.le_refl _⟩ ?_
    obtain ⟨x168, D166, h167, h⟩ := ob_bd_e h
    refine ob_callVi (As := [.int x165]) (rest := [.ref (D.2.1 v0 6)]) d_Handler_perform_617 c_Handler_perform_229 hk161 rfl rfl (Nat.le_of_ble_eq_true rfl) (c_Table_find hk161 h167) ⟨Nat.le_refl _, Nat.le_refl _⟩ ⟨Nat.le_refl _, Nat.le_refl _⟩ ?_
    obtain ⟨D169, h170, h⟩ := ob_bv_e h
    refine ob_callVv (As := [.int x168]) (rest := []) d_Handler_perform_620 c_Handler_perform_253 hk159 rfl rfl (Nat.le_of_ble_eq_true rfl) (c_Table_remove hk159 h170) ⟨Nat.le_refl _, Nat.le_refl _⟩ ⟨Nat.le_refl _, Nat.le_refl _⟩ ?_
    refine ob_goto d_Handler_perform_623 ?_
    exact ob_ve h (ob_vret d_Handler_perform_785 rfl)
  replace h := ob_iff hs171 h
  by_cases hs177 : v1 = (3841 : Int32)
  · replace h := ob_ift hs177 h
    refine ob_lku (off := 625) (t := 626) d_Handler_perform_1 (by decide +kernel) (by rw [hs177]; decide +kernel) (by decide) ?_
    refine ob_aload d_Handler_perform_626 rfl ?_
    refine ob_aload d_Handler_perform_627 rfl ?_
    refine ob_push d_Handler_perform_628 ?_
    refine ob_push d_Handler_perform_629 ?_
    obtain ⟨x174, D172, h173, h⟩ := ob_bd_e h
    refine ob_callVi (As := [.int (0 : Int32), .int (1 : Int32)]) (rest := [.ref v0]) d_Handler_perform_630 c_Handler_perform_187 hp_v0 rfl rfl (Nat.le_of_ble_eq_true rfl) (c_Handler_data hp_v0 h173) ⟨Nat.le_refl _, Nat.le_refl _⟩ ⟨Nat.le_refl _, Nat.le_refl _⟩ ?_
    refine ob_push d_Handler_perform_633 ?_
    obtain ⟨D175, h176, h⟩ := ob_bv_e h
    refine ob_callVv (As := [.int x174, .int (1 : Int32)]) (rest := []) d_Handler_perform_634 c_Handler_perform_295 hp_v0 rfl rfl (Nat.le_of_ble_eq_true rfl) (c_Handler_setStored hp_v0 h176) ⟨Nat.le_refl _, Nat.le_refl _⟩ ⟨Nat.le_refl _, Nat.le_refl _⟩ ?_
    refine ob_goto d_Handler_perform_637 ?_
    exact ob_ve h (ob_vret d_Handler_perform_785 rfl)
  replace h := ob_iff hs177 h
  by_cases hs183 : v1 = (3842 : Int32)
  · replace h := ob_ift hs183 h
    refine ob_lku (off := 639) (t := 640) d_Handler_perform_1 (by decide +kernel) (by rw [hs183]; decide +kernel) (by decide) ?_
    refine ob_aload d_Handler_perform_640 rfl ?_
    refine ob_aload d_Handler_perform_641 rfl ?_
    refine ob_push d_Handler_perform_642 ?_
    refine ob_push d_Handler_perform_643 ?_
    obtain ⟨x180, D178, h179, h⟩ := ob_bd_e h
    refine ob_callVi (As := [.int (0 : Int32), .int (1 : Int32)]) (rest := [.ref v0]) d_Handler_perform_644 c_Handler_perform_187 hp_v0 rfl rfl (Nat.le_of_ble_eq_true rfl) (c_Handler_data hp_v0 h179) ⟨Nat.le_refl _, Nat.le_refl _⟩ ⟨Nat.le_refl _, Nat.le_refl _⟩ ?_
    refine ob_push d_Handler_perform_647 ?_
    obtain ⟨D181, h182, h⟩ := ob_bv_e h
    refine ob_callVv (As := [.int x180, .int (0 : Int32)]) (rest := []) d_Handler_perform_648 c_Handler_perform_295 hp_v0 rfl rfl (Nat.le_of_ble_eq_true rfl) (c_Handler_setStored hp_v0 h182) ⟨Nat.le_refl _, Nat.le_refl _⟩ ⟨Nat.le_refl _, Nat.le_refl _⟩ ?_
    refine ob_goto d_Handler_perform_651 ?_
    exact ob_ve h (ob_vret d_Handler_perform_785 rfl)
  replace h := ob_iff hs183 h
  by_cases hs194 : v1 = (3849 : Int32)
  · replace h := ob_ift hs194 h
    refine ob_lku (off := 653) (t := 654) d_Handler_perform_1 (by decide +kernel) (by rw [hs194]; decide +kernel) (by decide) ?_
    refine ob_aload d_Handler_perform_654 rfl ?_
    obtain ⟨hg185, h⟩ := ob_gd h
    refine ob_getR d_Handler_perform_655 F_11_4 l_Handler_36 hp_v0 hg185 (fun hk184 => ?_)
    refine ob_aload d_Handler_perform_658 rfl ?_
    refine ob_push d_Handler_perform_659 ?_
    refine ob_push d_Handler_perform_660 ?_
    obtain ⟨x188, D186, h187, h⟩ := ob_bd_e h
    refine ob_callVi (As := [.int (0 : Int32), .int (4 : Int32)]) (rest := [.ref (D.2.1 v0 4)]) d_Handler_perform_661 c_Handler_perform_187 hp_v0 rfl rfl (Nat.le_of_ble_eq_true rfl) (c_Handler_data hp_v0 h187) ⟨Nat.le_refl _, Nat.le_refl _⟩ ⟨Nat.le_refl _, Nat.le_refl _⟩ ?_
    refine ob_aload d_Handler_perform_664 rfl ?_
    refine ob_push d_Handler_perform_665 ?_
    refine ob_push d_Handler_perform_666 ?_
    obtain ⟨x191, D189, h190, h⟩ := ob_bd_e h
    refine ob_callVi (As := [.int (4 : Int32), .int (4 : Int32)]) (rest := [.int x188, .ref (D.2.1 v0 4)]) d_Handler_perform_667 c_Handler_perform_187 hp_v0 rfl rfl (Nat.le_of_ble_eq_true rfl) (c_Handler_data hp_v0 h190) ⟨Nat.le_refl _, Nat.le_refl _⟩ ⟨Nat.le_refl _, Nat.le_refl _⟩ ?_
    obtain ⟨D192, h193, h⟩ := ob_bv_e h
    refine ob_callVv (As := [.int x188, .int x191]) (rest := []) d_Handler_perform_670 c_Handler_perform_298 hk184 rfl rfl (Nat.le_of_ble_eq_true rfl) (c_Reports_beginRetrieval hk184 h193) ⟨Nat.le_refl _, Nat.le_refl _⟩ ⟨Nat.le_refl _, Nat.le_refl _⟩ ?_
    refine ob_goto d_Handler_perform_673 ?_
    exact ob_ve h (ob_vret d_Handler_perform_785 rfl)
  replace h := ob_iff hs194 h
  by_cases hs202 : v1 = (3851 : Int32)
  · replace h := ob_ift hs202 h
    refine ob_lku (off := 675) (t := 676) d_Handler_perform_1 (by decide +kernel) (by rw [hs202]; decide +kernel) (by decide) ?_
    refine ob_aload d_Handler_perform_676 rfl ?_
    obtain ⟨hg196, h⟩ := ob_gd h
    refine ob_getR d_Handler_perform_677 F_11_4 l_Handler_36 hp_v0 hg196 (fun hk195 => ?_)
    refine ob_aload d_Handler_perform_680 rfl ?_
    refine ob_push d_Handler_perform_681 ?_
    refine ob_push d_Handler_perform_682 ?_
    obtain ⟨x199, D197, h198, h⟩ := ob_bd_e h
    refine ob_callVi (As := [.int (0 : Int32), .int (4 : Int32)]) (rest := [.ref (D.2.1 v0 4)]) d_Handler_perform_683 c_Handler_perform_187 hp_v0 rfl rfl (Nat.le_of_ble_eq_true rfl) (c_Handler_data hp_v0 h198) ⟨Nat.le_refl _, Nat.le_refl _⟩ ⟨Nat.le_refl _, Nat.le_refl _⟩ ?_
    obtain ⟨D200, h201, h⟩ := ob_bv_e h
    refine ob_callVv (As := [.int x199]) (rest := []) d_Handler_perform_686 c_Handler_perform_301 hk195 rfl rfl (Nat.le_of_ble_eq_true rfl) (c_Reports_dropUpTo hk195 h201) ⟨Nat.le_refl _, Nat.le_refl _⟩ ⟨Nat.le_refl _, Nat.le_refl _⟩ ?_
    refine ob_goto d_Handler_perform_689 ?_
    exact ob_ve h (ob_vret d_Handler_perform_785 rfl)
  replace h := ob_iff hs202 h
  by_cases hs206 : v1 = (3852 : Int32)
  · replace h := ob_ift hs206 h
    refine ob_lku (off := 691) (t := 692) d_Handler_perform_1 (by decide +kernel) (by rw [hs206]; decide +kernel) (by decide) ?_
    refine ob_aload d_Handler_perform_692 rfl ?_
    obtain ⟨hg204, h⟩ := ob_gd h
    refine ob_getR d_Handler_perform_693 F_11_4 l_Handler_36 hp_v0 hg204 (fun hk203 => ?_)
    refine ob_push d_Handler_perform_696 ?_
    replace h := ob_lt_e h
    refine ob_putZ d_Handler_perform_697 F_8_8 l_Handler_215 hk203 (Or.inl rfl) ?_
    refine ob_goto d_Handler_perform_700 ?_
    exact ob_ve h (ob_vret d_Handler_perform_785 rfl)
  replace h := ob_iff hs206 h
  by_cases hs219 : v1 = (4353 : Int32)
  · replace h := ob_ift hs219 h
    refine ob_lku (off := 702) (t := 703) d_Handler_perform_1 (by decide +kernel) (by rw [hs219]; decide +kernel) (by decide) ?_
    refine ob_aload d_Handler_perform_703 rfl ?_
    obtain ⟨hg208, h⟩ := ob_gd h
    refine ob_getR d_Handler_perform_704 F_11_4 l_Handler_36 hp_v0 hg208 (fun hk207 => ?_)
    refine ob_push d_Handler_perform_707 ?_
    refine ob_push d_Handler_perform_709 ?_
    refine ob_aload d_Handler_perform_710 rfl ?_
    obtain ⟨hg210, h⟩ := ob_gd h
    refine ob_getR d_Handler_perform_711 F_11_0 l_Handler_9 hp_v0 hg210 (fun hk209 => ?_)
    refine ob_getI d_Handler_perform_714 F_10_8 l_Handler_58 hk209 ?_
    obtain ⟨x213, D211, h212, h⟩ := ob_bd_e h
    obtain ⟨hk214, h⟩ := ob_gd h
    refine ob_callVr (As := [.int (17 : Int32), .int (2 : Int32), .int (D.1 (D.2.1 v0 0) 8)]) (rest := []) d_Handler_perform_717 c_Handler_perform_115 hk207 rfl rfl (Nat.le_of_ble_eq_true rfl) (c_Reports_begin hk207 h212) ⟨Nat.le_refl _, Nat.le_refl _⟩ ⟨Nat.le_refl _, Nat.le_refl _⟩ ?_
    refine ob_pop d_Handler_perform_720 rfl ?_
    refine ob_aload d_Handler_perform_721 rfl ?_
    obtain ⟨hg216, h⟩ := ob_gd h
    refine ob_getR d_Handler_perform_722 F_11_4 l_Handler_36 hp_v0 hg216 (fun hk215 => ?_)
    obtain ⟨D217, h218, h⟩ := ob_bv_e h
    refine ob_callVv (As := []) (rest := []) d_Handler_perform_725 c_Handler_perform_124 hk215 rfl rfl (Nat.le_of_ble_eq_true rfl) (c_Reports_send hk215 h218) ⟨Nat.le_refl _, Nat.le_refl _⟩ ⟨Nat.le_refl _, Nat.le_refl _⟩ ?_
    refine ob_goto d_Handler_perform_728 ?_
    exact ob_ve h (ob_vret d_Handler_perform_785 rfl)
  replace h := ob_iff hs219 h
  by_cases hs225 : v1 = (4865 : Int32)
  · replace h := ob_ift hs225 h
    refine ob_lku (off := 730) (t := 731) d_Handler_perform_1 (by decide +kernel) (by rw [hs225]; decide +kernel) (by decide) ?_
    refine ob_aload d_Handler_perform_731 rfl ?_
    refine ob_aload d_Handler_perform_732 rfl ?_
    refine ob_push d_Handler_perform_733 ?_
    refine ob_push d_Handler_perform_734 ?_
    obtain ⟨x222, D220, h221, h⟩ := ob_bd_e h
    refine ob_callVi (As := [.int (0 : Int32), .int (1 : Int32)]) (rest := [.ref v0]) d_Handler_perform_735 c_Handler_perform_187 hp_v0 rfl rfl (Nat.le_of_ble_eq_true rfl) (c_Handler_data hp_v0 h221) ⟨Nat.le_refl _, Nat.le_refl _⟩ ⟨Nat.le_refl _, Nat.le_refl _⟩ ?_
    obtain ⟨D223, h224, h⟩ := ob_bv_e h
    refine ob_callVv (As := [.int x222]) (rest := []) d_Handler_perform_738 c_Handler_perform_304 hp_v0 rfl rfl (Nat.le_of_ble_eq_true rfl) (c_Handler_addAction hp_v0 h224) ⟨Nat.le_refl _, Nat.le_refl _⟩ ⟨Nat.le_refl _, Nat.le_refl _⟩ ?_
    refine ob_goto d_Handler_perform_741 ?_
    exact ob_ve h (ob_vret d_Handler_perform_785 rfl)
  replace h := ob_iff hs225 h
  by_cases hs231 : v1 = (4866 : Int32)
  · replace h := ob_ift hs231 h
    refine ob_lku (off := 743) (t := 744) d_Handler_perform_1 (by decide +kernel) (by rw [hs231]; decide +kernel) (by decide) ?_
    refine ob_aload d_Handler_perform_744 rfl ?_
    refine ob_aload d_Handler_perform_745 rfl ?_
    refine ob_push d_Handler_perform_746 ?_
    refine ob_push d_Handler_perform_747 ?_
    obtain ⟨x228, D226, h227, h⟩ := ob_bd_e h
    refine ob_callVi (As := [.int (0 : Int32), .int (1 : Int32)]) (rest := [.ref v0]) d_Handler_perform_748 c_Handler_perform_187 hp_v0 rfl rfl (Nat.le_of_ble_eq_true rfl) (c_Handler_data hp_v0 h227) ⟨Nat.le_refl _, Nat.le_refl _⟩ ⟨Nat.le_refl _, Nat.le_refl _⟩ ?_
    obtain ⟨D229, h230, h⟩ := ob_bv_e h
    refine ob_callVv (As := [.int x228]) (rest := []) d_Handler_perform_751 c_Handler_perform_307 hp_v0 rfl rfl (Nat.le_of_ble_eq_true rfl) (c_Handler_dropAction hp_v0 h230) ⟨Nat.le_refl _, Nat.le_refl _⟩ ⟨Nat.le_refl _, Nat.le_refl _⟩ ?_
    refine ob_goto d_Handler_perform_754 ?_
    exact ob_ve h (ob_vret d_Handler_perform_785 rfl)
  replace h := ob_iff hs231 h
  by_cases hs237 : v1 = (4868 : Int32)
  · replace h := ob_ift hs237 h
    refine ob_lku (off := 756) (t := 757) d_Handler_perform_1 (by decide +kernel) (by rw [hs237]; decide +kernel) (by decide) ?_
    refine ob_aload d_Handler_perform_757 rfl ?_
    refine ob_aload d_Handler_perform_758 rfl ?_
    refine ob_push d_Handler_perform_759 ?_
    refine ob_push d_Handler_perform_760 ?_
    obtain ⟨x234, D232, h233, h⟩ := ob_bd_e h
    refine ob_callVi (As := [.int (0 : Int32), .int (1 : Int32)]) (rest := [.ref v0]) d_Handler_perform_761 c_Handler_perform_187 hp_v0 rfl rfl (Nat.le_of_ble_eq_true rfl) (c_Handler_data hp_v0 h233) ⟨Nat.le_refl _, Nat.le_refl _⟩ ⟨Nat.le_refl _, Nat.le_refl _⟩ ?_
    refine ob_push d_Handler_perform_764 ?_
    obtain ⟨D235, h236, h⟩ := ob_bv_e h
    refine ob_callVv (As := [.int x234, .int (1 : Int32)]) (rest := []) d_Handler_perform_765 c_Handler_perform_310 hp_v0 rfl rfl (Nat.le_of_ble_eq_true rfl) (c_Handler_switchAction hp_v0 h236) ⟨Nat.le_refl _, Nat.le_refl _⟩ ⟨Nat.le_refl _, Nat.le_refl _⟩ ?_
    refine ob_goto d_Handler_perform_768 ?_
    exact ob_ve h (ob_vret d_Handler_perform_785 rfl)
  replace h := ob_iff hs237 h
  by_cases hs243 : v1 = (4869 : Int32)
  · replace h := ob_ift hs243 h
    refine ob_lku (off := 770) (t := 771) d_Handler_perform_1 (by decide +kernel) (by rw [hs243]; decide +kernel) (by decide) ?_
    refine ob_aload d_Handler_perform_771 rfl ?_
    refine ob_aload d_Handler_perform_772 rfl ?_
    refine ob_push d_Handler_perform_773 ?_
    refine ob_push d_Handler_perform_774 ?_
    obtain ⟨x240, D238, h239, h⟩ := ob_bd_e h
    refine ob_callVi (As := [.int (0 : Int32), .int (1 : Int32)]) (rest := [.ref v0]) d_Handler_perform_775 c_Handler_perform_187 hp_v0 rfl rfl (Nat.le_of_ble_eq_true rfl) (c_Handler_data hp_v0 h239) ⟨Nat.le_refl _, Nat.le_refl _⟩ ⟨Nat.le_refl _, Nat.le_refl _⟩ ?_
    refine ob_push d_Handler_perform_778 ?_
    obtain ⟨D241, h242, h⟩ := ob_bv_e h
    refine ob_callVv (As := [.int x240, .int (0 : Int32)]) (rest := []) d_Handler_perform_779 c_Handler_perform_310 hp_v0 rfl rfl (Nat.le_of_ble_eq_true rfl) (c_Handler_switchAction hp_v0 h242) ⟨Nat.le_refl _, Nat.le_refl _⟩ ⟨Nat.le_refl _, Nat.le_refl _⟩ ?_
    refine ob_goto d_Handler_perform_782 ?_
    exact ob_ve h (ob_vret d_Handler_perform_785 rfl)
  replace h := ob_iff hs243 h
  refine ob_lku (off := 784) (t := 785) d_Handler_perform_1 (by decide +kernel) ((lv_osw hs3 (by decide)).trans ((lv_osw hs16 (by decide)).trans ((lv_osw hs29 (by decide)).trans ((lv_osw hs42 (by decide)).trans ((lv_osw hs53 (by decide)).trans ((lv_osw hs59 (by decide)).trans ((lv_osw hs65 (by decide)).trans ((lv_osw hs68 (by decide)).trans ((lv_osw hs71 (by decide)).trans ((lv_osw hs74 (by decide)).trans ((lv_osw hs86 (by decide)).trans ((lv_osw hs90 (by decide)).trans ((lv_osw hs94 (by decide)).trans ((lv_osw hs101 (by decide)).trans ((lv_osw hs114 (by decide)).trans ((lv_osw hs122 (by decide)).trans ((lv_osw hs130 (by decide)).trans ((lv_osw hs133 (by decide)).trans ((lv_osw hs144 (by decide)).trans ((lv_osw hs155 (by decide)).trans ((lv_osw hs158 (by decide)).trans ((lv_osw hs171 (by decide)).trans ((lv_osw hs177 (by decide)).trans ((lv_osw hs183 (by decide)).trans ((lv_osw hs194 (by decide)).trans ((lv_osw hs202 (by decide)).trans ((lv_osw hs206 (by decide)).trans ((lv_osw hs219 (by decide)).trans ((lv_osw hs225 (by decide)).trans ((lv_osw hs231 (by decide)).trans ((lv_osw hs237 (by decide)).trans ((lv_osw hs243 (by decide)).trans (rfl))))))))))))))))))))))))))))))))) (by decide) ?_
  exact ob_ve h (ob_vret d_Handler_perform_785 rfl)
-- OrbitBox$Handler.handle()V
theorem d_Handler_handle_8 : ob_dk k_Handler_handle 8 9 (1 : Int32) (.iconst 1) 1 := ⟨by decide +kernel, rfl, show Int32.ofInt 1 = (1 : Int32) by decide +kernel⟩
theorem d_Handler_handle_17 : ob_dk k_Handler_handle 17 18 (0 : Int32) (.iconst 0) 1 := ⟨by decide +kernel, rfl, show Int32.ofInt 0 = (0 : Int32) by decide +kernel⟩
theorem d_Handler_handle_44 : ob_dk k_Handler_handle 44 46 (6 : Int32) (.bipush 6) 2 := ⟨by decide +kernel, rfl, show (Int8.ofInt 6).toInt32 = (6 : Int32) by decide +kernel⟩
theorem d_Handler_handle_46 : ob_dk k_Handler_handle 46 47 (1 : Int32) (.iconst 1) 1 := ⟨by decide +kernel, rfl, show Int32.ofInt 1 = (1 : Int32) by decide +kernel⟩
theorem d_Handler_handle_55 : ob_dk k_Handler_handle 55 57 (7 : Int32) (.bipush 7) 2 := ⟨by decide +kernel, rfl, show (Int8.ofInt 7).toInt32 = (7 : Int32) by decide +kernel⟩
theorem d_Handler_handle_57 : ob_dk k_Handler_handle 57 58 (2 : Int32) (.iconst 2) 1 := ⟨by decide +kernel, rfl, show Int32.ofInt 2 = (2 : Int32) by decide +kernel⟩
theorem d_Handler_handle_63 : ob_dk k_Handler_handle 63 64 (1 : Int32) (.iconst 1) 1 := ⟨by decide +kernel, rfl, show Int32.ofInt 1 = (1 : Int32) by decide +kernel⟩
theorem d_Handler_handle_94 : ob_dk k_Handler_handle 94 95 (2 : Int32) (.iconst 2) 1 := ⟨by decide +kernel, rfl, show Int32.ofInt 2 = (2 : Int32) by decide +kernel⟩
theorem d_Handler_handle_110 : ob_dk k_Handler_handle 110 112 (8 : Int32) (.bipush 8) 2 := ⟨by decide +kernel, rfl, show (Int8.ofInt 8).toInt32 = (8 : Int32) by decide +kernel⟩
theorem d_Handler_handle_122 : ob_dc k_Handler_handle 122 (.return_) 1 123 := ⟨by decide +kernel, rfl⟩
theorem d_Handler_handle_117 : ob_dk k_Handler_handle 117 119 (7 : Int32) (.bipush 7) 2 := ⟨by decide +kernel, rfl, show (Int8.ofInt 7).toInt32 = (7 : Int32) by decide +kernel⟩
theorem d_Handler_handle_119 : ob_dc k_Handler_handle 119 (.invokevirtual 153) 3 122 := ⟨by decide +kernel, rfl⟩
theorem d_Handler_handle_116 : ob_dv ob_ac k_Handler_handle 116 117 0 (.aload_n 0) 1 := ⟨by decide +kernel, rfl, rfl⟩
theorem d_Handler_handle_113 : ob_db k_Handler_handle 113 (.ifCond .eq 9) 9 116 122 := ⟨by decide +kernel, rfl, by decide⟩
theorem d_Handler_handle_112 : ob_dc k_Handler_handle 112 (.iand) 1 113 := ⟨by decide +kernel, rfl⟩
theorem d_Handler_handle_109 : ob_dv ob_lc k_Handler_handle 109 110 2 (.iload_n 2) 1 := ⟨by decide +kernel, rfl, rfl⟩
theorem d_Handler_handle_106 : ob_dc k_Handler_handle 106 (.invokevirtual 160) 3 109 := ⟨by decide +kernel, rfl⟩
theorem d_Handler_handle_105 : ob_dv ob_lc k_Handler_handle 105 106 3 (.iload_n 3) 1 := ⟨by decide +kernel, rfl, rfl⟩
theorem d_Handler_handle_104 : ob_dv ob_ac k_Handler_handle 104 105 0 (.aload_n 0) 1 := ⟨by decide +kernel, rfl, rfl⟩
theorem d_Handler_handle_100 : ob_dk k_Handler_handle 100 101 (3 : Int32) (.iconst 3) 1 := ⟨by decide +kernel, rfl, show Int32.ofInt 3 = (3 : Int32) by decide +kernel⟩
theorem d_Handler_handle_101 : ob_dc k_Handler_handle 101 (.invokevirtual 153) 3 104 := ⟨by decide +kernel, rfl⟩
theorem d_Handler_handle_99 : ob_dv ob_ac k_Handler_handle 99 100 0 (.aload_n 0) 1 := ⟨by decide +kernel, rfl, rfl⟩
theorem d_Handler_handle_96 : ob_db k_Handler_handle 96 (.ifCond .eq 8) 8 99 104 := ⟨by decide +kernel, rfl, by decide⟩
theorem d_Handler_handle_95 : ob_dc k_Handler_handle 95 (.iand) 1 96 := ⟨by decide +kernel, rfl⟩
theorem d_Handler_handle_93 : ob_dv ob_lc k_Handler_handle 93 94 2 (.iload_n 2) 1 := ⟨by decide +kernel, rfl, rfl⟩
theorem d_Handler_handle_86 : ob_dk k_Handler_handle 86 87 (4 : Int32) (.iconst 4) 1 := ⟨by decide +kernel, rfl, show Int32.ofInt 4 = (4 : Int32) by decide +kernel⟩
theorem d_Handler_handle_92 : ob_dc k_Handler_handle 92 (.return_) 1 93 := ⟨by decide +kernel, rfl⟩
theorem d_Handler_handle_89 : ob_dc k_Handler_handle 89 (.invokevirtual 147) 3 92 := ⟨by decide +kernel, rfl⟩
theorem d_Handler_handle_87 : ob_dv ob_lc k_Handler_handle 87 89 4 (.iload 4) 2 := ⟨by decide +kernel, rfl, rfl⟩
theorem d_Handler_handle_85 : ob_dv ob_ac k_Handler_handle 85 86 0 (.aload_n 0) 1 := ⟨by decide +kernel, rfl, rfl⟩
theorem d_Handler_handle_82 : ob_db k_Handler_handle 82 (.ifCond .eq 11) 11 85 93 := ⟨by decide +kernel, rfl, by decide⟩
theorem d_Handler_handle_80 : ob_dv ob_lc k_Handler_handle 80 82 4 (.iload 4) 2 := ⟨by decide +kernel, rfl, rfl⟩
theorem d_Handler_handle_78 : ob_dv (ob_sc k_Handler_handle.2.2.2.1) k_Handler_handle 78 80 4 (.istore 4) 2 := ⟨by decide +kernel, rfl, ⟨rfl, by decide +kernel⟩⟩
theorem d_Handler_handle_75 : ob_dc k_Handler_handle 75 (.invokevirtual 156) 3 78 := ⟨by decide +kernel, rfl⟩
theorem d_Handler_handle_74 : ob_dv ob_lc k_Handler_handle 74 75 3 (.iload_n 3) 1 := ⟨by decide +kernel, rfl, rfl⟩
theorem d_Handler_handle_73 : ob_dv ob_ac k_Handler_handle 73 74 0 (.aload_n 0) 1 := ⟨by decide +kernel, rfl, rfl⟩
theorem d_Handler_handle_69 : ob_dk k_Handler_handle 69 70 (1 : Int32) (.iconst 1) 1 := ⟨by decide +kernel, rfl, show Int32.ofInt 1 = (1 : Int32) by decide +kernel⟩
theorem d_Handler_handle_70 : ob_dc k_Handler_handle 70 (.invokevirtual 153) 3 73 := ⟨by decide +kernel, rfl⟩
theorem d_Handler_handle_68 : ob_dv ob_ac k_Handler_handle 68 69 0 (.aload_n 0) 1 := ⟨by decide +kernel, rfl, rfl⟩
theorem d_Handler_handle_65 : ob_db k_Handler_handle 65 (.ifCond .eq 8) 8 68 73 := ⟨by decide +kernel, rfl, by decide⟩
theorem d_Handler_handle_64 : ob_dc k_Handler_handle 64 (.iand) 1 65 := ⟨by decide +kernel, rfl⟩
theorem d_Handler_handle_62 : ob_dv ob_lc k_Handler_handle 62 63 2 (.iload_n 2) 1 := ⟨by decide +kernel, rfl, rfl⟩
theorem d_Handler_handle_61 : ob_dv (ob_sc k_Handler_handle.2.2.2.1) k_Handler_handle 61 62 3 (.istore_n 3) 1 := ⟨by decide +kernel, rfl, ⟨rfl, by decide +kernel⟩⟩
theorem d_Handler_handle_58 : ob_dc k_Handler_handle 58 (.invokevirtual 150) 3 61 := ⟨by decide +kernel, rfl⟩
theorem d_Handler_handle_52 : ob_dc k_Handler_handle 52 (.getfield 53) 3 55 := ⟨by decide +kernel, rfl⟩
theorem d_Handler_handle_51 : ob_dv ob_ac k_Handler_handle 51 52 0 (.aload_n 0) 1 := ⟨by decide +kernel, rfl, rfl⟩
theorem d_Handler_handle_50 : ob_dv (ob_sc k_Handler_handle.2.2.2.1) k_Handler_handle 50 51 2 (.istore_n 2) 1 := ⟨by decide +kernel, rfl, ⟨rfl, by decide +kernel⟩⟩
theorem d_Handler_handle_47 : ob_dc k_Handler_handle 47 (.invokevirtual 150) 3 50 := ⟨by decide +kernel, rfl⟩
theorem d_Handler_handle_41 : ob_dc k_Handler_handle 41 (.getfield 53) 3 44 := ⟨by decide +kernel, rfl⟩
theorem d_Handler_handle_40 : ob_dv ob_ac k_Handler_handle 40 41 0 (.aload_n 0) 1 := ⟨by decide +kernel, rfl, rfl⟩
theorem d_Handler_handle_34 : ob_dk k_Handler_handle 34 35 (2 : Int32) (.iconst 2) 1 := ⟨by decide +kernel, rfl, show Int32.ofInt 2 = (2 : Int32) by decide +kernel⟩
theorem d_Handler_handle_39 : ob_dc k_Handler_handle 39 (.return_) 1 40 := ⟨by decide +kernel, rfl⟩
theorem d_Handler_handle_36 : ob_dc k_Handler_handle 36 (.invokevirtual 147) 3 39 := ⟨by decide +kernel, rfl⟩
theorem d_Handler_handle_35 : ob_dv ob_lc k_Handler_handle 35 36 1 (.iload_n 1) 1 := ⟨by decide +kernel, rfl, rfl⟩
theorem d_Handler_handle_33 : ob_dv ob_ac k_Handler_handle 33 34 0 (.aload_n 0) 1 := ⟨by decide +kernel, rfl, rfl⟩
theorem d_Handler_handle_30 : ob_db k_Handler_handle 30 (.ifCond .eq 10) 10 33 40 := ⟨by decide +kernel, rfl, by decide⟩
theorem d_Handler_handle_29 : ob_dv ob_lc k_Handler_handle 29 30 1 (.iload_n 1) 1 := ⟨by decide +kernel, rfl, rfl⟩
theorem d_Handler_handle_28 : ob_dv (ob_sc k_Handler_handle.2.2.2.1) k_Handler_handle 28 29 1 (.istore_n 1) 1 := ⟨by decide +kernel, rfl, ⟨rfl, by decide +kernel⟩⟩
theorem d_Handler_handle_25 : ob_dc k_Handler_handle 25 (.invokestatic 143) 3 28 := ⟨by decide +kernel, rfl⟩
theorem d_Handler_handle_22 : ob_dc k_Handler_handle 22 (.getfield 140) 3 25 := ⟨by decide +kernel, rfl⟩
theorem d_Handler_handle_19 : ob_dc k_Handler_handle 19 (.getfield 53) 3 22 := ⟨by decide +kernel, rfl⟩
theorem d_Handler_handle_18 : ob_dv ob_ac k_Handler_handle 18 19 0 (.aload_n 0) 1 := ⟨by decide +kernel, rfl, rfl⟩
theorem d_Handler_handle_14 : ob_dc k_Handler_handle 14 (.getfield 53) 3 17 := ⟨by decide +kernel, rfl⟩
theorem d_Handler_handle_13 : ob_dv ob_ac k_Handler_handle 13 14 0 (.aload_n 0) 1 := ⟨by decide +kernel, rfl, rfl⟩
theorem d_Handler_handle_10 : ob_dc k_Handler_handle 10 (.putfield 137) 3 13 := ⟨by decide +kernel, rfl⟩
theorem d_Handler_handle_9 : ob_dc k_Handler_handle 9 (.iadd) 1 10 := ⟨by decide +kernel, rfl⟩
theorem d_Handler_handle_5 : ob_dc k_Handler_handle 5 (.getfield 137) 3 8 := ⟨by decide +kernel, rfl⟩
theorem d_Handler_handle_4 : ob_dc k_Handler_handle 4 (.dup) 1 5 := ⟨by decide +kernel, rfl⟩
theorem d_Handler_handle_1 : ob_dc k_Handler_handle 1 (.getfield 9) 3 4 := ⟨by decide +kernel, rfl⟩
theorem d_Handler_handle_0 : ob_dv ob_ac k_Handler_handle 0 1 0 (.aload_n 0) 1 := ⟨by decide +kernel, rfl, rfl⟩
theorem c_Handler_handle_153 : ob_vd k_Handler_handle k_Handler_answer 153 1 11 := ⟨cw_Handler_answer, yd_Handler_answer, w_651, w_653, wp_13, w_13, ⟨_, _, rfl⟩, by decide, by decide⟩
theorem c_Handler_handle_160 : ob_vd k_Handler_handle k_Handler_perform 160 1 11 := ⟨cw_Handler_perform, yd_Handler_perform, w_736, w_738, wp_26, w_13, ⟨_, _, rfl⟩, by decide, by decide⟩
theorem c_Handler_handle_147 : ob_vd k_Handler_handle k_Handler_refuse 147 2 11 := ⟨cw_Handler_refuse, yd_Handler_refuse, w_602, w_604, wp_11, w_13, ⟨_, _, rfl⟩, by decide, by decide⟩
theorem c_Handler_handle_156 : ob_vd k_Handler_handle k_Handler_failureOf 156 1 11 := ⟨cw_Handler_failureOf, yd_Handler_failureOf, w_655, w_657, wp_14, w_13, ⟨_, _, rfl⟩, by decide, by decide⟩
theorem c_Handler_handle_150 : ob_vd k_Handler_handle k_Row_number 150 2 1 := ⟨cw_Row_number, yd_Row_number, w_592, w_479, w_480, w_2, ⟨_, _, rfl⟩, by decide, by decide⟩
theorem c_Handler_handle_143 : ob_sd k_Handler_handle k_Handler_faultOf 143 3 := ⟨cw_Handler_faultOf, yd_Handler_faultOf, w_589, w_590, w_13, by decide, by decide⟩
def f_Handler_handle_L104 (S : ob_S) (v0 : Nat) (v2 : Int32) (v3 : Int32) (D : ob_D) : Option (ob_D) :=
  ob_bv (f_Handler_perform S v0 v3 D) fun D24 => (if (v2 &&& (8 : Int32)) = 0 then some D24 else ob_bv (f_Handler_answer S v0 (7 : Int32) D24) fun D26 => some D26)
theorem v_Handler_handle_L104 {l : Launch} {E : ob_E} {S : ob_S} {D' : ob_D} : ∀ (v0 : Nat) (v2 : Int32) (v3 : Int32) (D : ob_D), S.1 v0 = 12 → f_Handler_handle_L104 S v0 v2 v3 D = some D' → ob_V l E k_Handler_handle 104 [(0, .ref v0), (2, .int v2), (3, .int v3)] [] S D none S D' := by
  intro v0 v2 v3 D hp_v0 h
  rw [f_Handler_handle_L104] at h
  refine ob_aload d_Handler_handle_104 rfl ?_
  refine ob_iload d_Handler_handle_105 rfl ?_
  obtain ⟨D24, h25, h⟩ := ob_bv_e h
  refine ob_callVv (As := [.int v3]) (rest := []) d_Handler_handle_106 c_Handler_handle_160 hp_v0 rfl rfl (Nat.le_of_ble_eq_true rfl) (c_Handler_perform hp_v0 h25) ⟨Nat.le_refl _, Nat.le_refl _⟩ ⟨Nat.le_refl _, Nat.le_refl _⟩ ?_
  refine ob_iload d_Handler_handle_109 rfl ?_
  refine ob_push d_Handler_handle_110 ?_
  refine ob_iand d_Handler_handle_112 ?_
  refine ob_if_eq d_Handler_handle_113 (fun hc => ?_) (fun hc => ?_)
  · replace h := ob_ift hc h
    exact ob_ve h (ob_vret d_Handler_handle_122 rfl)
  · replace h := ob_iff hc h
    refine ob_aload d_Handler_handle_116 rfl ?_
    refine ob_push d_Handler_handle_117 ?_
    obtain ⟨D26, h27, h⟩ := ob_bv_e h
    refine ob_callVv (As := [.int (7 : Int32)]) (rest := []) d_Handler_handle_119 c_Handler_handle_153 hp_v0 rfl rfl (Nat.le_of_ble_eq_true rfl) (c_Handler_answer hp_v0 h27) ⟨Nat.le_refl _, Nat.le_refl _⟩ ⟨Nat.le_refl _, Nat.le_refl _⟩ ?_
    exact ob_ve h (ob_vret d_Handler_handle_122 rfl)
def f_Handler_handle_L73 (S : ob_S) (v0 : Nat) (v2 : Int32) (v3 : Int32) (D : ob_D) : Option (ob_D) :=
  ob_bd (f_Handler_failureOf S v0 v3 D) fun x23 D21 => (if x23 = 0 then (if (v2 &&& (2 : Int32)) = 0 then f_Handler_handle_L104 S v0 v2 v3 D21 else ob_bv (f_Handler_answer S v0 (3 : Int32) D21) fun D28 => f_Handler_handle_L104 S v0 v2 v3 D28) else ob_bv (f_Handler_refuse S v0 (4 : Int32) x23 D21) fun D30 => some D30)
theorem v_Handler_handle_L73 {l : Launch} {E : ob_E} {S : ob_S} {D' : ob_D} : ∀ (v0 : Nat) (v2 : Int32) (v3 : Int32) (D : ob_D), S.1 v0 = 12 → f_Handler_handle_L73 S v0 v2 v3 D = some D' → ob_V l E k_Handler_handle 73 [(0, .ref v0), (2, .int v2), (3, .int v3)] [] S D none S D' := by
  intro v0 v2 v3 D hp_v0 h
  rw [f_Handler_handle_L73] at h
  refine ob_aload d_Handler_handle_73 rfl ?_
  refine ob_iload d_Handler_handle_74 rfl ?_
  obtain ⟨x23, D21, h22, h⟩ := ob_bd_e h
  refine ob_callVi (As := [.int v3]) (rest := []) d_Handler_handle_75 c_Handler_handle_156 hp_v0 rfl rfl (Nat.le_of_ble_eq_true rfl) (c_Handler_failureOf hp_v0 h22) ⟨Nat.le_refl _, Nat.le_refl _⟩ ⟨Nat.le_refl _, Nat.le_refl _⟩ ?_
  refine ob_istore (lo2 := [(0, .ref v0), (2, .int v2), (3, .int v3), (4, .int x23)]) d_Handler_handle_78 rfl ?_
  refine ob_iload d_Handler_handle_80 rfl ?_
  refine ob_if_eq d_Handler_handle_82 (fun hc => ?_) (fun hc => ?_)
  · replace h := ob_ift hc h
    refine ob_iload d_Handler_handle_93 rfl ?_
    refine ob_push d_Handler_handle_94 ?_
    refine ob_iand d_Handler_handle_95 ?_
    refine ob_if_eq d_Handler_handle_96 (fun hc => ?_) (fun hc => ?_)
    · replace h := ob_ift hc h
      refine ob_sub (lo2 := [(0, .ref v0), (2, .int v2), (3, .int v3)]) [0, 1, 2] rfl ?_
      exact v_Handler_handle_L104 v0 v2 v3 D21 hp_v0 h
    · replace h := ob_iff hc h
      refine ob_aload d_Handler_handle_99 rfl ?_
      refine ob_push d_Handler_handle_100 ?_
      obtain ⟨D28, h29, h⟩ := ob_bv_e h
      refine ob_callVv (As := [.int (3 : Int32)]) (rest := []) d_Handler_handle_101 c_Handler_handle_153 hp_v0 rfl rfl (Nat.le_of_ble_eq_true rfl) (c_Handler_answer hp_v0 h29) ⟨Nat.le_refl _, Nat.le_refl _⟩ ⟨Nat.le_refl _, Nat.le_refl _⟩ ?_
      refine ob_sub (lo2 := [(0, .ref v0), (2, .int v2), (3, .int v3)]) [0, 1, 2] rfl ?_
      exact v_Handler_handle_L104 v0 v2 v3 D28 hp_v0 h
  · replace h := ob_iff hc h
    refine ob_aload d_Handler_handle_85 rfl ?_
    refine ob_push d_Handler_handle_86 ?_
    refine ob_iload d_Handler_handle_87 rfl ?_
    obtain ⟨D30, h31, h⟩ := ob_bv_e h
    refine ob_callVv (As := [.int (4 : Int32), .int x23]) (rest := []) d_Handler_handle_89 c_Handler_handle_147 hp_v0 rfl rfl (Nat.le_of_ble_eq_true rfl) (c_Handler_refuse hp_v0 h31) ⟨Nat.le_refl _, Nat.le_refl _⟩ ⟨Nat.le_refl _, Nat.le_refl _⟩ ?_
    exact ob_ve h (ob_vret d_Handler_handle_92 rfl)
def f_Handler_handle (S : ob_S) (v0 : Nat) (D : ob_D) : Option (ob_D) :=
  if D.2.1 v0 0 ≠ 0 then ob_lt (ob_pI D (D.2.1 v0 0) 10 ((D.1 (D.2.1 v0 0) 10) + (1 : Int32))) fun D3 => if D3.2.1 v0 8 ≠ 0 then if D3.2.1 v0 8 ≠ 0 then ob_bd (f_Handler_faultOf S (D3.2.1 v0 8) (0 : Int32) (D3.1 (D3.2.1 v0 8) 1) D3) fun x10 D8 => (if x10 = 0 then if D8.2.1 v0 8 ≠ 0 then ob_bd (f_Row_number S (D8.2.1 v0 8) (6 : Int32) (1 : Int32) D8) fun x15 D13 => if D13.2.1 v0 8 ≠ 0 then ob_bd (f_Row_number S (D13.2.1 v0 8) (7 : Int32) (2 : Int32) D13) fun x20 D18 => (if (x15 &&& (1 : Int32)) = 0 then f_Handler_handle_L73 S v0 x15 x20 D18 else ob_bv (f_Handler_answer S v0 (1 : Int32) D18) fun D32 => f_Handler_handle_L73 S v0 x15 x20 D32) else none else none else ob_bv (f_Handler_refuse S v0 (2 : Int32) x10 D8) fun D34 => some D34) else none else none else none
theorem c_Handler_handle {l : Launch} {E : ob_E} {S : ob_S} {D : ob_D} {v0 : Nat} {D' : ob_D} (hp_v0 : S.1 v0 = 12) (h : f_Handler_handle S v0 D = some D') : ob_M l E k_Handler_handle [.ref v0] S D none S D' := by
  refine ob_ofV (lo := [(0, .ref v0)]) (by decide) rfl (Nat.le_of_ble_eq_true rfl) rfl (Nat.le_refl _) (Nat.le_refl _) ?_
  rw [f_Handler_handle] at h
  refine ob_aload d_Handler_handle_0 rfl ?_
  obtain ⟨hg2, h⟩ := ob_gd h
  refine ob_getR d_Handler_handle_1 F_11_0 l_Handler_9 hp_v0 hg2 (fun hk1 => ?_)
  refine ob_dup d_Handler_handle_4 rfl ?_
  refine ob_getI d_Handler_handle_5 F_10_10 l_Handler_137 hk1 ?_
  refine ob_push d_Handler_handle_8 ?_
  refine ob_iadd d_Handler_handle_9 ?_
  replace h := ob_lt_e h
  refine ob_putI d_Handler_handle_10 F_10_10 l_Handler_137 hk1 ?_
  refine ob_aload d_Handler_handle_13 rfl ?_
  obtain ⟨hg5, h⟩ := ob_gd h
  refine ob_getR d_Handler_handle_14 F_11_8 l_Handler_53 hp_v0 hg5 (fun hk4 => ?_)
  refine ob_push d_Handler_handle_17 ?_
  refine ob_aload d_Handler_handle_18 rfl ?_
  obtain ⟨hg7, h⟩ := ob_gd h
  refine ob_getR d_Handler_handle_19 F_11_8 l_Handler_53 hp_v0 hg7 (fun hk6 => ?_)
  refine ob_getI d_Handler_handle_22 F_1_1 l_Handler_140 hk6 ?_
  obtain ⟨x10, D8, h9, h⟩ := ob_bd_e h
  refine ob_callSi (As := [.ref ((ob_pI D (D.2.1 v0 0) 10 ((D.1 (D.2.1 v0 0) 10) + (1 : Int32))).2.1 v0 8), .int (0 : Int32), .int ((ob_pI D (D.2.1 v0 0) 10 ((D.1 (D.2.1 v0 0) 10) + (1 : Int32))).1 ((ob_pI D (D.2.1 v0 0) 10 ((D.1 (D.2.1 v0 0) 10) + (1 : Int32))).2.1 v0 8) 1)]) (rest := []) d_Handler_handle_25 c_Handler_handle_143 rfl rfl (Nat.le_of_ble_eq_true rfl) (c_Handler_faultOf hk4 h9) ⟨Nat.le_refl _, Nat.le_refl _⟩ ⟨Nat.le_refl _, Nat.le_refl _⟩ ?_
  refine ob_istore (lo2 := [(0, .ref v0), (1, .int x10)]) d_Handler_handle_28 rfl ?_
  refine ob_iload d_Handler_handle_29 rfl ?_
  refine ob_if_eq d_Handler_handle_30 (fun hc => ?_) (fun hc => ?_)
  · replace h := ob_ift hc h
    refine ob_aload d_Handler_handle_40 rfl ?_
    obtain ⟨hg12, h⟩ := ob_gd h
    refine ob_getR d_Handler_handle_41 F_11_8 l_Handler_53 hp_v0 hg12 (fun hk11 => ?_)
    refine ob_push d_Handler_handle_44 ?_
    refine ob_push d_Handler_handle_46 ?_
    obtain ⟨x15, D13, h14, h⟩ := ob_bd_e h
    refine ob_callVi (As := [.int (6 : Int32), .int (1 : Int32)]) (rest := []) d_Handler_handle_47 c_Handler_handle_150 hk11 rfl rfl (Nat.le_of_ble_eq_true rfl) (c_Row_number hk11 h14) ⟨Nat.le_refl _, Nat.le_refl _⟩ ⟨Nat.le_refl _, Nat.le_refl _⟩ ?_
    refine ob_istore (lo2 := [(0, .ref v0), (1, .int x10), (2, .int x15)]) d_Handler_handle_50 rfl ?_
    refine ob_aload d_Handler_handle_51 rfl ?_
    obtain ⟨hg17, h⟩ := ob_gd h
    refine ob_getR d_Handler_handle_52 F_11_8 l_Handler_53 hp_v0 hg17 (fun hk16 => ?_)
    refine ob_push d_Handler_handle_55 ?_
    refine ob_push d_Handler_handle_57 ?_
    obtain ⟨x20, D18, h19, h⟩ := ob_bd_e h
    refine ob_callVi (As := [.int (7 : Int32), .int (2 : Int32)]) (rest := []) d_Handler_handle_58 c_Handler_handle_150 hk16 rfl rfl (Nat.le_of_ble_eq_true rfl) (c_Row_number hk16 h19) ⟨Nat.le_refl _, Nat.le_refl _⟩ ⟨Nat.le_refl _, Nat.le_refl _⟩ ?_
    refine ob_istore (lo2 := [(0, .ref v0), (1, .int x10), (2, .int x15), (3, .int x20)]) d_Handler_handle_61 rfl ?_
    refine ob_iload d_Handler_handle_62 rfl ?_
    refine ob_push d_Handler_handle_63 ?_
    refine ob_iand d_Handler_handle_64 ?_
    refine ob_if_eq d_Handler_handle_65 (fun hc => ?_) (fun hc => ?_)
    · replace h := ob_ift hc h
      refine ob_sub (lo2 := [(0, .ref v0), (2, .int x15), (3, .int x20)]) [0, 2, 3] rfl ?_
      exact v_Handler_handle_L73 v0 x15 x20 D18 hp_v0 h
    · replace h := ob_iff hc h
      refine ob_aload d_Handler_handle_68 rfl ?_
      refine ob_push d_Handler_handle_69 ?_
      obtain ⟨D32, h33, h⟩ := ob_bv_e h
      refine ob_callVv (As := [.int (1 : Int32)]) (rest := []) d_Handler_handle_70 c_Handler_handle_153 hp_v0 rfl rfl (Nat.le_of_ble_eq_true rfl) (c_Handler_answer hp_v0 h33) ⟨Nat.le_refl _, Nat.le_refl _⟩ ⟨Nat.le_refl _, Nat.le_refl _⟩ ?_
      refine ob_sub (lo2 := [(0, .ref v0), (2, .int x15), (3, .int x20)]) [0, 2, 3] rfl ?_
      exact v_Handler_handle_L73 v0 x15 x20 D32 hp_v0 h
  · replace h := ob_iff hc h
    refine ob_aload d_Handler_handle_33 rfl ?_
    refine ob_push d_Handler_handle_34 ?_
    refine ob_iload d_Handler_handle_35 rfl ?_
    obtain ⟨D34, h35, h⟩ := ob_bv_e h
    refine ob_callVv (As := [.int (2 : Int32), .int x10]) (rest := []) d_Handler_handle_36 c_Handler_handle_147 hp_v0 rfl rfl (Nat.le_of_ble_eq_true rfl) (c_Handler_refuse hp_v0 h35) ⟨Nat.le_refl _, Nat.le_refl _⟩ ⟨Nat.le_refl _, Nat.le_refl _⟩ ?_
    exact ob_ve h (ob_vret d_Handler_handle_39 rfl)
-- OrbitBox$Handler.handleDueEntries()V
theorem d_Handler_handleDueEntries_0 : ob_dk k_Handler_handleDueEntries 0 1 (0 : Int32) (.iconst 0) 1 := ⟨by decide +kernel, rfl, show Int32.ofInt 0 = (0 : Int32) by decide +kernel⟩
theorem d_Handler_handleDueEntries_3 : ob_dk k_Handler_handleDueEntries 3 5 (64 : Int32) (.bipush 64) 2 := ⟨by decide +kernel, rfl, show (Int8.ofInt 64).toInt32 = (64 : Int32) by decide +kernel⟩
theorem d_Handler_handleDueEntries_56 : ob_dc k_Handler_handleDueEntries 56 (.return_) 1 57 := ⟨by decide +kernel, rfl⟩
theorem d_Handler_handleDueEntries_50 : ob_di k_Handler_handleDueEntries 50 53 1 1 (1 : Int32) := ⟨by decide +kernel, rfl, by decide +kernel, by decide +kernel⟩
theorem d_Handler_handleDueEntries_53 : ob_db k_Handler_handleDueEntries 53 (.goto (-51)) (-51) 56 2 := ⟨by decide +kernel, rfl, by decide⟩
theorem d_Handler_handleDueEntries_47 : ob_dc k_Handler_handleDueEntries 47 (.invokevirtual 74) 3 50 := ⟨by decide +kernel, rfl⟩
theorem d_Handler_handleDueEntries_46 : ob_dv ob_ac k_Handler_handleDueEntries 46 47 0 (.aload_n 0) 1 := ⟨by decide +kernel, rfl, rfl⟩
theorem d_Handler_handleDueEntries_43 : ob_db k_Handler_handleDueEntries 43 (.ifCond .eq 7) 7 46 50 := ⟨by decide +kernel, rfl, by decide⟩
theorem d_Handler_handleDueEntries_40 : ob_dc k_Handler_handleDueEntries 40 (.getfield 70) 3 43 := ⟨by decide +kernel, rfl⟩
theorem d_Handler_handleDueEntries_37 : ob_dc k_Handler_handleDueEntries 37 (.getfield 26) 3 40 := ⟨by decide +kernel, rfl⟩
theorem d_Handler_handleDueEntries_36 : ob_dv ob_ac k_Handler_handleDueEntries 36 37 0 (.aload_n 0) 1 := ⟨by decide +kernel, rfl, rfl⟩
theorem d_Handler_handleDueEntries_33 : ob_dc k_Handler_handleDueEntries 33 (.invokevirtual 66) 3 36 := ⟨by decide +kernel, rfl⟩
theorem d_Handler_handleDueEntries_30 : ob_dc k_Handler_handleDueEntries 30 (.getfield 53) 3 33 := ⟨by decide +kernel, rfl⟩
theorem d_Handler_handleDueEntries_29 : ob_dv ob_ac k_Handler_handleDueEntries 29 30 0 (.aload_n 0) 1 := ⟨by decide +kernel, rfl, rfl⟩
theorem d_Handler_handleDueEntries_26 : ob_dc k_Handler_handleDueEntries 26 (.getfield 26) 3 29 := ⟨by decide +kernel, rfl⟩
theorem d_Handler_handleDueEntries_25 : ob_dv ob_ac k_Handler_handleDueEntries 25 26 0 (.aload_n 0) 1 := ⟨by decide +kernel, rfl, rfl⟩
theorem d_Handler_handleDueEntries_22 : ob_db k_Handler_handleDueEntries 22 (.ifCond .eq 34) 34 25 56 := ⟨by decide +kernel, rfl, by decide⟩
theorem d_Handler_handleDueEntries_19 : ob_dc k_Handler_handleDueEntries 19 (.invokevirtual 62) 3 22 := ⟨by decide +kernel, rfl⟩
theorem d_Handler_handleDueEntries_16 : ob_dc k_Handler_handleDueEntries 16 (.getfield 58) 3 19 := ⟨by decide +kernel, rfl⟩
theorem d_Handler_handleDueEntries_13 : ob_dc k_Handler_handleDueEntries 13 (.getfield 9) 3 16 := ⟨by decide +kernel, rfl⟩
theorem d_Handler_handleDueEntries_12 : ob_dv ob_ac k_Handler_handleDueEntries 12 13 0 (.aload_n 0) 1 := ⟨by decide +kernel, rfl, rfl⟩
theorem d_Handler_handleDueEntries_9 : ob_dc k_Handler_handleDueEntries 9 (.getfield 26) 3 12 := ⟨by decide +kernel, rfl⟩
theorem d_Handler_handleDueEntries_8 : ob_dv ob_ac k_Handler_handleDueEntries 8 9 0 (.aload_n 0) 1 := ⟨by decide +kernel, rfl, rfl⟩
theorem d_Handler_handleDueEntries_5 : ob_db k_Handler_handleDueEntries 5 (.if_icmp .ge 51) 51 8 56 := ⟨by decide +kernel, rfl, by decide⟩
theorem d_Handler_handleDueEntries_2 : ob_dv ob_lc k_Handler_handleDueEntries 2 3 1 (.iload_n 1) 1 := ⟨by decide +kernel, rfl, rfl⟩
theorem d_Handler_handleDueEntries_1 : ob_dv (ob_sc k_Handler_handleDueEntries.2.2.2.1) k_Handler_handleDueEntries 1 2 1 (.istore_n 1) 1 := ⟨by decide +kernel, rfl, ⟨rfl, by decide +kernel⟩⟩
theorem c_Handler_handleDueEntries_74 : ob_vd k_Handler_handleDueEntries k_Handler_handle 74 0 11 := ⟨cw_Handler_handle, yd_Handler_handle, w_585, w_587, wp_10, w_13, ⟨_, _, rfl⟩, by decide, by decide⟩
theorem c_Handler_handleDueEntries_66 : ob_vd k_Handler_handleDueEntries k_Timetable_takeFirst 66 1 5 := ⟨cw_Timetable_takeFirst, yd_Timetable_takeFirst, w_576, w_577, w_578, w_5, ⟨_, _, rfl⟩, by decide, by decide⟩
theorem c_Handler_handleDueEntries_62 : ob_vd k_Handler_handleDueEntries k_Timetable_isDue 62 1 5 := ⟨cw_Timetable_isDue, yd_Timetable_isDue, w_572, w_573, w_574, w_5, ⟨_, _, rfl⟩, by decide, by decide⟩
def f_Handler_handleDueEntries_L2 (S : ob_S) : Nat → Nat → Int32 → ob_D → Option (ob_D)
  | 0, _, _, _ => none
  | n + 1, v0, v1, D => (if (64 : Int32) ≤ v1 then some D else if D.2.1 v0 2 ≠ 0 then if D.2.1 v0 0 ≠ 0 then ob_bd (f_Timetable_isDue S (D.2.1 v0 2) (D.1 (D.2.1 v0 0) 8) D) fun x7 D5 => (if x7 = 0 then some D5 else if D5.2.1 v0 2 ≠ 0 then if D5.2.1 v0 8 ≠ 0 then ob_bv (f_Timetable_takeFirst S (D5.2.1 v0 2) (D5.2.1 v0 8) D5) fun D12 => if D12.2.1 v0 2 ≠ 0 then (if (D12.1 (D12.2.1 v0 2) 3) = 0 then f_Handler_handleDueEntries_L2 S n v0 (v1 + (1 : Int32)) D12 else ob_bv (f_Handler_handle S v0 D12) fun D16 => f_Handler_handleDueEntries_L2 S n v0 (v1 + (1 : Int32)) D16) else none else none else none) else none else none)
theorem v_Handler_handleDueEntries_L2 {l : Launch} {E : ob_E} {S : ob_S} {D' : ob_D} : ∀ (n : Nat), ∀ (v0 : Nat) (v1 : Int32) (D : ob_D), S.1 v0 = 12 → f_Handler_handleDueEntries_L2 S n v0 v1 D = some D' → ob_V l E k_Handler_handleDueEntries 2 [(0, .ref v0), (1, .int v1)] [] S D none S D' := by
  intro n
  induction n with
  | zero =>
    intro v0 v1 D hp_v0 h
    have h : none = some D' := h
    cases h
  | succ n ih =>
    intro v0 v1 D hp_v0 h
    rw [f_Handler_handleDueEntries_L2] at h
    refine ob_iload d_Handler_handleDueEntries_2 rfl ?_
    refine ob_push d_Handler_handleDueEntries_3 ?_
    refine ob_icmp_ge d_Handler_handleDueEntries_5 (fun hc => ?_) (fun hc => ?_)
    · replace h := ob_ift hc h
      exact ob_ve h (ob_vret d_Handler_handleDueEntries_56 rfl)
    · replace h := ob_iff hc h
      refine ob_aload d_Handler_handleDueEntries_8 rfl ?_
      obtain ⟨hg2, h⟩ := ob_gd h
      refine ob_getR d_Handler_handleDueEntries_9 F_11_2 l_Handler_26 hp_v0 hg2 (fun hk1 => ?_)
      refine ob_aload d_Handler_handleDueEntries_12 rfl ?_
      obtain ⟨hg4, h⟩ := ob_gd h
      refine ob_getR d_Handler_handleDueEntries_13 F_11_0 l_Handler_9 hp_v0 hg4 (fun hk3 => ?_)
      refine ob_getI d_Handler_handleDueEntries_16 F_10_8 l_Handler_58 hk3 ?_
      obtain ⟨x7, D5, h6, h⟩ := ob_bd_e h
      refine ob_callVi (As := [.int (D.1 (D.2.1 v0 0) 8)]) (rest := []) d_Handler_handleDueEntries_19 c_Handler_handleDueEntries_62 hk1 rfl rfl (Nat.le_of_ble_eq_true rfl) (c_Timetable_isDue hk1 h6) ⟨Nat.le_refl _, Nat.le_refl _⟩ ⟨Nat.le_refl _, Nat.le_refl _⟩ ?_
      refine ob_if_eq d_Handler_handleDueEntries_22 (fun hc => ?_) (fun hc => ?_)
      · replace h := ob_ift hc h
        exact ob_ve h (ob_vret d_Handler_handleDueEntries_56 rfl)
      · replace h := ob_iff hc h
        refine ob_aload d_Handler_handleDueEntries_25 rfl ?_
        obtain ⟨hg9, h⟩ := ob_gd h
        refine ob_getR d_Handler_handleDueEntries_26 F_11_2 l_Handler_26 hp_v0 hg9 (fun hk8 => ?_)
        refine ob_aload d_Handler_handleDueEntries_29 rfl ?_
        obtain ⟨hg11, h⟩ := ob_gd h
        refine ob_getR d_Handler_handleDueEntries_30 F_11_8 l_Handler_53 hp_v0 hg11 (fun hk10 => ?_)
        obtain ⟨D12, h13, h⟩ := ob_bv_e h
        refine ob_callVv (As := [.ref (D5.2.1 v0 8)]) (rest := []) d_Handler_handleDueEntries_33 c_Handler_handleDueEntries_66 hk8 rfl rfl (Nat.le_of_ble_eq_true rfl) (c_Timetable_takeFirst hk8 hk10 h13) ⟨Nat.le_refl _, Nat.le_refl _⟩ ⟨Nat.le_refl _, Nat.le_refl _⟩ ?_
        refine ob_aload d_Handler_handleDueEntries_36 rfl ?_
        obtain ⟨hg15, h⟩ := ob_gd h
        refine ob_getR d_Handler_handleDueEntries_37 F_11_2 l_Handler_26 hp_v0 hg15 (fun hk14 => ?_)
        refine ob_getI d_Handler_handleDueEntries_40 F_5_3 l_Handler_70 hk14 ?_
        refine ob_if_eq d_Handler_handleDueEntries_43 (fun hc => ?_) (fun hc => ?_)
        · replace h := ob_ift hc h
          refine ob_iinc (lo2 := [(0, .ref v0), (1, .int (v1 + (1 : Int32)))]) d_Handler_handleDueEntries_50 rfl rfl ?_
          refine ob_goto d_Handler_handleDueEntries_53 ?_
          exact ih v0 (v1 + (1 : Int32)) D12 hp_v0 h
        · replace h := ob_iff hc h
          refine ob_aload d_Handler_handleDueEntries_46 rfl ?_
          obtain ⟨D16, h17, h⟩ := ob_bv_e h
          refine ob_callVv (As := []) (rest := []) d_Handler_handleDueEntries_47 c_Handler_handleDueEntries_74 hp_v0 rfl rfl (Nat.le_of_ble_eq_true rfl) (c_Handler_handle hp_v0 h17) ⟨Nat.le_refl _, Nat.le_refl _⟩ ⟨Nat.le_refl _, Nat.le_refl _⟩ ?_
          refine ob_iinc (lo2 := [(0, .ref v0), (1, .int (v1 + (1 : Int32)))]) d_Handler_handleDueEntries_50 rfl rfl ?_
          refine ob_goto d_Handler_handleDueEntries_53 ?_
          exact ih v0 (v1 + (1 : Int32)) D16 hp_v0 h
def f_Handler_handleDueEntries (S : ob_S) (v0 : Nat) (D : ob_D) : Option (ob_D) :=
  f_Handler_handleDueEntries_L2 S ob_FU v0 (0 : Int32) D
theorem c_Handler_handleDueEntries {l : Launch} {E : ob_E} {S : ob_S} {D : ob_D} {v0 : Nat} {D' : ob_D} (hp_v0 : S.1 v0 = 12) (h : f_Handler_handleDueEntries S v0 D = some D') : ob_M l E k_Handler_handleDueEntries [.ref v0] S D none S D' := by
  refine ob_ofV (lo := [(0, .ref v0)]) (by decide) rfl (Nat.le_of_ble_eq_true rfl) rfl (Nat.le_refl _) (Nat.le_refl _) ?_
  rw [f_Handler_handleDueEntries] at h
  refine ob_push d_Handler_handleDueEntries_0 ?_
  refine ob_istore (lo2 := [(0, .ref v0), (1, .int (0 : Int32))]) d_Handler_handleDueEntries_1 rfl ?_
  exact v_Handler_handleDueEntries_L2 ob_FU v0 (0 : Int32) D hp_v0 h
-- OrbitBox$Handler.handleQueue()V
theorem d_Handler_handleQueue_0 : ob_dk k_Handler_handleQueue 0 1 (0 : Int32) (.iconst 0) 1 := ⟨by decide +kernel, rfl, show Int32.ofInt 0 = (0 : Int32) by decide +kernel⟩
theorem d_Handler_handleQueue_3 : ob_dk k_Handler_handleQueue 3 5 (8 : Int32) (.bipush 8) 2 := ⟨by decide +kernel, rfl, show (Int8.ofInt 8).toInt32 = (8 : Int32) by decide +kernel⟩
theorem d_Handler_handleQueue_39 : ob_dc k_Handler_handleQueue 39 (.return_) 1 40 := ⟨by decide +kernel, rfl⟩
theorem d_Handler_handleQueue_36 : ob_dc k_Handler_handleQueue 36 (.invokevirtual 83) 3 39 := ⟨by decide +kernel, rfl⟩
theorem d_Handler_handleQueue_33 : ob_dc k_Handler_handleQueue 33 (.getfield 21) 3 36 := ⟨by decide +kernel, rfl⟩
theorem d_Handler_handleQueue_32 : ob_dv ob_ac k_Handler_handleQueue 32 33 0 (.aload_n 0) 1 := ⟨by decide +kernel, rfl, rfl⟩
theorem d_Handler_handleQueue_26 : ob_di k_Handler_handleQueue 26 29 1 1 (1 : Int32) := ⟨by decide +kernel, rfl, by decide +kernel, by decide +kernel⟩
theorem d_Handler_handleQueue_29 : ob_db k_Handler_handleQueue 29 (.goto (-27)) (-27) 32 2 := ⟨by decide +kernel, rfl, by decide⟩
theorem d_Handler_handleQueue_23 : ob_dc k_Handler_handleQueue 23 (.invokevirtual 74) 3 26 := ⟨by decide +kernel, rfl⟩
theorem d_Handler_handleQueue_22 : ob_dv ob_ac k_Handler_handleQueue 22 23 0 (.aload_n 0) 1 := ⟨by decide +kernel, rfl, rfl⟩
theorem d_Handler_handleQueue_19 : ob_db k_Handler_handleQueue 19 (.ifCond .eq 13) 13 22 32 := ⟨by decide +kernel, rfl, by decide⟩
theorem d_Handler_handleQueue_16 : ob_dc k_Handler_handleQueue 16 (.invokevirtual 79) 3 19 := ⟨by decide +kernel, rfl⟩
theorem d_Handler_handleQueue_13 : ob_dc k_Handler_handleQueue 13 (.getfield 53) 3 16 := ⟨by decide +kernel, rfl⟩
theorem d_Handler_handleQueue_12 : ob_dv ob_ac k_Handler_handleQueue 12 13 0 (.aload_n 0) 1 := ⟨by decide +kernel, rfl, rfl⟩
theorem d_Handler_handleQueue_9 : ob_dc k_Handler_handleQueue 9 (.getfield 21) 3 12 := ⟨by decide +kernel, rfl⟩
theorem d_Handler_handleQueue_8 : ob_dv ob_ac k_Handler_handleQueue 8 9 0 (.aload_n 0) 1 := ⟨by decide +kernel, rfl, rfl⟩
theorem d_Handler_handleQueue_5 : ob_db k_Handler_handleQueue 5 (.if_icmp .ge 27) 27 8 32 := ⟨by decide +kernel, rfl, by decide⟩
theorem d_Handler_handleQueue_2 : ob_dv ob_lc k_Handler_handleQueue 2 3 1 (.iload_n 1) 1 := ⟨by decide +kernel, rfl, rfl⟩
theorem d_Handler_handleQueue_1 : ob_dv (ob_sc k_Handler_handleQueue.2.2.2.1) k_Handler_handleQueue 1 2 1 (.istore_n 1) 1 := ⟨by decide +kernel, rfl, ⟨rfl, by decide +kernel⟩⟩
theorem c_Handler_handleQueue_83 : ob_vd k_Handler_handleQueue k_Gate_stopWaiting 83 0 4 := ⟨cw_Gate_stopWaiting, yd_Gate_stopWaiting, w_869, w_870, w_871, w_4, ⟨_, _, rfl⟩, by decide, by decide⟩
theorem c_Handler_handleQueue_74 : ob_vd k_Handler_handleQueue k_Handler_handle 74 0 11 := ⟨cw_Handler_handle, yd_Handler_handle, w_585, w_587, wp_10, w_13, ⟨_, _, rfl⟩, by decide, by decide⟩
theorem c_Handler_handleQueue_79 : ob_vd k_Handler_handleQueue k_Gate_takeOut 79 1 4 := ⟨cw_Gate_takeOut, yd_Gate_takeOut, w_865, w_866, w_867, w_4, ⟨_, _, rfl⟩, by decide, by decide⟩
def f_Handler_handleQueue_L2 (S : ob_S) : Nat → Nat → Int32 → ob_D → Option (ob_D)
  | 0, _, _, _ => none
  | n + 1, v0, v1, D => (if (8 : Int32) ≤ v1 then if D.2.1 v0 1 ≠ 0 then ob_bv (f_Gate_stopWaiting S (D.2.1 v0 1) D) fun D3 => some D3 else none else if D.2.1 v0 1 ≠ 0 then if D.2.1 v0 8 ≠ 0 then ob_bd (f_Gate_takeOut S (D.2.1 v0 1) (D.2.1 v0 8) D) fun x11 D9 => (if x11 = 0 then if D9.2.1 v0 1 ≠ 0 then ob_bv (f_Gate_stopWaiting S (D9.2.1 v0 1) D9) fun D14 => some D14 else none else ob_bv (f_Handler_handle S v0 D9) fun D16 => f_Handler_handleQueue_L2 S n v0 (v1 + (1 : Int32)) D16) else none else none)
theorem v_Handler_handleQueue_L2 {l : Launch} {E : ob_E} {S : ob_S} {D' : ob_D} : ∀ (n : Nat), ∀ (v0 : Nat) (v1 : Int32) (D : ob_D), S.1 v0 = 12 → f_Handler_handleQueue_L2 S n v0 v1 D = some D' → ob_V l E k_Handler_handleQueue 2 [(0, .ref v0), (1, .int v1)] [] S D none S D' := by
  intro n
  induction n with
  | zero =>
    intro v0 v1 D hp_v0 h
    have h : none = some D' := h
    cases h
  | succ n ih =>
    intro v0 v1 D hp_v0 h
    rw [f_Handler_handleQueue_L2] at h
    refine ob_iload d_Handler_handleQueue_2 rfl ?_
    refine ob_push d_Handler_handleQueue_3 ?_
    refine ob_icmp_ge d_Handler_handleQueue_5 (fun hc => ?_) (fun hc => ?_)
    · replace h := ob_ift hc h
      refine ob_aload d_Handler_handleQueue_32 rfl ?_
      obtain ⟨hg2, h⟩ := ob_gd h
      refine ob_getR d_Handler_handleQueue_33 F_11_1 l_Handler_21 hp_v0 hg2 (fun hk1 => ?_)
      obtain ⟨D3, h4, h⟩ := ob_bv_e h
      refine ob_callVv (As := []) (rest := []) d_Handler_handleQueue_36 c_Handler_handleQueue_83 hk1 rfl rfl (Nat.le_of_ble_eq_true rfl) (c_Gate_stopWaiting hk1 h4) ⟨Nat.le_refl _, Nat.le_refl _⟩ ⟨Nat.le_refl _, Nat.le_refl _⟩ ?_
      exact ob_ve h (ob_vret d_Handler_handleQueue_39 rfl)
    · replace h := ob_iff hc h
      refine ob_aload d_Handler_handleQueue_8 rfl ?_
      obtain ⟨hg6, h⟩ := ob_gd h
      refine ob_getR d_Handler_handleQueue_9 F_11_1 l_Handler_21 hp_v0 hg6 (fun hk5 => ?_)
      refine ob_aload d_Handler_handleQueue_12 rfl ?_
      obtain ⟨hg8, h⟩ := ob_gd h
      refine ob_getR d_Handler_handleQueue_13 F_11_8 l_Handler_53 hp_v0 hg8 (fun hk7 => ?_)
      obtain ⟨x11, D9, h10, h⟩ := ob_bd_e h
      refine ob_callVi (As := [.ref (D.2.1 v0 8)]) (rest := []) d_Handler_handleQueue_16 c_Handler_handleQueue_79 hk5 rfl rfl (Nat.le_of_ble_eq_true rfl) (c_Gate_takeOut hk5 hk7 h10) ⟨Nat.le_refl _, Nat.le_refl _⟩ ⟨Nat.le_refl _, Nat.le_refl _⟩ ?_
      refine ob_if_eq d_Handler_handleQueue_19 (fun hc => ?_) (fun hc => ?_)
      · replace h := ob_ift hc h
        refine ob_aload d_Handler_handleQueue_32 rfl ?_
        obtain ⟨hg13, h⟩ := ob_gd h
        refine ob_getR d_Handler_handleQueue_33 F_11_1 l_Handler_21 hp_v0 hg13 (fun hk12 => ?_)
        obtain ⟨D14, h15, h⟩ := ob_bv_e h
        refine ob_callVv (As := []) (rest := []) d_Handler_handleQueue_36 c_Handler_handleQueue_83 hk12 rfl rfl (Nat.le_of_ble_eq_true rfl) (c_Gate_stopWaiting hk12 h15) ⟨Nat.le_refl _, Nat.le_refl _⟩ ⟨Nat.le_refl _, Nat.le_refl _⟩ ?_
        exact ob_ve h (ob_vret d_Handler_handleQueue_39 rfl)
      · replace h := ob_iff hc h
        refine ob_aload d_Handler_handleQueue_22 rfl ?_
        obtain ⟨D16, h17, h⟩ := ob_bv_e h
        refine ob_callVv (As := []) (rest := []) d_Handler_handleQueue_23 c_Handler_handleQueue_74 hp_v0 rfl rfl (Nat.le_of_ble_eq_true rfl) (c_Handler_handle hp_v0 h17) ⟨Nat.le_refl _, Nat.le_refl _⟩ ⟨Nat.le_refl _, Nat.le_refl _⟩ ?_
        refine ob_iinc (lo2 := [(0, .ref v0), (1, .int (v1 + (1 : Int32)))]) d_Handler_handleQueue_26 rfl rfl ?_
        refine ob_goto d_Handler_handleQueue_29 ?_
        exact ih v0 (v1 + (1 : Int32)) D16 hp_v0 h
def f_Handler_handleQueue (S : ob_S) (v0 : Nat) (D : ob_D) : Option (ob_D) :=
  f_Handler_handleQueue_L2 S ob_FU v0 (0 : Int32) D
theorem c_Handler_handleQueue {l : Launch} {E : ob_E} {S : ob_S} {D : ob_D} {v0 : Nat} {D' : ob_D} (hp_v0 : S.1 v0 = 12) (h : f_Handler_handleQueue S v0 D = some D') : ob_M l E k_Handler_handleQueue [.ref v0] S D none S D' := by
  refine ob_ofV (lo := [(0, .ref v0)]) (by decide) rfl (Nat.le_of_ble_eq_true rfl) rfl (Nat.le_refl _) (Nat.le_refl _) ?_
  rw [f_Handler_handleQueue] at h
  refine ob_push d_Handler_handleQueue_0 ?_
  refine ob_istore (lo2 := [(0, .ref v0), (1, .int (0 : Int32))]) d_Handler_handleQueue_1 rfl ?_
  exact v_Handler_handleQueue_L2 ob_FU v0 (0 : Int32) D hp_v0 h
-- OrbitBox$Handler.sendEvent(II)V
theorem d_Handler_sendEvent_4 : ob_dk k_Handler_sendEvent 4 5 (5 : Int32) (.iconst 5) 1 := ⟨by decide +kernel, rfl, show Int32.ofInt 5 = (5 : Int32) by decide +kernel⟩
theorem d_Handler_sendEvent_5 : ob_dk k_Handler_sendEvent 5 6 (1 : Int32) (.iconst 1) 1 := ⟨by decide +kernel, rfl, show Int32.ofInt 1 = (1 : Int32) by decide +kernel⟩
theorem d_Handler_sendEvent_7 : ob_dk k_Handler_sendEvent 7 9 (8 : Int32) (.bipush 8) 2 := ⟨by decide +kernel, rfl, show (Int8.ofInt 8).toInt32 = (8 : Int32) by decide +kernel⟩
theorem d_Handler_sendEvent_24 : ob_dk k_Handler_sendEvent 24 25 (1 : Int32) (.iconst 1) 1 := ⟨by decide +kernel, rfl, show Int32.ofInt 1 = (1 : Int32) by decide +kernel⟩
theorem d_Handler_sendEvent_30 : ob_dk k_Handler_sendEvent 30 31 (4 : Int32) (.iconst 4) 1 := ⟨by decide +kernel, rfl, show Int32.ofInt 4 = (4 : Int32) by decide +kernel⟩
theorem d_Handler_sendEvent_41 : ob_dc k_Handler_sendEvent 41 (.return_) 1 42 := ⟨by decide +kernel, rfl⟩
theorem d_Handler_sendEvent_38 : ob_dc k_Handler_sendEvent 38 (.invokevirtual 124) 3 41 := ⟨by decide +kernel, rfl⟩
theorem d_Handler_sendEvent_35 : ob_dc k_Handler_sendEvent 35 (.getfield 36) 3 38 := ⟨by decide +kernel, rfl⟩
theorem d_Handler_sendEvent_34 : ob_dv ob_ac k_Handler_sendEvent 34 35 0 (.aload_n 0) 1 := ⟨by decide +kernel, rfl, rfl⟩
theorem d_Handler_sendEvent_31 : ob_dc k_Handler_sendEvent 31 (.invokevirtual 121) 3 34 := ⟨by decide +kernel, rfl⟩
theorem d_Handler_sendEvent_29 : ob_dv ob_lc k_Handler_sendEvent 29 30 2 (.iload_n 2) 1 := ⟨by decide +kernel, rfl, rfl⟩
theorem d_Handler_sendEvent_28 : ob_dv ob_ac k_Handler_sendEvent 28 29 3 (.aload_n 3) 1 := ⟨by decide +kernel, rfl, rfl⟩
theorem d_Handler_sendEvent_25 : ob_dc k_Handler_sendEvent 25 (.invokevirtual 121) 3 28 := ⟨by decide +kernel, rfl⟩
theorem d_Handler_sendEvent_23 : ob_dv ob_lc k_Handler_sendEvent 23 24 1 (.iload_n 1) 1 := ⟨by decide +kernel, rfl, rfl⟩
theorem d_Handler_sendEvent_22 : ob_dv ob_ac k_Handler_sendEvent 22 23 3 (.aload_n 3) 1 := ⟨by decide +kernel, rfl, rfl⟩
theorem d_Handler_sendEvent_21 : ob_dv (ob_bc k_Handler_sendEvent.2.2.2.1) k_Handler_sendEvent 21 22 3 (.astore_n 3) 1 := ⟨by decide +kernel, rfl, ⟨rfl, by decide +kernel⟩⟩
theorem d_Handler_sendEvent_18 : ob_dc k_Handler_sendEvent 18 (.invokevirtual 115) 3 21 := ⟨by decide +kernel, rfl⟩
theorem d_Handler_sendEvent_15 : ob_dc k_Handler_sendEvent 15 (.getfield 58) 3 18 := ⟨by decide +kernel, rfl⟩
theorem d_Handler_sendEvent_12 : ob_dc k_Handler_sendEvent 12 (.getfield 9) 3 15 := ⟨by decide +kernel, rfl⟩
theorem d_Handler_sendEvent_11 : ob_dv ob_ac k_Handler_sendEvent 11 12 0 (.aload_n 0) 1 := ⟨by decide +kernel, rfl, rfl⟩
theorem d_Handler_sendEvent_10 : ob_dc k_Handler_sendEvent 10 (.iadd) 1 11 := ⟨by decide +kernel, rfl⟩
theorem d_Handler_sendEvent_9 : ob_dc k_Handler_sendEvent 9 (.idiv) 1 10 := ⟨by decide +kernel, rfl⟩
theorem d_Handler_sendEvent_6 : ob_dv ob_lc k_Handler_sendEvent 6 7 1 (.iload_n 1) 1 := ⟨by decide +kernel, rfl, rfl⟩
theorem d_Handler_sendEvent_1 : ob_dc k_Handler_sendEvent 1 (.getfield 36) 3 4 := ⟨by decide +kernel, rfl⟩
theorem d_Handler_sendEvent_0 : ob_dv ob_ac k_Handler_sendEvent 0 1 0 (.aload_n 0) 1 := ⟨by decide +kernel, rfl, rfl⟩
theorem c_Handler_sendEvent_124 : ob_vd k_Handler_sendEvent k_Reports_send 124 0 8 := ⟨cw_Reports_send, yd_Reports_send, w_613, w_614, w_615, w_11, ⟨_, _, rfl⟩, by decide, by decide⟩
theorem c_Handler_sendEvent_121 : ob_vd k_Handler_sendEvent k_Row_add 121 2 1 := ⟨cw_Row_add, yd_Row_add, w_612, w_467, w_468, w_2, ⟨_, _, rfl⟩, by decide, by decide⟩
theorem c_Handler_sendEvent_115 : ob_vd k_Handler_sendEvent k_Reports_begin 115 3 8 := ⟨cw_Reports_begin, yd_Reports_begin, w_606, w_607, w_608, w_11, ⟨_, _, rfl⟩, by decide, by decide⟩
def f_Handler_sendEvent (S : ob_S) (v0 : Nat) (v1 : Int32) (v2 : Int32) (D : ob_D) : Option (ob_D) :=
  if D.2.1 v0 4 ≠ 0 then if D.2.1 v0 0 ≠ 0 then ob_bd (f_Reports_begin S (D.2.1 v0 4) (5 : Int32) ((1 : Int32) + (v1 / (8 : Int32))) (D.1 (D.2.1 v0 0) 8) D) fun x7 D5 => if S.1 x7 = 2 then ob_bv (f_Row_add S x7 v1 (1 : Int32) D5) fun D9 => ob_bv (f_Row_add S x7 v2 (4 : Int32) D9) fun D11 => if D11.2.1 v0 4 ≠ 0 then ob_bv (f_Reports_send S (D11.2.1 v0 4) D11) fun D15 => some D15 else none else none else none else none
theorem c_Handler_sendEvent {l : Launch} {E : ob_E} {S : ob_S} {D : ob_D} {v0 : Nat} {v1 : Int32} {v2 : Int32} {D' : ob_D} (hp_v0 : S.1 v0 = 12) (h : f_Handler_sendEvent S v0 v1 v2 D = some D') : ob_M l E k_Handler_sendEvent [.ref v0, .int v1, .int v2] S D none S D' := by
  refine ob_ofV (lo := [(0, .ref v0), (1, .int v1), (2, .int v2)]) (by decide) rfl (Nat.le_of_ble_eq_true rfl) rfl (Nat.le_refl _) (Nat.le_refl _) ?_
  rw [f_Handler_sendEvent] at h
  refine ob_aload d_Handler_sendEvent_0 rfl ?_
  obtain ⟨hg2, h⟩ := ob_gd h
  refine ob_getR d_Handler_sendEvent_1 F_11_4 l_Handler_36 hp_v0 hg2 (fun hk1 => ?_)
  refine ob_push d_Handler_sendEvent_4 ?_
  refine ob_push d_Handler_sendEvent_5 ?_
  refine ob_iload d_Handler_sendEvent_6 rfl ?_
  refine ob_push d_Handler_sendEvent_7 ?_
  refine ob_idiv d_Handler_sendEvent_9 (by decide) ?_
  refine ob_iadd d_Handler_sendEvent_10 ?_
  refine ob_aload d_Handler_sendEvent_11 rfl ?_
  obtain ⟨hg4, h⟩ := ob_gd h
  refine ob_getR d_Handler_sendEvent_12 F_11_0 l_Handler_9 hp_v0 hg4 (fun hk3 => ?_)
  refine ob_getI d_Handler_sendEvent_15 F_10_8 l_Handler_58 hk3 ?_
  obtain ⟨x7, D5, h6, h⟩ := ob_bd_e h
  obtain ⟨hk8, h⟩ := ob_gd h
  refine ob_callVr (As := [.int (5 : Int32), .int ((1 : Int32) + (v1 / (8 : Int32))), .int (D.1 (D.2.1 v0 0) 8)]) (rest := []) d_Handler_sendEvent_18 c_Handler_sendEvent_115 hk1 rfl rfl (Nat.le_of_ble_eq_true rfl) (c_Reports_begin hk1 h6) ⟨Nat.le_refl _, Nat.le_refl _⟩ ⟨Nat.le_refl _, Nat.le_refl _⟩ ?_
  refine ob_astore (lo2 := [(0, .ref v0), (1, .int v1), (2, .int v2), (3, .ref x7)]) d_Handler_sendEvent_21 rfl ?_
  refine ob_aload d_Handler_sendEvent_22 rfl ?_
  refine ob_iload d_Handler_sendEvent_23 rfl ?_
  refine ob_push d_Handler_sendEvent_24 ?_
  obtain ⟨D9, h10, h⟩ := ob_bv_e h
  refine ob_callVv (As := [.int v1, .int (1 : Int32)]) (rest := []) d_Handler_sendEvent_25 c_Handler_sendEvent_121 hk8 rfl rfl (Nat.le_of_ble_eq_true rfl) (c_Row_add hk8 h10) ⟨Nat.le_refl _, Nat.le_refl _⟩ ⟨Nat.le_refl _, Nat.le_refl _⟩ ?_
  refine ob_aload d_Handler_sendEvent_28 rfl ?_
  refine ob_iload d_Handler_sendEvent_29 rfl ?_
  refine ob_push d_Handler_sendEvent_30 ?_
  obtain ⟨D11, h12, h⟩ := ob_bv_e h
  refine ob_callVv (As := [.int v2, .int (4 : Int32)]) (rest := []) d_Handler_sendEvent_31 c_Handler_sendEvent_121 hk8 rfl rfl (Nat.le_of_ble_eq_true rfl) (c_Row_add hk8 h12) ⟨Nat.le_refl _, Nat.le_refl _⟩ ⟨Nat.le_refl _, Nat.le_refl _⟩ ?_
  refine ob_aload d_Handler_sendEvent_34 rfl ?_
  obtain ⟨hg14, h⟩ := ob_gd h
  refine ob_getR d_Handler_sendEvent_35 F_11_4 l_Handler_36 hp_v0 hg14 (fun hk13 => ?_)
  obtain ⟨D15, h16, h⟩ := ob_bv_e h
  refine ob_callVv (As := []) (rest := []) d_Handler_sendEvent_38 c_Handler_sendEvent_124 hk13 rfl rfl (Nat.le_of_ble_eq_true rfl) (c_Reports_send hk13 h16) ⟨Nat.le_refl _, Nat.le_refl _⟩ ⟨Nat.le_refl _, Nat.le_refl _⟩ ?_
  exact ob_ve h (ob_vret d_Handler_sendEvent_41 rfl)
-- OrbitBox$Handler.workEvents()V
theorem d_Handler_workEvents_0 : ob_dk k_Handler_workEvents 0 1 (0 : Int32) (.iconst 0) 1 := ⟨by decide +kernel, rfl, show Int32.ofInt 0 = (0 : Int32) by decide +kernel⟩
theorem d_Handler_workEvents_3 : ob_dk k_Handler_workEvents 3 5 (64 : Int32) (.bipush 64) 2 := ⟨by decide +kernel, rfl, show (Int8.ofInt 64).toInt32 = (64 : Int32) by decide +kernel⟩
theorem d_Handler_workEvents_92 : ob_dc k_Handler_workEvents 92 (.return_) 1 93 := ⟨by decide +kernel, rfl⟩
theorem d_Handler_workEvents_89 : ob_dc k_Handler_workEvents 89 (.invokevirtual 112) 3 92 := ⟨by decide +kernel, rfl⟩
theorem d_Handler_workEvents_86 : ob_dc k_Handler_workEvents 86 (.getfield 31) 3 89 := ⟨by decide +kernel, rfl⟩
theorem d_Handler_workEvents_85 : ob_dv ob_ac k_Handler_workEvents 85 86 0 (.aload_n 0) 1 := ⟨by decide +kernel, rfl, rfl⟩
theorem d_Handler_workEvents_79 : ob_di k_Handler_workEvents 79 82 1 1 (1 : Int32) := ⟨by decide +kernel, rfl, by decide +kernel, by decide +kernel⟩
theorem d_Handler_workEvents_82 : ob_db k_Handler_workEvents 82 (.goto (-80)) (-80) 85 2 := ⟨by decide +kernel, rfl, by decide⟩
theorem d_Handler_workEvents_76 : ob_dc k_Handler_workEvents 76 (.invokevirtual 74) 3 79 := ⟨by decide +kernel, rfl⟩
theorem d_Handler_workEvents_75 : ob_dv ob_ac k_Handler_workEvents 75 76 0 (.aload_n 0) 1 := ⟨by decide +kernel, rfl, rfl⟩
theorem d_Handler_workEvents_72 : ob_db k_Handler_workEvents 72 (.ifCond .eq 7) 7 75 79 := ⟨by decide +kernel, rfl, by decide⟩
theorem d_Handler_workEvents_69 : ob_dc k_Handler_workEvents 69 (.invokevirtual 108) 3 72 := ⟨by decide +kernel, rfl⟩
theorem d_Handler_workEvents_66 : ob_dc k_Handler_workEvents 66 (.getfield 53) 3 69 := ⟨by decide +kernel, rfl⟩
theorem d_Handler_workEvents_65 : ob_dv ob_ac k_Handler_workEvents 65 66 0 (.aload_n 0) 1 := ⟨by decide +kernel, rfl, rfl⟩
theorem d_Handler_workEvents_64 : ob_dv ob_lc k_Handler_workEvents 64 65 2 (.iload_n 2) 1 := ⟨by decide +kernel, rfl, rfl⟩
theorem d_Handler_workEvents_61 : ob_dc k_Handler_workEvents 61 (.getfield 31) 3 64 := ⟨by decide +kernel, rfl⟩
theorem d_Handler_workEvents_60 : ob_dv ob_ac k_Handler_workEvents 60 61 0 (.aload_n 0) 1 := ⟨by decide +kernel, rfl, rfl⟩
theorem d_Handler_workEvents_57 : ob_dc k_Handler_workEvents 57 (.invokevirtual 104) 3 60 := ⟨by decide +kernel, rfl⟩
theorem d_Handler_workEvents_56 : ob_dv ob_lc k_Handler_workEvents 56 57 3 (.iload_n 3) 1 := ⟨by decide +kernel, rfl, rfl⟩
theorem d_Handler_workEvents_55 : ob_dv ob_lc k_Handler_workEvents 55 56 2 (.iload_n 2) 1 := ⟨by decide +kernel, rfl, rfl⟩
theorem d_Handler_workEvents_54 : ob_dv ob_ac k_Handler_workEvents 54 55 0 (.aload_n 0) 1 := ⟨by decide +kernel, rfl, rfl⟩
theorem d_Handler_workEvents_51 : ob_db k_Handler_workEvents 51 (.ifCond .eq 9) 9 54 60 := ⟨by decide +kernel, rfl, by decide⟩
theorem d_Handler_workEvents_48 : ob_dc k_Handler_workEvents 48 (.invokevirtual 101) 3 51 := ⟨by decide +kernel, rfl⟩
theorem d_Handler_workEvents_47 : ob_dv ob_lc k_Handler_workEvents 47 48 2 (.iload_n 2) 1 := ⟨by decide +kernel, rfl, rfl⟩
theorem d_Handler_workEvents_44 : ob_dc k_Handler_workEvents 44 (.getfield 31) 3 47 := ⟨by decide +kernel, rfl⟩
theorem d_Handler_workEvents_43 : ob_dv ob_ac k_Handler_workEvents 43 44 0 (.aload_n 0) 1 := ⟨by decide +kernel, rfl, rfl⟩
theorem d_Handler_workEvents_42 : ob_dv (ob_sc k_Handler_workEvents.2.2.2.1) k_Handler_workEvents 42 43 3 (.istore_n 3) 1 := ⟨by decide +kernel, rfl, ⟨rfl, by decide +kernel⟩⟩
theorem d_Handler_workEvents_39 : ob_dc k_Handler_workEvents 39 (.invokevirtual 97) 3 42 := ⟨by decide +kernel, rfl⟩
theorem d_Handler_workEvents_36 : ob_dc k_Handler_workEvents 36 (.getfield 88) 3 39 := ⟨by decide +kernel, rfl⟩
theorem d_Handler_workEvents_33 : ob_dc k_Handler_workEvents 33 (.getfield 31) 3 36 := ⟨by decide +kernel, rfl⟩
theorem d_Handler_workEvents_32 : ob_dv ob_ac k_Handler_workEvents 32 33 0 (.aload_n 0) 1 := ⟨by decide +kernel, rfl, rfl⟩
theorem d_Handler_workEvents_31 : ob_dv (ob_sc k_Handler_workEvents.2.2.2.1) k_Handler_workEvents 31 32 2 (.istore_n 2) 1 := ⟨by decide +kernel, rfl, ⟨rfl, by decide +kernel⟩⟩
theorem d_Handler_workEvents_28 : ob_dc k_Handler_workEvents 28 (.invokevirtual 97) 3 31 := ⟨by decide +kernel, rfl⟩
theorem d_Handler_workEvents_25 : ob_dc k_Handler_workEvents 25 (.getfield 88) 3 28 := ⟨by decide +kernel, rfl⟩
theorem d_Handler_workEvents_22 : ob_dc k_Handler_workEvents 22 (.getfield 31) 3 25 := ⟨by decide +kernel, rfl⟩
theorem d_Handler_workEvents_21 : ob_dv ob_ac k_Handler_workEvents 21 22 0 (.aload_n 0) 1 := ⟨by decide +kernel, rfl, rfl⟩
theorem d_Handler_workEvents_18 : ob_db k_Handler_workEvents 18 (.ifCond .le 67) 67 21 85 := ⟨by decide +kernel, rfl, by decide⟩
theorem d_Handler_workEvents_15 : ob_dc k_Handler_workEvents 15 (.getfield 92) 3 18 := ⟨by decide +kernel, rfl⟩
theorem d_Handler_workEvents_12 : ob_dc k_Handler_workEvents 12 (.getfield 88) 3 15 := ⟨by decide +kernel, rfl⟩
theorem d_Handler_workEvents_9 : ob_dc k_Handler_workEvents 9 (.getfield 31) 3 12 := ⟨by decide +kernel, rfl⟩
theorem d_Handler_workEvents_8 : ob_dv ob_ac k_Handler_workEvents 8 9 0 (.aload_n 0) 1 := ⟨by decide +kernel, rfl, rfl⟩
theorem d_Handler_workEvents_5 : ob_db k_Handler_workEvents 5 (.if_icmp .ge 80) 80 8 85 := ⟨by decide +kernel, rfl, by decide⟩
theorem d_Handler_workEvents_2 : ob_dv ob_lc k_Handler_workEvents 2 3 1 (.iload_n 1) 1 := ⟨by decide +kernel, rfl, rfl⟩
theorem d_Handler_workEvents_1 : ob_dv (ob_sc k_Handler_workEvents.2.2.2.1) k_Handler_workEvents 1 2 1 (.istore_n 1) 1 := ⟨by decide +kernel, rfl, ⟨rfl, by decide +kernel⟩⟩
theorem c_Handler_workEvents_112 : ob_vd k_Handler_workEvents k_Events_loseRest 112 0 6 := ⟨cw_Events_loseRest, yd_Events_loseRest, w_911, w_912, w_913, w_7, ⟨_, _, rfl⟩, by decide, by decide⟩
theorem c_Handler_workEvents_74 : ob_vd k_Handler_workEvents k_Handler_handle 74 0 11 := ⟨cw_Handler_handle, yd_Handler_handle, w_585, w_587, wp_10, w_13, ⟨_, _, rfl⟩, by decide, by decide⟩
theorem c_Handler_workEvents_108 : ob_vd k_Handler_workEvents k_Events_takeAction 108 2 6 := ⟨cw_Events_takeAction, yd_Events_takeAction, w_906, w_907, w_908, w_7, ⟨_, _, rfl⟩, by decide, by decide⟩
theorem c_Handler_workEvents_104 : ob_vd k_Handler_workEvents k_Handler_sendEvent 104 2 11 := ⟨cw_Handler_sendEvent, yd_Handler_sendEvent, w_902, w_904, wp_42, w_13, ⟨_, _, rfl⟩, by decide, by decide⟩
theorem c_Handler_workEvents_101 : ob_vd k_Handler_workEvents k_Events_isTold 101 1 6 := ⟨cw_Events_isTold, yd_Events_isTold, w_897, w_898, w_899, w_7, ⟨_, _, rfl⟩, by decide, by decide⟩
theorem c_Handler_workEvents_97 : ob_vd k_Handler_workEvents k_Ring_take 97 0 2 := ⟨cw_Ring_take, yd_Ring_take, w_888, w_889, w_890, w_8, ⟨_, _, rfl⟩, by decide, by decide⟩
def f_Handler_workEvents_L60 (S : ob_S) (k2 : Nat → Int32 → ob_D → Option (ob_D)) (v0 : Nat) (v1 : Int32) (v2 : Int32) (D : ob_D) : Option (ob_D) :=
  if D.2.1 v0 3 ≠ 0 then if D.2.1 v0 8 ≠ 0 then ob_bd (f_Events_takeAction S (D.2.1 v0 3) v2 (D.2.1 v0 8) D) fun x38 D36 => (if x38 = 0 then k2 v0 (v1 + (1 : Int32)) D36 else ob_bv (f_Handler_handle S v0 D36) fun D39 => k2 v0 (v1 + (1 : Int32)) D39) else none else none
theorem v_Handler_workEvents_L60 {l : Launch} {E : ob_E} {S : ob_S} {D' : ob_D} {k2 : Nat → Int32 → ob_D → Option (ob_D)} (hk2 : ∀ (v0 : Nat) (v1 : Int32) (D : ob_D), S.1 v0 = 12 → k2 v0 v1 D = some D' → ob_V l E k_Handler_workEvents 2 [(0, .ref v0), (1, .int v1)] [] S D none S D') : ∀ (v0 : Nat) (v1 : Int32) (v2 : Int32) (D : ob_D), S.1 v0 = 12 → f_Handler_workEvents_L60 S k2 v0 v1 v2 D = some D' → ob_V l E k_Handler_workEvents 60 [(0, .ref v0), (1, .int v1), (2, .int v2)] [] S D none S D' := by
  intro v0 v1 v2 D hp_v0 h
  rw [f_Handler_workEvents_L60] at h
  refine ob_aload d_Handler_workEvents_60 rfl ?_
  obtain ⟨hg33, h⟩ := ob_gd h
  refine ob_getR d_Handler_workEvents_61 F_11_3 l_Handler_31 hp_v0 hg33 (fun hk32 => ?_)
  refine ob_iload d_Handler_workEvents_64 rfl ?_
  refine ob_aload d_Handler_workEvents_65 rfl ?_
  obtain ⟨hg35, h⟩ := ob_gd h
  refine ob_getR d_Handler_workEvents_66 F_11_8 l_Handler_53 hp_v0 hg35 (fun hk34 => ?_)
  obtain ⟨x38, D36, h37, h⟩ := ob_bd_e h
  refine ob_callVi (As := [.int v2, .ref (D.2.1 v0 8)]) (rest := []) d_Handler_workEvents_69 c_Handler_workEvents_108 hk32 rfl rfl (Nat.le_of_ble_eq_true rfl) (c_Events_takeAction hk32 hk34 h37) ⟨Nat.le_refl _, Nat.le_refl _⟩ ⟨Nat.le_refl _, Nat.le_refl _⟩ ?_
  refine ob_if_eq d_Handler_workEvents_72 (fun hc => ?_) (fun hc => ?_)
  · replace h := ob_ift hc h
    refine ob_iinc (lo2 := [(0, .ref v0), (1, .int (v1 + (1 : Int32))), (2, .int v2)]) d_Handler_workEvents_79 rfl rfl ?_
    refine ob_goto d_Handler_workEvents_82 ?_
    refine ob_sub (lo2 := [(0, .ref v0), (1, .int (v1 + (1 : Int32)))]) [0, 1] rfl ?_
    exact hk2 v0 (v1 + (1 : Int32)) D36 hp_v0 h
  · replace h := ob_iff hc h
    refine ob_aload d_Handler_workEvents_75 rfl ?_
    obtain ⟨D39, h40, h⟩ := ob_bv_e h
    refine ob_callVv (As := []) (rest := []) d_Handler_workEvents_76 c_Handler_workEvents_74 hp_v0 rfl rfl (Nat.le_of_ble_eq_true rfl) (c_Handler_handle hp_v0 h40) ⟨Nat.le_refl _, Nat.le_refl _⟩ ⟨Nat.le_refl _, Nat.le_refl _⟩ ?_
    refine ob_iinc (lo2 := [(0, .ref v0), (1, .int (v1 + (1 : Int32))), (2, .int v2)]) d_Handler_workEvents_79 rfl rfl ?_
    refine ob_goto d_Handler_workEvents_82 ?_
    refine ob_sub (lo2 := [(0, .ref v0), (1, .int (v1 + (1 : Int32)))]) [0, 1] rfl ?_
    exact hk2 v0 (v1 + (1 : Int32)) D39 hp_v0 h
def f_Handler_workEvents_L2 (S : ob_S) : Nat → Nat → Int32 → ob_D → Option (ob_D)
  | 0, _, _, _ => none
  | n + 1, v0, v1, D => (if (64 : Int32) ≤ v1 then if D.2.1 v0 3 ≠ 0 then ob_bv (f_Events_loseRest S (D.2.1 v0 3) D) fun D3 => some D3 else none else if D.2.1 v0 3 ≠ 0 then if D.2.1 (D.2.1 v0 3) 0 ≠ 0 then (if (D.1 (D.2.1 (D.2.1 v0 3) 0) 2) ≤ 0 then if D.2.1 v0 3 ≠ 0 then ob_bv (f_Events_loseRest S (D.2.1 v0 3) D) fun D11 => some D11 else none else if D.2.1 v0 3 ≠ 0 then if D.2.1 (D.2.1 v0 3) 0 ≠ 0 then ob_bd (f_Ring_take S (D.2.1 (D.2.1 v0 3) 0) D) fun x19 D17 => if D17.2.1 v0 3 ≠ 0 then if D17.2.1 (D17.2.1 v0 3) 0 ≠ 0 then ob_bd (f_Ring_take S (D17.2.1 (D17.2.1 v0 3) 0) D17) fun x26 D24 => if D24.2.1 v0 3 ≠ 0 then ob_bd (f_Events_isTold S (D24.2.1 v0 3) x19 D24) fun x31 D29 => (if x31 = 0 then f_Handler_workEvents_L60 S (fun a0 a1 d => f_Handler_workEvents_L2 S n a0 a1 d) v0 v1 x19 D29 else ob_bv (f_Handler_sendEvent S v0 x19 x26 D29) fun D41 => f_Handler_workEvents_L60 S (fun a0 a1 d => f_Handler_workEvents_L2 S n a0 a1 d) v0 v1 x19 D41) else none else none else none else none else none) else none else none)
theorem v_Handler_workEvents_L2 {l : Launch} {E : ob_E} {S : ob_S} {D' : ob_D} : ∀ (n : Nat), ∀ (v0 : Nat) (v1 : Int32) (D : ob_D), S.1 v0 = 12 → f_Handler_workEvents_L2 S n v0 v1 D = some D' → ob_V l E k_Handler_workEvents 2 [(0, .ref v0), (1, .int v1)] [] S D none S D' := by
  intro n
  induction n with
  | zero =>
    intro v0 v1 D hp_v0 h
    have h : none = some D' := h
    cases h
  | succ n ih =>
    intro v0 v1 D hp_v0 h
    rw [f_Handler_workEvents_L2] at h
    refine ob_iload d_Handler_workEvents_2 rfl ?_
    refine ob_push d_Handler_workEvents_3 ?_
    refine ob_icmp_ge d_Handler_workEvents_5 (fun hc => ?_) (fun hc => ?_)
    · replace h := ob_ift hc h
      refine ob_aload d_Handler_workEvents_85 rfl ?_
      obtain ⟨hg2, h⟩ := ob_gd h
      refine ob_getR d_Handler_workEvents_86 F_11_3 l_Handler_31 hp_v0 hg2 (fun hk1 => ?_)
      obtain ⟨D3, h4, h⟩ := ob_bv_e h
      refine ob_callVv (As := []) (rest := []) d_Handler_workEvents_89 c_Handler_workEvents_112 hk1 rfl rfl (Nat.le_of_ble_eq_true rfl) (c_Events_loseRest hk1 h4) ⟨Nat.le_refl _, Nat.le_refl _⟩ ⟨Nat.le_refl _, Nat.le_refl _⟩ ?_
      exact ob_ve h (ob_vret d_Handler_workEvents_92 rfl)
    · replace h := ob_iff hc h
      refine ob_aload d_Handler_workEvents_8 rfl ?_
      obtain ⟨hg6, h⟩ := ob_gd h
      refine ob_getR d_Handler_workEvents_9 F_11_3 l_Handler_31 hp_v0 hg6 (fun hk5 => ?_)
      obtain ⟨hg8, h⟩ := ob_gd h
      refine ob_getR d_Handler_workEvents_12 F_6_0 l_Handler_88 hk5 hg8 (fun hk7 => ?_)
      refine ob_getI d_Handler_workEvents_15 F_2_2 l_Handler_92 hk7 ?_
      refine ob_if_le d_Handler_workEvents_18 (fun hc => ?_) (fun hc => ?_)
      · replace h := ob_ift hc h
        refine ob_aload d_Handler_workEvents_85 rfl ?_
        obtain ⟨hg10, h⟩ := ob_gd h
        refine ob_getR d_Handler_workEvents_86 F_11_3 l_Handler_31 hp_v0 hg10 (fun hk9 => ?_)
        obtain ⟨D11, h12, h⟩ := ob_bv_e h
        refine ob_callVv (As := []) (rest := []) d_Handler_workEvents_89 c_Handler_workEvents_112 hk9 rfl rfl (Nat.le_of_ble_eq_true rfl) (c_Events_loseRest hk9 h12) ⟨Nat.le_refl _, Nat.le_refl _⟩ ⟨Nat.le_refl _, Nat.le_refl _⟩ ?_
        exact ob_ve h (ob_vret d_Handler_workEvents_92 rfl)
      · replace h := ob_iff hc h
        refine ob_aload d_Handler_workEvents_21 rfl ?_
        obtain ⟨hg14, h⟩ := ob_gd h
        refine ob_getR d_Handler_workEvents_22 F_11_3 l_Handler_31 hp_v0 hg14 (fun hk13 => ?_)
        obtain ⟨hg16, h⟩ := ob_gd h
        refine ob_getR d_Handler_workEvents_25 F_6_0 l_Handler_88 hk13 hg16 (fun hk15 => ?_)
        obtain ⟨x19, D17, h18, h⟩ := ob_bd_e h
        refine ob_callVi (As := []) (rest := []) d_Handler_workEvents_28 c_Handler_workEvents_97 hk15 rfl rfl (Nat.le_of_ble_eq_true rfl) (c_Ring_take hk15 h18) ⟨Nat.le_refl _, Nat.le_refl _⟩ ⟨Nat.le_refl _, Nat.le_refl _⟩ ?_
        refine ob_istore (lo2 := [(0, .ref v0), (1, .int v1), (2, .int x19)]) d_Handler_workEvents_31 rfl ?_
        refine ob_aload d_Handler_workEvents_32 rfl ?_
        obtain ⟨hg21, h⟩ := ob_gd h
        refine ob_getR d_Handler_workEvents_33 F_11_3 l_Handler_31 hp_v0 hg21 (fun hk20 => ?_)
        obtain ⟨hg23, h⟩ := ob_gd h
        refine ob_getR d_Handler_workEvents_36 F_6_0 l_Handler_88 hk20 hg23 (fun hk22 => ?_)
        obtain ⟨x26, D24, h25, h⟩ := ob_bd_e h
        refine ob_callVi (As := []) (rest := []) d_Handler_workEvents_39 c_Handler_workEvents_97 hk22 rfl rfl (Nat.le_of_ble_eq_true rfl) (c_Ring_take hk22 h25) ⟨Nat.le_refl _, Nat.le_refl _⟩ ⟨Nat.le_refl _, Nat.le_refl _⟩ ?_
        refine ob_istore (lo2 := [(0, .ref v0), (1, .int v1), (2, .int x19), (3, .int x26)]) d_Handler_workEvents_42 rfl ?_
        refine ob_aload d_Handler_workEvents_43 rfl ?_
        obtain ⟨hg28, h⟩ := ob_gd h
        refine ob_getR d_Handler_workEvents_44 F_11_3 l_Handler_31 hp_v0 hg28 (fun hk27 => ?_)
        refine ob_iload d_Handler_workEvents_47 rfl ?_
        obtain ⟨x31, D29, h30, h⟩ := ob_bd_e h
        refine ob_callVi (As := [.int x19]) (rest := []) d_Handler_workEvents_48 c_Handler_workEvents_101 hk27 rfl rfl (Nat.le_of_ble_eq_true rfl) (c_Events_isTold hk27 h30) ⟨Nat.le_refl _, Nat.le_refl _⟩ ⟨Nat.le_refl _, Nat.le_refl _⟩ ?_
        refine ob_if_eq d_Handler_workEvents_51 (fun hc => ?_) (fun hc => ?_)
        · replace h := ob_ift hc h
          refine ob_sub (lo2 := [(0, .ref v0), (1, .int v1), (2, .int x19)]) [0, 1, 2] rfl ?_
          exact v_Handler_workEvents_L60 ih v0 v1 x19 D29 hp_v0 h
        · replace h := ob_iff hc h
          refine ob_aload d_Handler_workEvents_54 rfl ?_
          refine ob_iload d_Handler_workEvents_55 rfl ?_
          refine ob_iload d_Handler_workEvents_56 rfl ?_
          obtain ⟨D41, h42, h⟩ := ob_bv_e h
          refine ob_callVv (As := [.int x19, .int x26]) (rest := []) d_Handler_workEvents_57 c_Handler_workEvents_104 hp_v0 rfl rfl (Nat.le_of_ble_eq_true rfl) (c_Handler_sendEvent hp_v0 h42) ⟨Nat.le_refl _, Nat.le_refl _⟩ ⟨Nat.le_refl _, Nat.le_refl _⟩ ?_
          refine ob_sub (lo2 := [(0, .ref v0), (1, .int v1), (2, .int x19)]) [0, 1, 2] rfl ?_
          exact v_Handler_workEvents_L60 ih v0 v1 x19 D41 hp_v0 h
def f_Handler_workEvents (S : ob_S) (v0 : Nat) (D : ob_D) : Option (ob_D) :=
  f_Handler_workEvents_L2 S ob_FU v0 (0 : Int32) D
theorem c_Handler_workEvents {l : Launch} {E : ob_E} {S : ob_S} {D : ob_D} {v0 : Nat} {D' : ob_D} (hp_v0 : S.1 v0 = 12) (h : f_Handler_workEvents S v0 D = some D') : ob_M l E k_Handler_workEvents [.ref v0] S D none S D' := by
  refine ob_ofV (lo := [(0, .ref v0)]) (by decide) rfl (Nat.le_of_ble_eq_true rfl) rfl (Nat.le_refl _) (Nat.le_refl _) ?_
  rw [f_Handler_workEvents] at h
  refine ob_push d_Handler_workEvents_0 ?_
  refine ob_istore (lo2 := [(0, .ref v0), (1, .int (0 : Int32))]) d_Handler_workEvents_1 rfl ?_
  exact v_Handler_workEvents_L2 ob_FU v0 (0 : Int32) D hp_v0 h
-- OrbitBox$Handler.sendDueForms()V
theorem d_Handler_sendDueForms_0 : ob_dk k_Handler_sendDueForms 0 1 (0 : Int32) (.iconst 0) 1 := ⟨by decide +kernel, rfl, show Int32.ofInt 0 = (0 : Int32) by decide +kernel⟩
theorem d_Handler_sendDueForms_63 : ob_dc k_Handler_sendDueForms 63 (.return_) 1 64 := ⟨by decide +kernel, rfl⟩
theorem d_Handler_sendDueForms_18 : ob_dk k_Handler_sendDueForms 18 19 (2 : Int32) (.iconst 2) 1 := ⟨by decide +kernel, rfl, show Int32.ofInt 2 = (2 : Int32) by decide +kernel⟩
theorem d_Handler_sendDueForms_28 : ob_dk k_Handler_sendDueForms 28 29 (1 : Int32) (.iconst 1) 1 := ⟨by decide +kernel, rfl, show Int32.ofInt 1 = (1 : Int32) by decide +kernel⟩
theorem d_Handler_sendDueForms_32 : ob_dk k_Handler_sendDueForms 32 33 (1 : Int32) (.iconst 1) 1 := ⟨by decide +kernel, rfl, show Int32.ofInt 1 = (1 : Int32) by decide +kernel⟩
theorem d_Handler_sendDueForms_57 : ob_di k_Handler_sendDueForms 57 60 1 1 (1 : Int32) := ⟨by decide +kernel, rfl, by decide +kernel, by decide +kernel⟩
theorem d_Handler_sendDueForms_60 : ob_db k_Handler_sendDueForms 60 (.goto (-58)) (-58) 63 2 := ⟨by decide +kernel, rfl, by decide⟩
theorem d_Handler_sendDueForms_54 : ob_dc k_Handler_sendDueForms 54 (.invokevirtual 134) 3 57 := ⟨by decide +kernel, rfl⟩
theorem d_Handler_sendDueForms_53 : ob_dv ob_lc k_Handler_sendDueForms 53 54 1 (.iload_n 1) 1 := ⟨by decide +kernel, rfl, rfl⟩
theorem d_Handler_sendDueForms_52 : ob_dv ob_ac k_Handler_sendDueForms 52 53 0 (.aload_n 0) 1 := ⟨by decide +kernel, rfl, rfl⟩
theorem d_Handler_sendDueForms_49 : ob_db k_Handler_sendDueForms 49 (.ifCond .ne 8) 8 52 57 := ⟨by decide +kernel, rfl, by decide⟩
theorem d_Handler_sendDueForms_48 : ob_dc k_Handler_sendDueForms 48 (.irem) 1 49 := ⟨by decide +kernel, rfl⟩
theorem d_Handler_sendDueForms_47 : ob_dv ob_lc k_Handler_sendDueForms 47 48 2 (.iload_n 2) 1 := ⟨by decide +kernel, rfl, rfl⟩
theorem d_Handler_sendDueForms_44 : ob_dc k_Handler_sendDueForms 44 (.getfield 58) 3 47 := ⟨by decide +kernel, rfl⟩
theorem d_Handler_sendDueForms_41 : ob_dc k_Handler_sendDueForms 41 (.getfield 9) 3 44 := ⟨by decide +kernel, rfl⟩
theorem d_Handler_sendDueForms_40 : ob_dv ob_ac k_Handler_sendDueForms 40 41 0 (.aload_n 0) 1 := ⟨by decide +kernel, rfl, rfl⟩
theorem d_Handler_sendDueForms_37 : ob_db k_Handler_sendDueForms 37 (.ifCond .le 20) 20 40 57 := ⟨by decide +kernel, rfl, by decide⟩
theorem d_Handler_sendDueForms_36 : ob_dv ob_lc k_Handler_sendDueForms 36 37 2 (.iload_n 2) 1 := ⟨by decide +kernel, rfl, rfl⟩
theorem d_Handler_sendDueForms_33 : ob_db k_Handler_sendDueForms 33 (.if_icmp .ne 24) 24 36 57 := ⟨by decide +kernel, rfl, by decide⟩
theorem d_Handler_sendDueForms_29 : ob_dc k_Handler_sendDueForms 29 (.invokevirtual 130) 3 32 := ⟨by decide +kernel, rfl⟩
theorem d_Handler_sendDueForms_27 : ob_dv ob_lc k_Handler_sendDueForms 27 28 1 (.iload_n 1) 1 := ⟨by decide +kernel, rfl, rfl⟩
theorem d_Handler_sendDueForms_24 : ob_dc k_Handler_sendDueForms 24 (.getfield 37) 3 27 := ⟨by decide +kernel, rfl⟩
theorem d_Handler_sendDueForms_23 : ob_dv ob_ac k_Handler_sendDueForms 23 24 0 (.aload_n 0) 1 := ⟨by decide +kernel, rfl, rfl⟩
theorem d_Handler_sendDueForms_22 : ob_dv (ob_sc k_Handler_sendDueForms.2.2.2.1) k_Handler_sendDueForms 22 23 2 (.istore_n 2) 1 := ⟨by decide +kernel, rfl, ⟨rfl, by decide +kernel⟩⟩
theorem d_Handler_sendDueForms_19 : ob_dc k_Handler_sendDueForms 19 (.invokevirtual 130) 3 22 := ⟨by decide +kernel, rfl⟩
theorem d_Handler_sendDueForms_17 : ob_dv ob_lc k_Handler_sendDueForms 17 18 1 (.iload_n 1) 1 := ⟨by decide +kernel, rfl, rfl⟩
theorem d_Handler_sendDueForms_14 : ob_dc k_Handler_sendDueForms 14 (.getfield 37) 3 17 := ⟨by decide +kernel, rfl⟩
theorem d_Handler_sendDueForms_13 : ob_dv ob_ac k_Handler_sendDueForms 13 14 0 (.aload_n 0) 1 := ⟨by decide +kernel, rfl, rfl⟩
theorem d_Handler_sendDueForms_10 : ob_db k_Handler_sendDueForms 10 (.if_icmp .ge 53) 53 13 63 := ⟨by decide +kernel, rfl, by decide⟩
theorem d_Handler_sendDueForms_7 : ob_dc k_Handler_sendDueForms 7 (.getfield 127) 3 10 := ⟨by decide +kernel, rfl⟩
theorem d_Handler_sendDueForms_4 : ob_dc k_Handler_sendDueForms 4 (.getfield 37) 3 7 := ⟨by decide +kernel, rfl⟩
theorem d_Handler_sendDueForms_3 : ob_dv ob_ac k_Handler_sendDueForms 3 4 0 (.aload_n 0) 1 := ⟨by decide +kernel, rfl, rfl⟩
theorem d_Handler_sendDueForms_2 : ob_dv ob_lc k_Handler_sendDueForms 2 3 1 (.iload_n 1) 1 := ⟨by decide +kernel, rfl, rfl⟩
theorem d_Handler_sendDueForms_1 : ob_dv (ob_sc k_Handler_sendDueForms.2.2.2.1) k_Handler_sendDueForms 1 2 1 (.istore_n 1) 1 := ⟨by decide +kernel, rfl, ⟨rfl, by decide +kernel⟩⟩
theorem c_Handler_sendDueForms_134 : ob_vd k_Handler_sendDueForms k_Handler_sendForm 134 1 11 := ⟨cw_Handler_sendForm, yd_Handler_sendForm, w_758, w_760, wp_28, w_13, ⟨_, _, rfl⟩, by decide, by decide⟩
theorem c_Handler_sendDueForms_130 : ob_vd k_Handler_sendDueForms k_Table_get 130 2 7 := ⟨cw_Table_get, yd_Table_get, w_683, w_684, w_685, w_9, ⟨_, _, rfl⟩, by decide, by decide⟩
def f_Handler_sendDueForms_L2 (S : ob_S) : Nat → Nat → Int32 → ob_D → Option (ob_D)
  | 0, _, _, _ => none
  | n + 1, v0, v1, D => if D.2.1 v0 5 ≠ 0 then (if (D.1 (D.2.1 v0 5) 3) ≤ v1 then some D else if D.2.1 v0 5 ≠ 0 then ob_bd (f_Table_get S (D.2.1 v0 5) v1 (2 : Int32) D) fun x7 D5 => if D5.2.1 v0 5 ≠ 0 then ob_bd (f_Table_get S (D5.2.1 v0 5) v1 (1 : Int32) D5) fun x12 D10 => (if x12 = (1 : Int32) then (if x7 ≤ 0 then f_Handler_sendDueForms_L2 S n v0 (v1 + (1 : Int32)) D10 else if D10.2.1 v0 0 ≠ 0 then if ¬ x7 = 0 then (if ((D10.1 (D10.2.1 v0 0) 8) - (D10.1 (D10.2.1 v0 0) 8) / x7 * x7) = 0 then ob_bv (f_Handler_sendForm S v0 v1 D10) fun D15 => f_Handler_sendDueForms_L2 S n v0 (v1 + (1 : Int32)) D15 else f_Handler_sendDueForms_L2 S n v0 (v1 + (1 : Int32)) D10) else none else none) else f_Handler_sendDueForms_L2 S n v0 (v1 + (1 : Int32)) D10) else none else none) else none
theorem v_Handler_sendDueForms_L2 {l : Launch} {E : ob_E} {S : ob_S} {D' : ob_D} : ∀ (n : Nat), ∀ (v0 : Nat) (v1 : Int32) (D : ob_D), S.1 v0 = 12 → f_Handler_sendDueForms_L2 S n v0 v1 D = some D' → ob_V l E k_Handler_sendDueForms 2 [(0, .ref v0), (1, .int v1)] [] S D none S D' := by
  intro n
  induction n with
  | zero =>
    intro v0 v1 D hp_v0 h
    have h : none = some D' := h
    cases h
  | succ n ih =>
    intro v0 v1 D hp_v0 h
    rw [f_Handler_sendDueForms_L2] at h
    refine ob_iload d_Handler_sendDueForms_2 rfl ?_
    refine ob_aload d_Handler_sendDueForms_3 rfl ?_
    obtain ⟨hg2, h⟩ := ob_gd h
    refine ob_getR d_Handler_sendDueForms_4 F_11_5 l_Handler_37 hp_v0 hg2 (fun hk1 => ?_)
    refine ob_getI d_Handler_sendDueForms_7 F_7_3 l_Handler_127 hk1 ?_
    refine ob_icmp_ge d_Handler_sendDueForms_10 (fun hc => ?_) (fun hc => ?_)
    · replace h := ob_ift hc h
      exact ob_ve h (ob_vret d_Handler_sendDueForms_63 rfl)
    · replace h := ob_iff hc h
      refine ob_aload d_Handler_sendDueForms_13 rfl ?_
      obtain ⟨hg4, h⟩ := ob_gd h
      refine ob_getR d_Handler_sendDueForms_14 F_11_5 l_Handler_37 hp_v0 hg4 (fun hk3 => ?_)
      refine ob_iload d_Handler_sendDueForms_17 rfl ?_
      refine ob_push d_Handler_sendDueForms_18 ?_
      obtain ⟨x7, D5, h6, h⟩ := ob_bd_e h
      refine ob_callVi (As := [.int v1, .int (2 : Int32)]) (rest := []) d_Handler_sendDueForms_19 c_Handler_sendDueForms_130 hk3 rfl rfl (Nat.le_of_ble_eq_true rfl) (c_Table_get hk3 h6) ⟨Nat.le_refl _, Nat.le_refl _⟩ ⟨Nat.le_refl _, Nat.le_refl _⟩ ?_
      refine ob_istore (lo2 := [(0, .ref v0), (1, .int v1), (2, .int x7)]) d_Handler_sendDueForms_22 rfl ?_
      refine ob_aload d_Handler_sendDueForms_23 rfl ?_
      obtain ⟨hg9, h⟩ := ob_gd h
      refine ob_getR d_Handler_sendDueForms_24 F_11_5 l_Handler_37 hp_v0 hg9 (fun hk8 => ?_)
      refine ob_iload d_Handler_sendDueForms_27 rfl ?_
      refine ob_push d_Handler_sendDueForms_28 ?_
      obtain ⟨x12, D10, h11, h⟩ := ob_bd_e h
      refine ob_callVi (As := [.int v1, .int (1 : Int32)]) (rest := []) d_Handler_sendDueForms_29 c_Handler_sendDueForms_130 hk8 rfl rfl (Nat.le_of_ble_eq_true rfl) (c_Table_get hk8 h11) ⟨Nat.le_refl _, Nat.le_refl _⟩ ⟨Nat.le_refl _, Nat.le_refl _⟩ ?_
      refine ob_push d_Handler_sendDueForms_32 ?_
      refine ob_icmp_ne d_Handler_sendDueForms_33 (fun hc => ?_) (fun hc => ?_)
      · replace h := ob_iff hc h
        refine ob_iinc (lo2 := [(0, .ref v0), (1, .int (v1 + (1 : Int32))), (2, .int x7)]) d_Handler_sendDueForms_57 rfl rfl ?_
        refine ob_goto d_Handler_sendDueForms_60 ?_
        refine ob_sub (lo2 := [(0, .ref v0), (1, .int (v1 + (1 : Int32)))]) [0, 1] rfl ?_
        exact ih v0 (v1 + (1 : Int32)) D10 hp_v0 h
      · replace h := ob_ift hc h
        refine ob_iload d_Handler_sendDueForms_36 rfl ?_
        refine ob_if_le d_Handler_sendDueForms_37 (fun hc => ?_) (fun hc => ?_)
        · replace h := ob_ift hc h
          refine ob_iinc (lo2 := [(0, .ref v0), (1, .int (v1 + (1 : Int32))), (2, .int x7)]) d_Handler_sendDueForms_57 rfl rfl ?_
          refine ob_goto d_Handler_sendDueForms_60 ?_
          refine ob_sub (lo2 := [(0, .ref v0), (1, .int (v1 + (1 : Int32)))]) [0, 1] rfl ?_
          exact ih v0 (v1 + (1 : Int32)) D10 hp_v0 h
        · replace h := ob_iff hc h
          refine ob_aload d_Handler_sendDueForms_40 rfl ?_
          obtain ⟨hg14, h⟩ := ob_gd h
          refine ob_getR d_Handler_sendDueForms_41 F_11_0 l_Handler_9 hp_v0 hg14 (fun hk13 => ?_)
          refine ob_getI d_Handler_sendDueForms_44 F_10_8 l_Handler_58 hk13 ?_
          refine ob_iload d_Handler_sendDueForms_47 rfl ?_
          obtain ⟨hg17, h⟩ := ob_gd h
          refine ob_irem d_Handler_sendDueForms_48 hg17 ?_
          refine ob_if_ne d_Handler_sendDueForms_49 (fun hc => ?_) (fun hc => ?_)
          · replace h := ob_iff hc h
            refine ob_iinc (lo2 := [(0, .ref v0), (1, .int (v1 + (1 : Int32))), (2, .int x7)]) d_Handler_sendDueForms_57 rfl rfl ?_
            refine ob_goto d_Handler_sendDueForms_60 ?_
            refine ob_sub (lo2 := [(0, .ref v0), (1, .int (v1 + (1 : Int32)))]) [0, 1] rfl ?_
            exact ih v0 (v1 + (1 : Int32)) D10 hp_v0 h
          · replace h := ob_ift hc h
            refine ob_aload d_Handler_sendDueForms_52 rfl ?_
            refine ob_iload d_Handler_sendDueForms_53 rfl ?_
            obtain ⟨D15, h16, h⟩ := ob_bv_e h
            refine ob_callVv (As := [.int v1]) (rest := []) d_Handler_sendDueForms_54 c_Handler_sendDueForms_134 hp_v0 rfl rfl (Nat.le_of_ble_eq_true rfl) (c_Handler_sendForm hp_v0 h16) ⟨Nat.le_refl _, Nat.le_refl _⟩ ⟨Nat.le_refl _, Nat.le_refl _⟩ ?_
            refine ob_iinc (lo2 := [(0, .ref v0), (1, .int (v1 + (1 : Int32))), (2, .int x7)]) d_Handler_sendDueForms_57 rfl rfl ?_
            refine ob_goto d_Handler_sendDueForms_60 ?_
            refine ob_sub (lo2 := [(0, .ref v0), (1, .int (v1 + (1 : Int32)))]) [0, 1] rfl ?_
            exact ih v0 (v1 + (1 : Int32)) D15 hp_v0 h
def f_Handler_sendDueForms (S : ob_S) (v0 : Nat) (D : ob_D) : Option (ob_D) :=
  f_Handler_sendDueForms_L2 S ob_FU v0 (0 : Int32) D
theorem c_Handler_sendDueForms {l : Launch} {E : ob_E} {S : ob_S} {D : ob_D} {v0 : Nat} {D' : ob_D} (hp_v0 : S.1 v0 = 12) (h : f_Handler_sendDueForms S v0 D = some D') : ob_M l E k_Handler_sendDueForms [.ref v0] S D none S D' := by
  refine ob_ofV (lo := [(0, .ref v0)]) (by decide) rfl (Nat.le_of_ble_eq_true rfl) rfl (Nat.le_refl _) (Nat.le_refl _) ?_
  rw [f_Handler_sendDueForms] at h
  refine ob_push d_Handler_sendDueForms_0 ?_
  refine ob_istore (lo2 := [(0, .ref v0), (1, .int (0 : Int32))]) d_Handler_sendDueForms_1 rfl ?_
  exact v_Handler_sendDueForms_L2 ob_FU v0 (0 : Int32) D hp_v0 h
