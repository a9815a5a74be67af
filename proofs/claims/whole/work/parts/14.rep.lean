-- OrbitBox$Downlink.<init>(II)V
theorem d_Downlink_init_0 : ob_dv ob_ac k_Downlink_init 0 1 0 (.aload_n 0) 1 := ⟨by decide +kernel, rfl, rfl⟩
theorem d_Downlink_init_1 : ob_dc k_Downlink_init 1 (.invokespecial 3) 3 4 := ⟨by decide +kernel, rfl⟩
theorem d_Downlink_init_4 : ob_dv ob_ac k_Downlink_init 4 5 0 (.aload_n 0) 1 := ⟨by decide +kernel, rfl, rfl⟩
theorem d_Downlink_init_5 : ob_dv ob_lc k_Downlink_init 5 6 1 (.iload_n 1) 1 := ⟨by decide +kernel, rfl, rfl⟩
theorem d_Downlink_init_6 : ob_dc k_Downlink_init 6 (.putfield 9) 3 9 := ⟨by decide +kernel, rfl⟩
theorem d_Downlink_init_9 : ob_dv ob_ac k_Downlink_init 9 10 0 (.aload_n 0) 1 := ⟨by decide +kernel, rfl, rfl⟩
theorem d_Downlink_init_10 : ob_dc k_Downlink_init 10 (.new 15) 3 13 := ⟨by decide +kernel, rfl⟩
theorem d_Downlink_init_13 : ob_dc k_Downlink_init 13 (.dup) 1 14 := ⟨by decide +kernel, rfl⟩
theorem d_Downlink_init_14 : ob_dk k_Downlink_init 14 17 (4096 : Int32) (.sipush 4096) 3 := ⟨by decide +kernel, rfl, show (Int16.ofInt 4096).toInt32 = (4096 : Int32) by decide +kernel⟩
theorem d_Downlink_init_17 : ob_dc k_Downlink_init 17 (.invokespecial 17) 3 20 := ⟨by decide +kernel, rfl⟩
theorem d_Downlink_init_20 : ob_dc k_Downlink_init 20 (.putfield 20) 3 23 := ⟨by decide +kernel, rfl⟩
theorem d_Downlink_init_23 : ob_dv ob_ac k_Downlink_init 23 24 0 (.aload_n 0) 1 := ⟨by decide +kernel, rfl, rfl⟩
theorem d_Downlink_init_24 : ob_dc k_Downlink_init 24 (.new 15) 3 27 := ⟨by decide +kernel, rfl⟩
theorem d_Downlink_init_27 : ob_dc k_Downlink_init 27 (.dup) 1 28 := ⟨by decide +kernel, rfl⟩
theorem d_Downlink_init_28 : ob_dk k_Downlink_init 28 31 (4096 : Int32) (.sipush 4096) 3 := ⟨by decide +kernel, rfl, show (Int16.ofInt 4096).toInt32 = (4096 : Int32) by decide +kernel⟩
theorem d_Downlink_init_31 : ob_dc k_Downlink_init 31 (.invokespecial 17) 3 34 := ⟨by decide +kernel, rfl⟩
theorem d_Downlink_init_34 : ob_dc k_Downlink_init 34 (.putfield 24) 3 37 := ⟨by decide +kernel, rfl⟩
theorem d_Downlink_init_37 : ob_dv ob_ac k_Downlink_init 37 38 0 (.aload_n 0) 1 := ⟨by decide +kernel, rfl, rfl⟩
theorem d_Downlink_init_38 : ob_dk k_Downlink_init 38 40 (8 : Int32) (.bipush 8) 2 := ⟨by decide +kernel, rfl, show (Int8.ofInt 8).toInt32 = (8 : Int32) by decide +kernel⟩
theorem d_Downlink_init_40 : ob_dc k_Downlink_init 40 (.newarray .int) 2 42 := ⟨by decide +kernel, rfl⟩
theorem d_Downlink_init_42 : ob_dc k_Downlink_init 42 (.putfield 27) 3 45 := ⟨by decide +kernel, rfl⟩
theorem d_Downlink_init_45 : ob_dv ob_ac k_Downlink_init 45 46 0 (.aload_n 0) 1 := ⟨by decide +kernel, rfl, rfl⟩
theorem d_Downlink_init_46 : ob_dv ob_lc k_Downlink_init 46 47 2 (.iload_n 2) 1 := ⟨by decide +kernel, rfl, rfl⟩
theorem d_Downlink_init_47 : ob_dc k_Downlink_init 47 (.anewarray 31) 3 50 := ⟨by decide +kernel, rfl⟩
theorem d_Downlink_init_50 : ob_dc k_Downlink_init 50 (.putfield 33) 3 53 := ⟨by decide +kernel, rfl⟩
theorem d_Downlink_init_53 : ob_dk k_Downlink_init 53 54 (0 : Int32) (.iconst 0) 1 := ⟨by decide +kernel, rfl, show Int32.ofInt 0 = (0 : Int32) by decide +kernel⟩
theorem d_Downlink_init_54 : ob_dv (ob_sc k_Downlink_init.2.2.2.1) k_Downlink_init 54 55 3 (.istore_n 3) 1 := ⟨by decide +kernel, rfl, ⟨rfl, by decide +kernel⟩⟩
theorem d_Downlink_init_55 : ob_dv ob_lc k_Downlink_init 55 56 3 (.iload_n 3) 1 := ⟨by decide +kernel, rfl, rfl⟩
theorem d_Downlink_init_56 : ob_dv ob_lc k_Downlink_init 56 57 2 (.iload_n 2) 1 := ⟨by decide +kernel, rfl, rfl⟩
theorem d_Downlink_init_80 : ob_dc k_Downlink_init 80 (.return_) 1 81 := ⟨by decide +kernel, rfl⟩
theorem d_Downlink_init_60 : ob_dv ob_ac k_Downlink_init 60 61 0 (.aload_n 0) 1 := ⟨by decide +kernel, rfl, rfl⟩
theorem d_Downlink_init_61 : ob_dc k_Downlink_init 61 (.getfield 33) 3 64 := ⟨by decide +kernel, rfl⟩
theorem d_Downlink_init_64 : ob_dv ob_lc k_Downlink_init 64 65 3 (.iload_n 3) 1 := ⟨by decide +kernel, rfl, rfl⟩
theorem d_Downlink_init_65 : ob_dc k_Downlink_init 65 (.new 31) 3 68 := ⟨by decide +kernel, rfl⟩
theorem d_Downlink_init_68 : ob_dc k_Downlink_init 68 (.dup) 1 69 := ⟨by decide +kernel, rfl⟩
theorem d_Downlink_init_69 : ob_dv ob_lc k_Downlink_init 69 70 1 (.iload_n 1) 1 := ⟨by decide +kernel, rfl, rfl⟩
theorem d_Downlink_init_70 : ob_dc k_Downlink_init 70 (.invokespecial 37) 3 73 := ⟨by decide +kernel, rfl⟩
theorem d_Downlink_init_73 : ob_dc k_Downlink_init 73 (.aastore) 1 74 := ⟨by decide +kernel, rfl⟩
theorem d_Downlink_init_74 : ob_di k_Downlink_init 74 77 3 1 (1 : Int32) := ⟨by decide +kernel, rfl, by decide +kernel, by decide +kernel⟩
theorem d_Downlink_init_77 : ob_db k_Downlink_init 77 (.goto (-22)) (-22) 80 55 := ⟨by decide +kernel, rfl, by decide⟩
theorem d_Downlink_init_57 : ob_db k_Downlink_init 57 (.if_icmp .ge 23) 23 60 80 := ⟨by decide +kernel, rfl, by decide⟩
theorem c_Downlink_init_17 : ob_id k_Downlink_init k_Ring_init 17 1 := ⟨cw_Ring_init, yd_Ring_init, w_251, w_175, w_8, ⟨by decide, by decide⟩, rfl, rfl⟩
theorem c_Downlink_init_37 : ob_id k_Downlink_init k_Row_init 37 1 := ⟨cw_Row_init, yd_Row_init, w_253, w_32, w_2, ⟨by decide, by decide⟩, rfl, rfl⟩
def f_Downlink_init_L55 : Nat → Nat → Int32 → Int32 → Int32 → ob_S → ob_D → Option (ob_S × ob_D)
  | 0, _, _, _, _, _, _ => none
  | n + 1, v0, v1, v2, v3, S, D => (if v2 ≤ v3 then some (S, D) else ob_gt (D.2.1 v0 2 ≠ 0) <| ob_lt (ob_new S 2 0 2) fun S51 => ob_lt (ob_z D S.2.2.1) fun D52 => ob_bd (f_Row_init (S.2.2.1) v1 S51 D52) fun S58 D59 => ob_gt (ob_in v3 (S58.2.1 (D.2.1 v0 2))) <| ob_lt (ob_pR D59 (D.2.1 v0 2) v3.toNatClampNeg (S.2.2.1)) fun D65 => f_Downlink_init_L55 n v0 v1 v2 (v3 + (1 : Int32)) S58 D65)
theorem e_Downlink_init_L55 {T : ob_S} {D' : ob_D} : ∀ (n : Nat) (v0 : Nat) (v1 : Int32) (v2 : Int32) (v3 : Int32) (S : ob_S) (D : ob_D), f_Downlink_init_L55 n v0 v1 v2 v3 S D = some (T, D') → ob_ext S T := by
  intro n
  induction n with
  | zero =>
    intro v0 v1 v2 v3 S D h
    have h : none = some (T, D') := h
    cases h
  | succ n ih =>
    intro v0 v1 v2 v3 S D h
    rw [f_Downlink_init_L55] at h
    by_cases hc : v2 ≤ v3
    · replace h := ob_ift hc h
      obtain ⟨he1, he2⟩ := ob_pe h
      have x_S : ob_ext S T := ob_ext_eq he1
      exact x_S
    · replace h := ob_iff hc h
      obtain ⟨hg47, h⟩ := ob_gt_e h
      obtain ⟨S51, hS53, h⟩ := ob_lt_x h
      obtain ⟨D52, hD54, h⟩ := ob_lt_x h
      obtain ⟨S58, D59, h60, h⟩ := ob_bd_e h
      obtain ⟨hg64, h⟩ := ob_gt_e h
      obtain ⟨D65, hD66, h⟩ := ob_lt_x h
      have x_S58 : ob_ext S58 T := ih v0 v1 v2 (v3 + (1 : Int32)) S58 D65 h
      have x_S51 : ob_ext S51 T := (e_Row_init h60).tr x_S58
      have x_S : ob_ext S T := (ob_ext_new hS53).tr x_S51
      exact x_S
theorem v_Downlink_init_L55 {l : Launch} {E : ob_E} {T : ob_S} {D' : ob_D} : ∀ (n : Nat) (v0 : Nat) (v1 : Int32) (v2 : Int32) (v3 : Int32) (S : ob_S) (D : ob_D), S.1 v0 = 10 → f_Downlink_init_L55 n v0 v1 v2 v3 S D = some (T, D') → ob_V l E k_Downlink_init 55 [(0, .ref v0), (1, .int v1), (2, .int v2), (3, .int v3)] [] S D none T D' := by
  intro n
  induction n with
  | zero =>
    intro v0 v1 v2 v3 S D hp_v0 h
    have h : none = some (T, D') := h
    cases h
  | succ n ih =>
    have ex := fun v0 v1 v2 v3 S D => @e_Downlink_init_L55 T D' n v0 v1 v2 v3 S D
    intro v0 v1 v2 v3 S D hp_v0 h
    rw [f_Downlink_init_L55] at h
    refine ob_withH fun H0 hH0 => ?_
    have kd_v0 := ob_kdH hH0 hp_v0
    refine ob_iload d_Downlink_init_55 rfl ?_
    refine ob_iload d_Downlink_init_56 rfl ?_
    refine ob_icmp_ge d_Downlink_init_57 (fun hc => ?_) (fun hc => ?_)
    · replace h := ob_ift hc h
      obtain ⟨he1, he2⟩ := ob_pe h
      have x_S : ob_ext S T := ob_ext_eq he1
      exact ob_vee he1 he2 (ob_vret d_Downlink_init_80 rfl)
    · replace h := ob_iff hc h
      obtain ⟨hg47, h⟩ := ob_gt_e h
      obtain ⟨S51, hS53, h⟩ := ob_lt_x h
      obtain ⟨D52, hD54, h⟩ := ob_lt_x h
      obtain ⟨S58, D59, h60, h⟩ := ob_bd_e h
      obtain ⟨hg64, h⟩ := ob_gt_e h
      obtain ⟨D65, hD66, h⟩ := ob_lt_x h
      have x_S58 : ob_ext S58 T := ex v0 v1 v2 (v3 + (1 : Int32)) S58 D65 h
      have x_S51 : ob_ext S51 T := (e_Row_init h60).tr x_S58
      have x_S : ob_ext S T := (ob_ext_new hS53).tr x_S51
      refine ob_aload d_Downlink_init_60 rfl ?_
      refine ob_getR d_Downlink_init_61 F_9_2 l_Downlink_33 kd_v0.1 hg47 (fun hk48 => ?_)
      refine ob_withH fun H49 hH49 => ?_
      have hk50 := ob_kdH hH49 hk48
      refine ob_iload d_Downlink_init_64 rfl ?_
      refine ob_newO d_Downlink_init_65 N_1 w_252 hS53 hD54 x_S51 ?_
      have hk55 := ob_kd_new hS53 kd_v0
      have hk56 := ob_kd_new hS53 hk50
      have hk57 : ob_kd S51 S.2.2.1 2 := ob_kd_this hS53 (by decide)
      refine ob_dup d_Downlink_init_68 rfl ?_
      refine ob_iload d_Downlink_init_69 rfl ?_
      refine ob_callI (As := [.int v1]) (rest := [.ref (S.2.2.1), .int v3, .ref (D.2.1 v0 2)]) d_Downlink_init_70 c_Downlink_init_37 rfl rfl (Nat.le_of_ble_eq_true rfl) (c_Row_init hk57.1 h60) (ob_ext_m (e_Row_init h60)) (ob_ext_m x_S58) ?_
      have hk61 := ob_kd_ext (e_Row_init h60) hk55
      have hk62 := ob_kd_ext (e_Row_init h60) hk57
      have hk63 := ob_kd_ext (e_Row_init h60) hk56
      refine ob_xI hD66 (ob_aast d_Downlink_init_73 hk63.1 hk62.1 hg64) ?_
      refine ob_iinc (lo2 := [(0, .ref v0), (1, .int v1), (2, .int v2), (3, .int (v3 + (1 : Int32)))]) d_Downlink_init_74 rfl rfl ?_
      refine ob_goto d_Downlink_init_77 ?_
      exact ih v0 v1 v2 (v3 + (1 : Int32)) S58 D65 hk61.1 h
def f_Downlink_init (v0 : Nat) (v1 : Int32) (v2 : Int32) (S : ob_S) (D : ob_D) : Option (ob_S × ob_D) :=
  ob_lt (ob_pI D v0 3 v1) fun D1 => ob_lt (ob_new S 3 0 3) fun S3 => ob_lt (ob_z D1 S.2.2.1) fun D4 => ob_bd (f_Ring_init (S.2.2.1) (4096 : Int32) S3 D4) fun S9 D10 => ob_lt (ob_pR D10 v0 0 (S.2.2.1)) fun D14 => ob_lt (ob_new S9 3 0 3) fun S16 => ob_lt (ob_z D14 S9.2.2.1) fun D17 => ob_bd (f_Ring_init (S9.2.2.1) (4096 : Int32) S16 D17) fun S22 D23 => ob_lt (ob_pR D23 v0 1 (S9.2.2.1)) fun D27 => ob_gt (¬ (8 : Int32) < 0 ∧ (8 : Int32).toNatClampNeg ≤ 67108864) <| ob_lt (ob_new S22 20 (8 : Int32).toNatClampNeg (8 : Int32).toNatClampNeg) fun S29 => ob_lt (ob_z D27 S22.2.2.1) fun D30 => ob_lt (ob_pR D30 v0 4 (S22.2.2.1)) fun D36 => ob_gt (¬ v2 < 0 ∧ v2.toNatClampNeg ≤ 67108864) <| ob_lt (ob_new S29 24 v2.toNatClampNeg v2.toNatClampNeg) fun S38 => ob_lt (ob_z D36 S29.2.2.1) fun D39 => ob_lt (ob_pR D39 v0 2 (S29.2.2.1)) fun D45 => f_Downlink_init_L55 ob_FU v0 v1 v2 (0 : Int32) S38 D45
theorem e_Downlink_init {v0 : Nat} {v1 : Int32} {v2 : Int32} {S T : ob_S} {D D' : ob_D} (h : f_Downlink_init v0 v1 v2 S D = some (T, D')) : ob_ext S T := by
  rw [f_Downlink_init] at h
  obtain ⟨D1, hD2, h⟩ := ob_lt_x h
  obtain ⟨S3, hS5, h⟩ := ob_lt_x h
  obtain ⟨D4, hD6, h⟩ := ob_lt_x h
  obtain ⟨S9, D10, h11, h⟩ := ob_bd_e h
  obtain ⟨D14, hD15, h⟩ := ob_lt_x h
  obtain ⟨S16, hS18, h⟩ := ob_lt_x h
  obtain ⟨D17, hD19, h⟩ := ob_lt_x h
  obtain ⟨S22, D23, h24, h⟩ := ob_bd_e h
  obtain ⟨D27, hD28, h⟩ := ob_lt_x h
  obtain ⟨hg33, h⟩ := ob_gt_e h
  obtain ⟨S29, hS31, h⟩ := ob_lt_x h
  obtain ⟨D30, hD32, h⟩ := ob_lt_x h
  obtain ⟨D36, hD37, h⟩ := ob_lt_x h
  obtain ⟨hg42, h⟩ := ob_gt_e h
  obtain ⟨S38, hS40, h⟩ := ob_lt_x h
  obtain ⟨D39, hD41, h⟩ := ob_lt_x h
  obtain ⟨D45, hD46, h⟩ := ob_lt_x h
  have x_S38 : ob_ext S38 T := e_Downlink_init_L55 ob_FU v0 v1 v2 (0 : Int32) S38 D45 h
  have x_S29 : ob_ext S29 T := (ob_ext_new hS40).tr x_S38
  have x_S22 : ob_ext S22 T := (ob_ext_new hS31).tr x_S29
  have x_S16 : ob_ext S16 T := (e_Ring_init h24).tr x_S22
  have x_S9 : ob_ext S9 T := (ob_ext_new hS18).tr x_S16
  have x_S3 : ob_ext S3 T := (e_Ring_init h11).tr x_S9
  have x_S : ob_ext S T := (ob_ext_new hS5).tr x_S3
  exact x_S
theorem c_Downlink_init {l : Launch} {E : ob_E} {S T : ob_S} {D D' : ob_D} {v0 : Nat} {v1 : Int32} {v2 : Int32} (hp_v0 : S.1 v0 = 10) (h : f_Downlink_init v0 v1 v2 S D = some (T, D')) : ob_M l E k_Downlink_init [.ref v0, .int v1, .int v2] S D none T D' := by
  have xx := e_Downlink_init h
  refine ob_ofV (lo := [(0, .ref v0), (1, .int v1), (2, .int v2)]) (by decide) rfl (Nat.le_of_ble_eq_true rfl) rfl xx.1 xx.2.1 ?_
  rw [f_Downlink_init] at h
  refine ob_withH fun H0 hH0 => ?_
  have kd_v0 := ob_kdH hH0 hp_v0
  obtain ⟨D1, hD2, h⟩ := ob_lt_x h
  obtain ⟨S3, hS5, h⟩ := ob_lt_x h
  obtain ⟨D4, hD6, h⟩ := ob_lt_x h
  obtain ⟨S9, D10, h11, h⟩ := ob_bd_e h
  obtain ⟨D14, hD15, h⟩ := ob_lt_x h
  obtain ⟨S16, hS18, h⟩ := ob_lt_x h
  obtain ⟨D17, hD19, h⟩ := ob_lt_x h
  obtain ⟨S22, D23, h24, h⟩ := ob_bd_e h
  obtain ⟨D27, hD28, h⟩ := ob_lt_x h
  obtain ⟨hg33, h⟩ := ob_gt_e h
  obtain ⟨S29, hS31, h⟩ := ob_lt_x h
  obtain ⟨D30, hD32, h⟩ := ob_lt_x h
  obtain ⟨D36, hD37, h⟩ := ob_lt_x h
  obtain ⟨hg42, h⟩ := ob_gt_e h
  obtain ⟨S38, hS40, h⟩ := ob_lt_x h
  obtain ⟨D39, hD41, h⟩ := ob_lt_x h
  obtain ⟨D45, hD46, h⟩ := ob_lt_x h
  have x_S38 : ob_ext S38 T := e_Downlink_init_L55 ob_FU v0 v1 v2 (0 : Int32) S38 D45 h
  have x_S29 : ob_ext S29 T := (ob_ext_new hS40).tr x_S38
  have x_S22 : ob_ext S22 T := (ob_ext_new hS31).tr x_S29
  have x_S16 : ob_ext S16 T := (e_Ring_init h24).tr x_S22
  have x_S9 : ob_ext S9 T := (ob_ext_new hS18).tr x_S16
  have x_S3 : ob_ext S3 T := (e_Ring_init h11).tr x_S9
  have x_S : ob_ext S T := (ob_ext_new hS5).tr x_S3
  refine ob_aload d_Downlink_init_0 rfl ?_
  refine ob_objI d_Downlink_init_1 w_249 w_27 w_28 (by decide) (Nat.le_of_ble_eq_true rfl) ?_
  refine ob_aload d_Downlink_init_4 rfl ?_
  refine ob_iload d_Downlink_init_5 rfl ?_
  refine ob_xI hD2 (ob_putFI d_Downlink_init_6 F_9_3 w_260 ⟨rfl, rfl⟩ kd_v0.1) ?_
  refine ob_aload d_Downlink_init_9 rfl ?_
  refine ob_newO d_Downlink_init_10 N_2 w_250 hS5 hD6 x_S3 ?_
  have hk7 := ob_kd_new hS5 kd_v0
  have hk8 : ob_kd S3 S.2.2.1 3 := ob_kd_this hS5 (by decide)
  refine ob_dup d_Downlink_init_13 rfl ?_
  refine ob_push d_Downlink_init_14 ?_
  refine ob_callI (As := [.int (4096 : Int32)]) (rest := [.ref (S.2.2.1), .ref v0]) d_Downlink_init_17 c_Downlink_init_17 rfl rfl (Nat.le_of_ble_eq_true rfl) (c_Ring_init hk8.1 h11) (ob_ext_m (e_Ring_init h11)) (ob_ext_m x_S9) ?_
  have hk12 := ob_kd_ext (e_Ring_init h11) hk7
  have hk13 := ob_kd_ext (e_Ring_init h11) hk8
  refine ob_xI hD15 (ob_putFR d_Downlink_init_20 F_9_0 w_254 ⟨rfl, rfl⟩ (fty := (.object "OrbitBox$Ring")) (by decide) rfl rfl hk12.1 hk13.1) ?_
  refine ob_aload d_Downlink_init_23 rfl ?_
  refine ob_newO d_Downlink_init_24 N_2 w_250 hS18 hD19 x_S16 ?_
  have hk20 := ob_kd_new hS18 hk12
  have hk21 : ob_kd S16 S9.2.2.1 3 := ob_kd_this hS18 (by decide)
  refine ob_dup d_Downlink_init_27 rfl ?_
  refine ob_push d_Downlink_init_28 ?_
  refine ob_callI (As := [.int (4096 : Int32)]) (rest := [.ref (S9.2.2.1), .ref v0]) d_Downlink_init_31 c_Downlink_init_17 rfl rfl (Nat.le_of_ble_eq_true rfl) (c_Ring_init hk21.1 h24) (ob_ext_m (e_Ring_init h24)) (ob_ext_m x_S22) ?_
  have hk25 := ob_kd_ext (e_Ring_init h24) hk20
  have hk26 := ob_kd_ext (e_Ring_init h24) hk21
  refine ob_xI hD28 (ob_putFR d_Downlink_init_34 F_9_1 w_256 ⟨rfl, rfl⟩ (fty := (.object "OrbitBox$Ring")) (by decide) rfl rfl hk25.1 hk26.1) ?_
  refine ob_aload d_Downlink_init_37 rfl ?_
  refine ob_push d_Downlink_init_38 ?_
  refine ob_newIx d_Downlink_init_40 w_52 hg33 hS31 hD32 x_S29 ?_
  have hk34 := ob_kd_new hS31 hk25
  have hk35 : ob_kd S29 S22.2.2.1 20 := ob_kd_this hS31 (by decide)
  refine ob_xI hD37 (ob_putFR d_Downlink_init_42 F_9_4 w_262 ⟨rfl, rfl⟩ (fty := (.array (.int))) (by decide) rfl rfl hk34.1 hk35.1) ?_
  refine ob_aload d_Downlink_init_45 rfl ?_
  refine ob_iload d_Downlink_init_46 rfl ?_
  refine ob_newRx d_Downlink_init_47 w_252 hg42 hS40 hD41 x_S38 ?_
  have hk43 := ob_kd_new hS40 hk34
  have hk44 : ob_kd S38 S29.2.2.1 24 := ob_kd_this hS40 (by decide)
  refine ob_xI hD46 (ob_putFR d_Downlink_init_50 F_9_2 w_258 ⟨rfl, rfl⟩ (fty := (.array (.object "OrbitBox$Row"))) (by decide) rfl rfl hk43.1 hk44.1) ?_
  refine ob_push d_Downlink_init_53 ?_
  refine ob_istore (lo2 := [(0, .ref v0), (1, .int v1), (2, .int v2), (3, .int (0 : Int32))]) d_Downlink_init_54 rfl ?_
  exact v_Downlink_init_L55 ob_FU v0 v1 v2 (0 : Int32) S38 D45 hk43.1 h
-- OrbitBox$Reports.<init>(LOrbitBox$Ring;I)V
theorem d_Reports_init_0 : ob_dv ob_ac k_Reports_init 0 1 0 (.aload_n 0) 1 := ⟨by decide +kernel, rfl, rfl⟩
theorem d_Reports_init_1 : ob_dc k_Reports_init 1 (.invokespecial 3) 3 4 := ⟨by decide +kernel, rfl⟩
theorem d_Reports_init_4 : ob_dv ob_ac k_Reports_init 4 5 0 (.aload_n 0) 1 := ⟨by decide +kernel, rfl, rfl⟩
theorem d_Reports_init_5 : ob_dv ob_ac k_Reports_init 5 6 1 (.aload_n 1) 1 := ⟨by decide +kernel, rfl, rfl⟩
theorem d_Reports_init_6 : ob_dc k_Reports_init 6 (.putfield 9) 3 9 := ⟨by decide +kernel, rfl⟩
theorem d_Reports_init_9 : ob_dv ob_ac k_Reports_init 9 10 0 (.aload_n 0) 1 := ⟨by decide +kernel, rfl, rfl⟩
theorem d_Reports_init_10 : ob_dc k_Reports_init 10 (.new 15) 3 13 := ⟨by decide +kernel, rfl⟩
theorem d_Reports_init_13 : ob_dc k_Reports_init 13 (.dup) 1 14 := ⟨by decide +kernel, rfl⟩
theorem d_Reports_init_14 : ob_dv ob_lc k_Reports_init 14 15 2 (.iload_n 2) 1 := ⟨by decide +kernel, rfl, rfl⟩
theorem d_Reports_init_15 : ob_dc k_Reports_init 15 (.invokespecial 17) 3 18 := ⟨by decide +kernel, rfl⟩
theorem d_Reports_init_18 : ob_dc k_Reports_init 18 (.putfield 20) 3 21 := ⟨by decide +kernel, rfl⟩
theorem d_Reports_init_21 : ob_dv ob_ac k_Reports_init 21 22 0 (.aload_n 0) 1 := ⟨by decide +kernel, rfl, rfl⟩
theorem d_Reports_init_22 : ob_dc k_Reports_init 22 (.new 23) 3 25 := ⟨by decide +kernel, rfl⟩
theorem d_Reports_init_25 : ob_dc k_Reports_init 25 (.dup) 1 26 := ⟨by decide +kernel, rfl⟩
theorem d_Reports_init_26 : ob_dk k_Reports_init 26 29 (277 : Int32) (.sipush 277) 3 := ⟨by decide +kernel, rfl, show (Int16.ofInt 277).toInt32 = (277 : Int32) by decide +kernel⟩
theorem d_Reports_init_29 : ob_dc k_Reports_init 29 (.invokespecial 25) 3 32 := ⟨by decide +kernel, rfl⟩
theorem d_Reports_init_32 : ob_dc k_Reports_init 32 (.putfield 26) 3 35 := ⟨by decide +kernel, rfl⟩
theorem d_Reports_init_35 : ob_dv ob_ac k_Reports_init 35 36 0 (.aload_n 0) 1 := ⟨by decide +kernel, rfl, rfl⟩
theorem d_Reports_init_36 : ob_dk k_Reports_init 36 38 (32 : Int32) (.bipush 32) 2 := ⟨by decide +kernel, rfl, show (Int8.ofInt 32).toInt32 = (32 : Int32) by decide +kernel⟩
theorem d_Reports_init_38 : ob_dc k_Reports_init 38 (.newarray .boolean) 2 40 := ⟨by decide +kernel, rfl⟩
theorem d_Reports_init_40 : ob_dc k_Reports_init 40 (.putfield 30) 3 43 := ⟨by decide +kernel, rfl⟩
theorem d_Reports_init_43 : ob_dv ob_ac k_Reports_init 43 44 0 (.aload_n 0) 1 := ⟨by decide +kernel, rfl, rfl⟩
theorem d_Reports_init_44 : ob_dk k_Reports_init 44 47 (1024 : Int32) (.sipush 1024) 3 := ⟨by decide +kernel, rfl, show (Int16.ofInt 1024).toInt32 = (1024 : Int32) by decide +kernel⟩
theorem d_Reports_init_47 : ob_dc k_Reports_init 47 (.newarray .int) 2 49 := ⟨by decide +kernel, rfl⟩
theorem d_Reports_init_49 : ob_dc k_Reports_init 49 (.putfield 34) 3 52 := ⟨by decide +kernel, rfl⟩
theorem d_Reports_init_52 : ob_dc k_Reports_init 52 (.return_) 1 53 := ⟨by decide +kernel, rfl⟩
theorem c_Reports_init_17 : ob_id k_Reports_init k_Ring_init 17 1 := ⟨cw_Ring_init, yd_Ring_init, w_288, w_175, w_8, ⟨by decide, by decide⟩, rfl, rfl⟩
theorem c_Reports_init_25 : ob_id k_Reports_init k_Row_init 25 1 := ⟨cw_Row_init, yd_Row_init, w_290, w_32, w_2, ⟨by decide, by decide⟩, rfl, rfl⟩
def f_Reports_init (v0 : Nat) (v1 : Nat) (v2 : Int32) (S : ob_S) (D : ob_D) : Option (ob_S × ob_D) :=
  ob_lt (ob_pR D v0 0 v1) fun D1 => ob_lt (ob_new S 3 0 3) fun S3 => ob_lt (ob_z D1 S.2.2.1) fun D4 => ob_bd (f_Ring_init (S.2.2.1) v2 S3 D4) fun S10 D11 => ob_lt (ob_pR D11 v0 1 (S.2.2.1)) fun D16 => ob_lt (ob_new S10 2 0 2) fun S18 => ob_lt (ob_z D16 S10.2.2.1) fun D19 => ob_bd (f_Row_init (S10.2.2.1) (277 : Int32) S18 D19) fun S25 D26 => ob_lt (ob_pR D26 v0 2 (S10.2.2.1)) fun D31 => ob_gt (¬ (32 : Int32) < 0 ∧ (32 : Int32).toNatClampNeg ≤ 67108864) <| ob_lt (ob_new S25 22 (32 : Int32).toNatClampNeg (32 : Int32).toNatClampNeg) fun S33 => ob_lt (ob_z D31 S25.2.2.1) fun D34 => ob_lt (ob_pR D34 v0 3 (S25.2.2.1)) fun D41 => ob_gt (¬ (1024 : Int32) < 0 ∧ (1024 : Int32).toNatClampNeg ≤ 67108864) <| ob_lt (ob_new S33 20 (1024 : Int32).toNatClampNeg (1024 : Int32).toNatClampNeg) fun S43 => ob_lt (ob_z D41 S33.2.2.1) fun D44 => ob_lt (ob_pR D44 v0 4 (S33.2.2.1)) fun D51 => some (S43, D51)
theorem e_Reports_init {v0 : Nat} {v1 : Nat} {v2 : Int32} {S T : ob_S} {D D' : ob_D} (h : f_Reports_init v0 v1 v2 S D = some (T, D')) : ob_ext S T := by
  rw [f_Reports_init] at h
  obtain ⟨D1, hD2, h⟩ := ob_lt_x h
  obtain ⟨S3, hS5, h⟩ := ob_lt_x h
  obtain ⟨D4, hD6, h⟩ := ob_lt_x h
  obtain ⟨S10, D11, h12, h⟩ := ob_bd_e h
  obtain ⟨D16, hD17, h⟩ := ob_lt_x h
  obtain ⟨S18, hS20, h⟩ := ob_lt_x h
  obtain ⟨D19, hD21, h⟩ := ob_lt_x h
  obtain ⟨S25, D26, h27, h⟩ := ob_bd_e h
  obtain ⟨D31, hD32, h⟩ := ob_lt_x h
  obtain ⟨hg37, h⟩ := ob_gt_e h
  obtain ⟨S33, hS35, h⟩ := ob_lt_x h
  obtain ⟨D34, hD36, h⟩ := ob_lt_x h
  obtain ⟨D41, hD42, h⟩ := ob_lt_x h
  obtain ⟨hg47, h⟩ := ob_gt_e h
  obtain ⟨S43, hS45, h⟩ := ob_lt_x h
  obtain ⟨D44, hD46, h⟩ := ob_lt_x h
  obtain ⟨D51, hD52, h⟩ := ob_lt_x h
  obtain ⟨he1, he2⟩ := ob_pe h
  have x_S43 : ob_ext S43 T := ob_ext_eq he1
  have x_S33 : ob_ext S33 T := (ob_ext_new hS45).tr x_S43
  have x_S25 : ob_ext S25 T := (ob_ext_new hS35).tr x_S33
  have x_S18 : ob_ext S18 T := (e_Row_init h27).tr x_S25
  have x_S10 : ob_ext S10 T := (ob_ext_new hS20).tr x_S18
  have x_S3 : ob_ext S3 T := (e_Ring_init h12).tr x_S10
  have x_S : ob_ext S T := (ob_ext_new hS5).tr x_S3
  exact x_S
theorem c_Reports_init {l : Launch} {E : ob_E} {S T : ob_S} {D D' : ob_D} {v0 : Nat} {v1 : Nat} {v2 : Int32} (hp_v0 : S.1 v0 = 9) (hp_v1 : S.1 v1 = 3) (h : f_Reports_init v0 v1 v2 S D = some (T, D')) : ob_M l E k_Reports_init [.ref v0, .ref v1, .int v2] S D none T D' := by
  have xx := e_Reports_init h
  refine ob_ofV (lo := [(0, .ref v0), (1, .ref v1), (2, .int v2)]) (by decide) rfl (Nat.le_of_ble_eq_true rfl) rfl xx.1 xx.2.1 ?_
  rw [f_Reports_init] at h
  refine ob_withH fun H0 hH0 => ?_
  have kd_v0 := ob_kdH hH0 hp_v0
  have kd_v1 := ob_kdH hH0 hp_v1
  obtain ⟨D1, hD2, h⟩ := ob_lt_x h
  obtain ⟨S3, hS5, h⟩ := ob_lt_x h
  obtain ⟨D4, hD6, h⟩ := ob_lt_x h
  obtain ⟨S10, D11, h12, h⟩ := ob_bd_e h
  obtain ⟨D16, hD17, h⟩ := ob_lt_x h
  obtain ⟨S18, hS20, h⟩ := ob_lt_x h
  obtain ⟨D19, hD21, h⟩ := ob_lt_x h
  obtain ⟨S25, D26, h27, h⟩ := ob_bd_e h
  obtain ⟨D31, hD32, h⟩ := ob_lt_x h
  obtain ⟨hg37, h⟩ := ob_gt_e h
  obtain ⟨S33, hS35, h⟩ := ob_lt_x h
  obtain ⟨D34, hD36, h⟩ := ob_lt_x h
  obtain ⟨D41, hD42, h⟩ := ob_lt_x h
  obtain ⟨hg47, h⟩ := ob_gt_e h
  obtain ⟨S43, hS45, h⟩ := ob_lt_x h
  obtain ⟨D44, hD46, h⟩ := ob_lt_x h
  obtain ⟨D51, hD52, h⟩ := ob_lt_x h
  obtain ⟨he1, he2⟩ := ob_pe h
  have x_S43 : ob_ext S43 T := ob_ext_eq he1
  have x_S33 : ob_ext S33 T := (ob_ext_new hS45).tr x_S43
  have x_S25 : ob_ext S25 T := (ob_ext_new hS35).tr x_S33
  have x_S18 : ob_ext S18 T := (e_Row_init h27).tr x_S25
  have x_S10 : ob_ext S10 T := (ob_ext_new hS20).tr x_S18
  have x_S3 : ob_ext S3 T := (e_Ring_init h12).tr x_S10
  have x_S : ob_ext S T := (ob_ext_new hS5).tr x_S3
  refine ob_aload d_Reports_init_0 rfl ?_
  refine ob_objI d_Reports_init_1 w_286 w_27 w_28 (by decide) (Nat.le_of_ble_eq_true rfl) ?_
  refine ob_aload d_Reports_init_4 rfl ?_
  refine ob_aload d_Reports_init_5 rfl ?_
  refine ob_xI hD2 (ob_putFR d_Reports_init_6 F_8_0 w_291 ⟨rfl, rfl⟩ (fty := (.object "OrbitBox$Ring")) (by decide) rfl rfl kd_v0.1 kd_v1.1) ?_
  refine ob_aload d_Reports_init_9 rfl ?_
  refine ob_newO d_Reports_init_10 N_2 w_287 hS5 hD6 x_S3 ?_
  have hk7 := ob_kd_new hS5 kd_v0
  have hk8 := ob_kd_new hS5 kd_v1
  have hk9 : ob_kd S3 S.2.2.1 3 := ob_kd_this hS5 (by decide)
  refine ob_dup d_Reports_init_13 rfl ?_
  refine ob_iload d_Reports_init_14 rfl ?_
  refine ob_callI (As := [.int v2]) (rest := [.ref (S.2.2.1), .ref v0]) d_Reports_init_15 c_Reports_init_17 rfl rfl (Nat.le_of_ble_eq_true rfl) (c_Ring_init hk9.1 h12) (ob_ext_m (e_Ring_init h12)) (ob_ext_m x_S10) ?_
  have hk13 := ob_kd_ext (e_Ring_init h12) hk7
  have hk14 := ob_kd_ext (e_Ring_init h12) hk8
  have hk15 := ob_kd_ext (e_Ring_init h12) hk9
  refine ob_xI hD17 (ob_putFR d_Reports_init_18 F_8_1 w_293 ⟨rfl, rfl⟩ (fty := (.object "OrbitBox$Ring")) (by decide) rfl rfl hk13.1 hk15.1) ?_
  refine ob_aload d_Reports_init_21 rfl ?_
  refine ob_newO d_Reports_init_22 N_1 w_289 hS20 hD21 x_S18 ?_
  have hk22 := ob_kd_new hS20 hk13
  have hk23 := ob_kd_new hS20 hk14
  have hk24 : ob_kd S18 S10.2.2.1 2 := ob_kd_this hS20 (by decide)
  refine ob_dup d_Reports_init_25 rfl ?_
  refine ob_push d_Reports_init_26 ?_
  refine ob_callI (As := [.int (277 : Int32)]) (rest := [.ref (S10.2.2.1), .ref v0]) d_Reports_init_29 c_Reports_init_25 rfl rfl (Nat.le_of_ble_eq_true rfl) (c_Row_init hk24.1 h27) (ob_ext_m (e_Row_init h27)) (ob_ext_m x_S25) ?_
  have hk28 := ob_kd_ext (e_Row_init h27) hk22
  have hk29 := ob_kd_ext (e_Row_init h27) hk23
  have hk30 := ob_kd_ext (e_Row_init h27) hk24
  refine ob_xI hD32 (ob_putFR d_Reports_init_32 F_8_2 w_295 ⟨rfl, rfl⟩ (fty := (.object "OrbitBox$Row")) (by decide) rfl rfl hk28.1 hk30.1) ?_
  refine ob_aload d_Reports_init_35 rfl ?_
  refine ob_push d_Reports_init_36 ?_
  refine ob_newZx d_Reports_init_38 w_222 hg37 hS35 hD36 x_S33 ?_
  have hk38 := ob_kd_new hS35 hk28
  have hk39 := ob_kd_new hS35 hk29
  have hk40 : ob_kd S33 S25.2.2.1 22 := ob_kd_this hS35 (by decide)
  refine ob_xI hD42 (ob_putFR d_Reports_init_40 F_8_3 w_296 ⟨rfl, rfl⟩ (fty := (.array (.boolean))) (by decide) rfl rfl hk38.1 hk40.1) ?_
  refine ob_aload d_Reports_init_43 rfl ?_
  refine ob_push d_Reports_init_44 ?_
  refine ob_newIx d_Reports_init_47 w_52 hg47 hS45 hD46 x_S43 ?_
  have hk48 := ob_kd_new hS45 hk38
  have hk49 := ob_kd_new hS45 hk39
  have hk50 : ob_kd S43 S33.2.2.1 20 := ob_kd_this hS45 (by decide)
  refine ob_xI hD52 (ob_putFR d_Reports_init_49 F_8_4 w_298 ⟨rfl, rfl⟩ (fty := (.array (.int))) (by decide) rfl rfl hk48.1 hk50.1) ?_
  exact ob_vee he1 he2 (ob_vret d_Reports_init_52 rfl)
-- OrbitBox$Reports.begin(III)LOrbitBox$Row;
theorem d_Reports_begin_1 : ob_dk k_Reports_begin 1 3 (32 : Int32) (.bipush 32) 2 := ⟨by decide +kernel, rfl, show (Int8.ofInt 32).toInt32 = (32 : Int32) by decide +kernel⟩
theorem d_Reports_begin_18 : ob_dk k_Reports_begin 18 19 (0 : Int32) (.iconst 0) 1 := ⟨by decide +kernel, rfl, show Int32.ofInt 0 = (0 : Int32) by decide +kernel⟩
theorem d_Reports_begin_26 : ob_dk k_Reports_begin 26 29 (2090 : Int32) (.sipush 2090) 3 := ⟨by decide +kernel, rfl, show (Int16.ofInt 2090).toInt32 = (2090 : Int32) by decide +kernel⟩
theorem d_Reports_begin_29 : ob_dk k_Reports_begin 29 30 (2 : Int32) (.iconst 2) 1 := ⟨by decide +kernel, rfl, show Int32.ofInt 2 = (2 : Int32) by decide +kernel⟩
theorem d_Reports_begin_43 : ob_dk k_Reports_begin 43 46 (16383 : Int32) (.sipush 16383) 3 := ⟨by decide +kernel, rfl, show (Int16.ofInt 16383).toInt32 = (16383 : Int32) by decide +kernel⟩
theorem d_Reports_begin_48 : ob_dk k_Reports_begin 48 49 (2 : Int32) (.iconst 2) 1 := ⟨by decide +kernel, rfl, show Int32.ofInt 2 = (2 : Int32) by decide +kernel⟩
theorem d_Reports_begin_56 : ob_dk k_Reports_begin 56 57 (0 : Int32) (.iconst 0) 1 := ⟨by decide +kernel, rfl, show Int32.ofInt 0 = (0 : Int32) by decide +kernel⟩
theorem d_Reports_begin_57 : ob_dk k_Reports_begin 57 58 (2 : Int32) (.iconst 2) 1 := ⟨by decide +kernel, rfl, show Int32.ofInt 2 = (2 : Int32) by decide +kernel⟩
theorem d_Reports_begin_65 : ob_dk k_Reports_begin 65 67 (32 : Int32) (.bipush 32) 2 := ⟨by decide +kernel, rfl, show (Int8.ofInt 32).toInt32 = (32 : Int32) by decide +kernel⟩
theorem d_Reports_begin_67 : ob_dk k_Reports_begin 67 68 (1 : Int32) (.iconst 1) 1 := ⟨by decide +kernel, rfl, show Int32.ofInt 1 = (1 : Int32) by decide +kernel⟩
theorem d_Reports_begin_76 : ob_dk k_Reports_begin 76 77 (1 : Int32) (.iconst 1) 1 := ⟨by decide +kernel, rfl, show Int32.ofInt 1 = (1 : Int32) by decide +kernel⟩
theorem d_Reports_begin_85 : ob_dk k_Reports_begin 85 86 (1 : Int32) (.iconst 1) 1 := ⟨by decide +kernel, rfl, show Int32.ofInt 1 = (1 : Int32) by decide +kernel⟩
theorem d_Reports_begin_100 : ob_dk k_Reports_begin 100 101 (2 : Int32) (.iconst 2) 1 := ⟨by decide +kernel, rfl, show Int32.ofInt 2 = (2 : Int32) by decide +kernel⟩
theorem d_Reports_begin_108 : ob_dk k_Reports_begin 108 109 (0 : Int32) (.iconst 0) 1 := ⟨by decide +kernel, rfl, show Int32.ofInt 0 = (0 : Int32) by decide +kernel⟩
theorem d_Reports_begin_109 : ob_dk k_Reports_begin 109 110 (2 : Int32) (.iconst 2) 1 := ⟨by decide +kernel, rfl, show Int32.ofInt 2 = (2 : Int32) by decide +kernel⟩
theorem d_Reports_begin_118 : ob_dk k_Reports_begin 118 119 (4 : Int32) (.iconst 4) 1 := ⟨by decide +kernel, rfl, show Int32.ofInt 4 = (4 : Int32) by decide +kernel⟩
theorem d_Reports_begin_130 : ob_dk k_Reports_begin 130 131 (1 : Int32) (.iconst 1) 1 := ⟨by decide +kernel, rfl, show Int32.ofInt 1 = (1 : Int32) by decide +kernel⟩
theorem d_Reports_begin_138 : ob_dk k_Reports_begin 138 139 (1 : Int32) (.iconst 1) 1 := ⟨by decide +kernel, rfl, show Int32.ofInt 1 = (1 : Int32) by decide +kernel⟩
theorem d_Reports_begin_147 : ob_dc k_Reports_begin 147 (.areturn) 1 148 := ⟨by decide +kernel, rfl⟩
theorem d_Reports_begin_144 : ob_dc k_Reports_begin 144 (.getfield 26) 3 147 := ⟨by decide +kernel, rfl⟩
theorem d_Reports_begin_143 : ob_dv ob_ac k_Reports_begin 143 144 0 (.aload_n 0) 1 := ⟨by decide +kernel, rfl, rfl⟩
theorem d_Reports_begin_140 : ob_dc k_Reports_begin 140 (.putfield 47) 3 143 := ⟨by decide +kernel, rfl⟩
theorem d_Reports_begin_139 : ob_dc k_Reports_begin 139 (.iadd) 1 140 := ⟨by decide +kernel, rfl⟩
theorem d_Reports_begin_135 : ob_dc k_Reports_begin 135 (.getfield 47) 3 138 := ⟨by decide +kernel, rfl⟩
theorem d_Reports_begin_134 : ob_dc k_Reports_begin 134 (.dup) 1 135 := ⟨by decide +kernel, rfl⟩
theorem d_Reports_begin_133 : ob_dv ob_ac k_Reports_begin 133 134 0 (.aload_n 0) 1 := ⟨by decide +kernel, rfl, rfl⟩
theorem d_Reports_begin_132 : ob_dc k_Reports_begin 132 (.iastore) 1 133 := ⟨by decide +kernel, rfl⟩
theorem d_Reports_begin_131 : ob_dc k_Reports_begin 131 (.iadd) 1 132 := ⟨by decide +kernel, rfl⟩
theorem d_Reports_begin_129 : ob_dc k_Reports_begin 129 (.iaload) 1 130 := ⟨by decide +kernel, rfl⟩
theorem d_Reports_begin_128 : ob_dc k_Reports_begin 128 (.dup2) 1 129 := ⟨by decide +kernel, rfl⟩
theorem d_Reports_begin_126 : ob_dv ob_lc k_Reports_begin 126 128 4 (.iload 4) 2 := ⟨by decide +kernel, rfl, rfl⟩
theorem d_Reports_begin_123 : ob_dc k_Reports_begin 123 (.getfield 34) 3 126 := ⟨by decide +kernel, rfl⟩
theorem d_Reports_begin_122 : ob_dv ob_ac k_Reports_begin 122 123 0 (.aload_n 0) 1 := ⟨by decide +kernel, rfl, rfl⟩
theorem d_Reports_begin_119 : ob_dc k_Reports_begin 119 (.invokevirtual 42) 3 122 := ⟨by decide +kernel, rfl⟩
theorem d_Reports_begin_117 : ob_dv ob_lc k_Reports_begin 117 118 3 (.iload_n 3) 1 := ⟨by decide +kernel, rfl, rfl⟩
theorem d_Reports_begin_114 : ob_dc k_Reports_begin 114 (.getfield 26) 3 117 := ⟨by decide +kernel, rfl⟩
theorem d_Reports_begin_113 : ob_dv ob_ac k_Reports_begin 113 114 0 (.aload_n 0) 1 := ⟨by decide +kernel, rfl, rfl⟩
theorem d_Reports_begin_110 : ob_dc k_Reports_begin 110 (.invokevirtual 42) 3 113 := ⟨by decide +kernel, rfl⟩
theorem d_Reports_begin_105 : ob_dc k_Reports_begin 105 (.getfield 26) 3 108 := ⟨by decide +kernel, rfl⟩
theorem d_Reports_begin_104 : ob_dv ob_ac k_Reports_begin 104 105 0 (.aload_n 0) 1 := ⟨by decide +kernel, rfl, rfl⟩
theorem d_Reports_begin_101 : ob_dc k_Reports_begin 101 (.invokevirtual 42) 3 104 := ⟨by decide +kernel, rfl⟩
theorem d_Reports_begin_99 : ob_dc k_Reports_begin 99 (.iaload) 1 100 := ⟨by decide +kernel, rfl⟩
theorem d_Reports_begin_97 : ob_dv ob_lc k_Reports_begin 97 99 4 (.iload 4) 2 := ⟨by decide +kernel, rfl, rfl⟩
theorem d_Reports_begin_94 : ob_dc k_Reports_begin 94 (.getfield 34) 3 97 := ⟨by decide +kernel, rfl⟩
theorem d_Reports_begin_93 : ob_dv ob_ac k_Reports_begin 93 94 0 (.aload_n 0) 1 := ⟨by decide +kernel, rfl, rfl⟩
theorem d_Reports_begin_90 : ob_dc k_Reports_begin 90 (.getfield 26) 3 93 := ⟨by decide +kernel, rfl⟩
theorem d_Reports_begin_89 : ob_dv ob_ac k_Reports_begin 89 90 0 (.aload_n 0) 1 := ⟨by decide +kernel, rfl, rfl⟩
theorem d_Reports_begin_86 : ob_dc k_Reports_begin 86 (.invokevirtual 42) 3 89 := ⟨by decide +kernel, rfl⟩
theorem d_Reports_begin_84 : ob_dv ob_lc k_Reports_begin 84 85 2 (.iload_n 2) 1 := ⟨by decide +kernel, rfl, rfl⟩
theorem d_Reports_begin_81 : ob_dc k_Reports_begin 81 (.getfield 26) 3 84 := ⟨by decide +kernel, rfl⟩
theorem d_Reports_begin_80 : ob_dv ob_ac k_Reports_begin 80 81 0 (.aload_n 0) 1 := ⟨by decide +kernel, rfl, rfl⟩
theorem d_Reports_begin_77 : ob_dc k_Reports_begin 77 (.invokevirtual 42) 3 80 := ⟨by decide +kernel, rfl⟩
theorem d_Reports_begin_75 : ob_dv ob_lc k_Reports_begin 75 76 1 (.iload_n 1) 1 := ⟨by decide +kernel, rfl, rfl⟩
theorem d_Reports_begin_72 : ob_dc k_Reports_begin 72 (.getfield 26) 3 75 := ⟨by decide +kernel, rfl⟩
theorem d_Reports_begin_71 : ob_dv ob_ac k_Reports_begin 71 72 0 (.aload_n 0) 1 := ⟨by decide +kernel, rfl, rfl⟩
theorem d_Reports_begin_68 : ob_dc k_Reports_begin 68 (.invokevirtual 42) 3 71 := ⟨by decide +kernel, rfl⟩
theorem d_Reports_begin_62 : ob_dc k_Reports_begin 62 (.getfield 26) 3 65 := ⟨by decide +kernel, rfl⟩
theorem d_Reports_begin_61 : ob_dv ob_ac k_Reports_begin 61 62 0 (.aload_n 0) 1 := ⟨by decide +kernel, rfl, rfl⟩
theorem d_Reports_begin_58 : ob_dc k_Reports_begin 58 (.invokevirtual 42) 3 61 := ⟨by decide +kernel, rfl⟩
theorem d_Reports_begin_53 : ob_dc k_Reports_begin 53 (.getfield 26) 3 56 := ⟨by decide +kernel, rfl⟩
theorem d_Reports_begin_52 : ob_dv ob_ac k_Reports_begin 52 53 0 (.aload_n 0) 1 := ⟨by decide +kernel, rfl, rfl⟩
theorem d_Reports_begin_49 : ob_dc k_Reports_begin 49 (.invokevirtual 42) 3 52 := ⟨by decide +kernel, rfl⟩
theorem d_Reports_begin_47 : ob_dc k_Reports_begin 47 (.ior) 1 48 := ⟨by decide +kernel, rfl⟩
theorem d_Reports_begin_46 : ob_dc k_Reports_begin 46 (.iand) 1 47 := ⟨by decide +kernel, rfl⟩
theorem d_Reports_begin_40 : ob_dc k_Reports_begin 40 (.getfield 47) 3 43 := ⟨by decide +kernel, rfl⟩
theorem d_Reports_begin_39 : ob_dv ob_ac k_Reports_begin 39 40 0 (.aload_n 0) 1 := ⟨by decide +kernel, rfl, rfl⟩
theorem d_Reports_begin_37 : ob_dc k_Reports_begin 37 (.ldc 46) 2 39 := ⟨by decide +kernel, rfl⟩
theorem d_Reports_begin_34 : ob_dc k_Reports_begin 34 (.getfield 26) 3 37 := ⟨by decide +kernel, rfl⟩
theorem d_Reports_begin_33 : ob_dv ob_ac k_Reports_begin 33 34 0 (.aload_n 0) 1 := ⟨by decide +kernel, rfl, rfl⟩
theorem d_Reports_begin_30 : ob_dc k_Reports_begin 30 (.invokevirtual 42) 3 33 := ⟨by decide +kernel, rfl⟩
theorem d_Reports_begin_23 : ob_dc k_Reports_begin 23 (.getfield 26) 3 26 := ⟨by decide +kernel, rfl⟩
theorem d_Reports_begin_22 : ob_dv ob_ac k_Reports_begin 22 23 0 (.aload_n 0) 1 := ⟨by decide +kernel, rfl, rfl⟩
theorem d_Reports_begin_19 : ob_dc k_Reports_begin 19 (.putfield 38) 3 22 := ⟨by decide +kernel, rfl⟩
theorem d_Reports_begin_15 : ob_dc k_Reports_begin 15 (.getfield 26) 3 18 := ⟨by decide +kernel, rfl⟩
theorem d_Reports_begin_14 : ob_dv ob_ac k_Reports_begin 14 15 0 (.aload_n 0) 1 := ⟨by decide +kernel, rfl, rfl⟩
theorem d_Reports_begin_12 : ob_dv (ob_sc k_Reports_begin.2.2.2.1) k_Reports_begin 12 14 4 (.istore 4) 2 := ⟨by decide +kernel, rfl, ⟨rfl, by decide +kernel⟩⟩
theorem d_Reports_begin_11 : ob_dc k_Reports_begin 11 (.irem) 1 12 := ⟨by decide +kernel, rfl⟩
theorem d_Reports_begin_10 : ob_dc k_Reports_begin 10 (.arraylength) 1 11 := ⟨by decide +kernel, rfl⟩
theorem d_Reports_begin_7 : ob_dc k_Reports_begin 7 (.getfield 34) 3 10 := ⟨by decide +kernel, rfl⟩
theorem d_Reports_begin_6 : ob_dv ob_ac k_Reports_begin 6 7 0 (.aload_n 0) 1 := ⟨by decide +kernel, rfl, rfl⟩
theorem d_Reports_begin_5 : ob_dc k_Reports_begin 5 (.iadd) 1 6 := ⟨by decide +kernel, rfl⟩
theorem d_Reports_begin_4 : ob_dv ob_lc k_Reports_begin 4 5 2 (.iload_n 2) 1 := ⟨by decide +kernel, rfl, rfl⟩
theorem d_Reports_begin_3 : ob_dc k_Reports_begin 3 (.imul) 1 4 := ⟨by decide +kernel, rfl⟩
theorem d_Reports_begin_0 : ob_dv ob_lc k_Reports_begin 0 1 1 (.iload_n 1) 1 := ⟨by decide +kernel, rfl, rfl⟩
theorem c_Reports_begin_42 : ob_vd k_Reports_begin k_Row_add 42 2 1 := ⟨cw_Row_add, yd_Row_add, w_610, w_467, w_468, w_2, ⟨_, _, rfl⟩, by decide, by decide⟩
def f_Reports_begin (S : ob_S) (v0 : Nat) (v1 : Int32) (v2 : Int32) (v3 : Int32) (D : ob_D) : Option (Nat × ob_D) :=
  if D.2.1 v0 4 ≠ 0 then if ¬ (Int32.ofNat (S.2.1 (D.2.1 v0 4))) = 0 then ob_lt (((v1 * (32 : Int32)) + v2) - ((v1 * (32 : Int32)) + v2) / (Int32.ofNat (S.2.1 (D.2.1 v0 4))) * (Int32.ofNat (S.2.1 (D.2.1 v0 4)))) fun x3 => if D.2.1 v0 2 ≠ 0 then ob_lt (ob_pI D (D.2.1 v0 2) 1 (0 : Int32)) fun D6 => if D6.2.1 v0 2 ≠ 0 then ob_bv (f_Row_add S (D6.2.1 v0 2) (2090 : Int32) (2 : Int32) D6) fun D9 => if D9.2.1 v0 2 ≠ 0 then ob_bv (f_Row_add S (D9.2.1 v0 2) ((49152 : Int32) ||| ((D9.1 v0 5) &&& (16383 : Int32))) (2 : Int32) D9) fun D13 => if D13.2.1 v0 2 ≠ 0 then ob_bv (f_Row_add S (D13.2.1 v0 2) (0 : Int32) (2 : Int32) D13) fun D17 => if D17.2.1 v0 2 ≠ 0 then ob_bv (f_Row_add S (D17.2.1 v0 2) (32 : Int32) (1 : Int32) D17) fun D21 => if D21.2.1 v0 2 ≠ 0 then ob_bv (f_Row_add S (D21.2.1 v0 2) v1 (1 : Int32) D21) fun D25 => if D25.2.1 v0 2 ≠ 0 then ob_bv (f_Row_add S (D25.2.1 v0 2) v2 (1 : Int32) D25) fun D29 => if D29.2.1 v0 2 ≠ 0 then if D29.2.1 v0 4 ≠ 0 then if ob_in x3 (S.2.1 (D29.2.1 v0 4)) then ob_bv (f_Row_add S (D29.2.1 v0 2) (D29.1 (D29.2.1 v0 4) x3.toNatClampNeg) (2 : Int32) D29) fun D36 => if D36.2.1 v0 2 ≠ 0 then ob_bv (f_Row_add S (D36.2.1 v0 2) (0 : Int32) (2 : Int32) D36) fun D40 => if D40.2.1 v0 2 ≠ 0 then ob_bv (f_Row_add S (D40.2.1 v0 2) v3 (4 : Int32) D40) fun D44 => if D44.2.1 v0 4 ≠ 0 then if ob_in x3 (S.2.1 (D44.2.1 v0 4)) then if ob_in x3 (S.2.1 (D44.2.1 v0 4)) then ob_lt (ob_pI D44 (D44.2.1 v0 4) x3.toNatClampNeg ((D44.1 (D44.2.1 v0 4) x3.toNatClampNeg) + (1 : Int32))) fun D50 => ob_lt (ob_pI D50 v0 5 ((D50.1 v0 5) + (1 : Int32))) fun D51 => if D51.2.1 v0 2 ≠ 0 then some (D51.2.1 v0 2, D51) else none else none else none else none else none else none else none else none else none else none else none else none else none else none else none else none else none else none
theorem c_Reports_begin {l : Launch} {E : ob_E} {S : ob_S} {D : ob_D} {v0 : Nat} {v1 : Int32} {v2 : Int32} {v3 : Int32} {r : Nat} {D' : ob_D} (hp_v0 : S.1 v0 = 9) (h : f_Reports_begin S v0 v1 v2 v3 D = some (r, D')) : ob_M l E k_Reports_begin [.ref v0, .int v1, .int v2, .int v3] S D (some (.ref r)) S D' := by
  refine ob_ofV (lo := [(0, .ref v0), (1, .int v1), (2, .int v2), (3, .int v3)]) (by decide) rfl (Nat.le_of_ble_eq_true rfl) rfl (Nat.le_refl _) (Nat.le_refl _) ?_
  rw [f_Reports_begin] at h
  refine ob_iload d_Reports_begin_0 rfl ?_
  refine ob_push d_Reports_begin_1 ?_
  refine ob_imul d_Reports_begin_3 ?_
  refine ob_iload d_Reports_begin_4 rfl ?_
  refine ob_iadd d_Reports_begin_5 ?_
  refine ob_aload d_Reports_begin_6 rfl ?_
  obtain ⟨hg2, h⟩ := ob_gd h
  refine ob_getR d_Reports_begin_7 F_8_4 l_Reports_34 hp_v0 hg2 (fun hk1 => ?_)
  refine ob_alen (i := 0) d_Reports_begin_10 hk1 (by decide) ?_
  obtain ⟨hg54, h⟩ := ob_gd h
  refine ob_irem d_Reports_begin_11 hg54 ?_
  replace h := ob_lt_e h
  refine ob_istore (lo2 := [(0, .ref v0), (1, .int v1), (2, .int v2), (3, .int v3), (4, .int (((v1 * (32 : Int32)) + v2) - ((v1 * (32 : Int32)) + v2) / (Int32.ofNat (S.2.1 (D.2.1 v0 4))) * (Int32.ofNat (S.2.1 (D.2.1 v0 4)))))]) d_Reports_begin_12 rfl ?_
  refine ob_aload d_Reports_begin_14 rfl ?_
  obtain ⟨hg5, h⟩ := ob_gd h
  refine ob_getR d_Reports_begin_15 F_8_2 l_Reports_26 hp_v0 hg5 (fun hk4 => ?_)
  refine ob_push d_Reports_begin_18 ?_
  replace h := ob_lt_e h
  refine ob_putI d_Reports_begin_19 F_1_1 l_Reports_38 hk4 ?_
  refine ob_aload d_Reports_begin_22 rfl ?_
  obtain ⟨hg8, h⟩ := ob_gd h
  refine ob_getR d_Reports_begin_23 F_8_2 l_Reports_26 hp_v0 hg8 (fun hk7 => ?_)
  refine ob_push d_Reports_begin_26 ?_
  refine ob_push d_Reports_begin_29 ?_
  obtain ⟨D9, h10, h⟩ := ob_bv_e h
  refine ob_callVv (As := [.int (2090 : Int32), .int (2 : Int32)]) (rest := []) d_Reports_begin_30 c_Reports_begin_42 hk7 rfl rfl (Nat.le_of_ble_eq_true rfl) (c_Row_add hk7 h10) ⟨Nat.le_refl _, Nat.le_refl _⟩ ⟨Nat.le_refl _, Nat.le_refl _⟩ ?_
  refine ob_aload d_Reports_begin_33 rfl ?_
  obtain ⟨hg12, h⟩ := ob_gd h
  refine ob_getR d_Reports_begin_34 F_8_2 l_Reports_26 hp_v0 hg12 (fun hk11 => ?_)
  refine ob_ldc (idx := 46) d_Reports_begin_37 (Or.inl ⟨rfl, rfl⟩) w_611 ?_
  refine ob_aload d_Reports_begin_39 rfl ?_
  refine ob_getI d_Reports_begin_40 F_8_5 l_Reports_47 hp_v0 ?_
  refine ob_push d_Reports_begin_43 ?_
  refine ob_iand d_Reports_begin_46 ?_
  refine ob_ior d_Reports_begin_47 ?_
  refine ob_push d_Reports_begin_48 ?_
  obtain ⟨D13, h14, h⟩ := ob_bv_e h
  refine ob_callVv (As := [.int ((49152 : Int32) ||| ((D9.1 v0 5) &&& (16383 : Int32))), .int (2 : Int32)]) (rest := []) d_Reports_begin_49 c_Reports_begin_42 hk11 rfl rfl (Nat.le_of_ble_eq_true rfl) (c_Row_add hk11 h14) ⟨Nat.le_refl _, Nat.le_refl _⟩ ⟨Nat.le_refl _, Nat.le_refl _⟩ ?_
  refine ob_aload d_Reports_begin_52 rfl ?_
  obtain ⟨hg16, h⟩ := ob_gd h
  refine ob_getR d_Reports_begin_53 F_8_2 l_Reports_26 hp_v0 hg16 (fun hk15 => ?_)
  refine ob_push d_Reports_begin_56 ?_
  refine ob_push d_Reports_begin_57 ?_
  obtain ⟨D17, h18, h⟩ := ob_bv_e h
  refine ob_callVv (As := [.int (0 : Int32), .int (2 : Int32)]) (rest := []) d_Reports_begin_58 c_Reports_begin_42 hk15 rfl rfl (Nat.le_of_ble_eq_true rfl) (c_Row_add hk15 h18) ⟨Nat.le_refl _, Nat.le_refl _⟩ ⟨Nat.le_refl _, Nat.le_refl _⟩ ?_
  refine ob_aload d_Reports_begin_61 rfl ?_
  obtain ⟨hg20, h⟩ := ob_gd h
  refine ob_getR d_Reports_begin_62 F_8_2 l_Reports_26 hp_v0 hg20 (fun hk19 => ?_)
  refine ob_push d_Reports_begin_65 ?_
  refine ob_push d_Reports_begin_67 ?_
  obtain ⟨D21, h22, h⟩ := ob_bv_e h
  refine ob_callVv (As := [.int (32 : Int32), .int (1 : Int32)]) (rest := []) d_Reports_begin_68 c_Reports_begin_42 hk19 rfl rfl (Nat.le_of_ble_eq_true rfl) (c_Row_add hk19 h22) ⟨Nat.le_refl _, Nat.le_refl _⟩ ⟨Nat.le_refl _, Nat.le_refl _⟩ ?_
  refine ob_aload d_Reports_begin_71 rfl ?_
  obtain ⟨hg24, h⟩ := ob_gd h
  refine ob_getR d_Reports_begin_72 F_8_2 l_Reports_26 hp_v0 hg24 (fun hk23 => ?_)
  refine ob_iload d_Reports_begin_75 rfl ?_
  refine ob_push d_Reports_begin_76 ?_
  obtain ⟨D25, h26, h⟩ := ob_bv_e h
  refine ob_callVv (As := [.int v1, .int (1 : Int32)]) (rest := []) d_Reports_begin_77 c_Reports_begin_42 hk23 rfl rfl (Nat.le_of_ble_eq_true rfl) (c_Row_add hk23 h26) ⟨Nat.le_refl _, Nat.le_refl _⟩ ⟨Nat.le_refl _, Nat.le_refl _⟩ ?_
  refine ob_aload d_Reports_begin_80 rfl ?_
  obtain ⟨hg28, h⟩ := ob_gd h
  refine ob_getR d_Reports_begin_81 F_8_2 l_Reports_26 hp_v0 hg28 (fun hk27 => ?_)
  refine ob_iload d_Reports_begin_84 rfl ?_
  refine ob_push d_Reports_begin_85 ?_
  obtain ⟨D29, h30, h⟩ := ob_bv_e h
  refine ob_callVv (As := [.int v2, .int (1 : Int32)]) (rest := []) d_Reports_begin_86 c_Reports_begin_42 hk27 rfl rfl (Nat.le_of_ble_eq_true rfl) (c_Row_add hk27 h30) ⟨Nat.le_refl _, Nat.le_refl _⟩ ⟨Nat.le_refl _, Nat.le_refl _⟩ ?_
  refine ob_aload d_Reports_begin_89 rfl ?_
  obtain ⟨hg32, h⟩ := ob_gd h
  refine ob_getR d_Reports_begin_90 F_8_2 l_Reports_26 hp_v0 hg32 (fun hk31 => ?_)
  refine ob_aload d_Reports_begin_93 rfl ?_
  obtain ⟨hg34, h⟩ := ob_gd h
  refine ob_getR d_Reports_begin_94 F_8_4 l_Reports_34 hp_v0 hg34 (fun hk33 => ?_)
  refine ob_iload d_Reports_begin_97 rfl ?_
  obtain ⟨hg35, h⟩ := ob_gd h
  refine ob_iald d_Reports_begin_99 hk33 hg35 ?_
  refine ob_push d_Reports_begin_100 ?_
  obtain ⟨D36, h37, h⟩ := ob_bv_e h
  refine ob_callVv (As := [.int (D29.1 (D29.2.1 v0 4) (((v1 * (32 : Int32)) + v2) - ((v1 * (32 : Int32)) + v2) / (Int32.ofNat (S.2.1 (D.2.1 v0 4))) * (Int32.ofNat (S.2.1 (D.2.1 v0 4)))).toNatClampNeg), .int (2 : Int32)]) (rest := []) d_Reports_begin_101 c_Reports_begin_42 hk31 rfl rfl (Nat.le_of_ble_eq_true rfl) (c_Row_add hk31 h37) ⟨Nat.le_refl _, Nat.le_refl _⟩ ⟨Nat.le_refl _, Nat.le_refl _⟩ ?_
  refine ob_aload d_Reports_begin_104 rfl ?_
  obtain ⟨hg39, h⟩ := ob_gd h
  refine ob_getR d_Reports_begin_105 F_8_2 l_Reports_26 hp_v0 hg39 (fun hk38 => ?_)
  refine ob_push d_Reports_begin_108 ?_
  refine ob_push d_Reports_begin_109 ?_
  obtain ⟨D40, h41, h⟩ := ob_bv_e h
  refine ob_callVv (As := [.int (0 : Int32), .int (2 : Int32)]) (rest := []) d_Reports_begin_110 c_Reports_begin_42 hk38 rfl rfl (Nat.le_of_ble_eq_true rfl) (c_Row_add hk38 h41) ⟨Nat.le_refl _, Nat.le_refl _⟩ ⟨Nat.le_refl _, Nat.le_refl _⟩ ?_
  refine ob_aload d_Reports_begin_113 rfl ?_
  obtain ⟨hg43, h⟩ := ob_gd h
  refine ob_getR d_Reports_begin_114 F_8_2 l_Reports_26 hp_v0 hg43 (fun hk42 => ?_)
  refine ob_iload d_Reports_begin_117 rfl ?_
  refine ob_push d_Reports_begin_118 ?_
  obtain ⟨D44, h45, h⟩ := ob_bv_e h
  refine ob_callVv (As := [.int v3, .int (4 : Int32)]) (rest := []) d_Reports_begin_119 c_Reports_begin_42 hk42 rfl rfl (Nat.le_of_ble_eq_true rfl) (c_Row_add hk42 h45) ⟨Nat.le_refl _, Nat.le_refl _⟩ ⟨Nat.le_refl _, Nat.le_refl _⟩ ?_
  refine ob_aload d_Reports_begin_122 rfl ?_
  obtain ⟨hg47, h⟩ := ob_gd h
  refine ob_getR d_Reports_begin_123 F_8_4 l_Reports_34 hp_v0 hg47 (fun hk46 => ?_)
  refine ob_iload d_Reports_begin_126 rfl ?_
  refine ob_dup2 d_Reports_begin_128 rfl rfl ?_
  obtain ⟨hg48, h⟩ := ob_gd h
  refine ob_iald d_Reports_begin_129 hk46 hg48 ?_
  refine ob_push d_Reports_begin_130 ?_
  refine ob_iadd d_Reports_begin_131 ?_
  obtain ⟨hg49, h⟩ := ob_gd h
  replace h := ob_lt_e h
  refine ob_iast d_Reports_begin_132 hk46 hg49 ?_
  refine ob_aload d_Reports_begin_133 rfl ?_
  refine ob_dup d_Reports_begin_134 rfl ?_
  refine ob_getI d_Reports_begin_135 F_8_5 l_Reports_47 hp_v0 ?_
  refine ob_push d_Reports_begin_138 ?_
  refine ob_iadd d_Reports_begin_139 ?_
  replace h := ob_lt_e h
  refine ob_putI d_Reports_begin_140 F_8_5 l_Reports_47 hp_v0 ?_
  refine ob_aload d_Reports_begin_143 rfl ?_
  obtain ⟨hg53, h⟩ := ob_gd h
  refine ob_getR d_Reports_begin_144 F_8_2 l_Reports_26 hp_v0 hg53 (fun hk52 => ?_)
  exact ob_re h (ob_aret d_Reports_begin_147 rfl (Or.inl ⟨_, rfl⟩))
-- OrbitBox$Reports.isService(I)Z
theorem d_Reports_isService_14 : ob_dk k_Reports_isService 14 15 (0 : Int32) (.iconst 0) 1 := ⟨by decide +kernel, rfl, show Int32.ofInt 0 = (0 : Int32) by decide +kernel⟩
theorem d_Reports_isService_15 : ob_dc k_Reports_isService 15 (.ireturn) 1 16 := ⟨by decide +kernel, rfl⟩
theorem d_Reports_isService_5 : ob_dk k_Reports_isService 5 7 (32 : Int32) (.bipush 32) 2 := ⟨by decide +kernel, rfl, show (Int8.ofInt 32).toInt32 = (32 : Int32) by decide +kernel⟩
theorem d_Reports_isService_10 : ob_dk k_Reports_isService 10 11 (1 : Int32) (.iconst 1) 1 := ⟨by decide +kernel, rfl, show Int32.ofInt 1 = (1 : Int32) by decide +kernel⟩
theorem d_Reports_isService_11 : ob_db k_Reports_isService 11 (.goto 4) 4 14 15 := ⟨by decide +kernel, rfl, by decide⟩
theorem d_Reports_isService_7 : ob_db k_Reports_isService 7 (.if_icmp .ge 7) 7 10 14 := ⟨by decide +kernel, rfl, by decide⟩
theorem d_Reports_isService_4 : ob_dv ob_lc k_Reports_isService 4 5 0 (.iload_n 0) 1 := ⟨by decide +kernel, rfl, rfl⟩
theorem d_Reports_isService_1 : ob_db k_Reports_isService 1 (.ifCond .lt 13) 13 4 14 := ⟨by decide +kernel, rfl, by decide⟩
theorem d_Reports_isService_0 : ob_dv ob_lc k_Reports_isService 0 1 0 (.iload_n 0) 1 := ⟨by decide +kernel, rfl, rfl⟩
def f_Reports_isService (S : ob_S) (v0 : Int32) (D : ob_D) : Option (Int32 × ob_D) :=
  (if v0 < 0 then some ((0 : Int32), D) else (if (32 : Int32) ≤ v0 then some ((0 : Int32), D) else some ((1 : Int32), D)))
theorem c_Reports_isService {l : Launch} {E : ob_E} {S : ob_S} {D : ob_D} {v0 : Int32} {r : Int32} {D' : ob_D}  (h : f_Reports_isService S v0 D = some (r, D')) : ob_M l E k_Reports_isService [.int v0] S D (some (.int r)) S D' := by
  refine ob_ofV (lo := [(0, .int v0)]) (by decide) rfl (Nat.le_of_ble_eq_true rfl) rfl (Nat.le_refl _) (Nat.le_refl _) ?_
  rw [f_Reports_isService] at h
  refine ob_iload d_Reports_isService_0 rfl ?_
  refine ob_if_lt d_Reports_isService_1 (fun hc => ?_) (fun hc => ?_)
  · replace h := ob_ift hc h
    refine ob_push d_Reports_isService_14 ?_
    exact ob_ie h (ob_iret d_Reports_isService_15 rfl rfl)
  · replace h := ob_iff hc h
    refine ob_iload d_Reports_isService_4 rfl ?_
    refine ob_push d_Reports_isService_5 ?_
    refine ob_icmp_ge d_Reports_isService_7 (fun hc => ?_) (fun hc => ?_)
    · replace h := ob_ift hc h
      refine ob_push d_Reports_isService_14 ?_
      exact ob_ie h (ob_iret d_Reports_isService_15 rfl rfl)
    · replace h := ob_iff hc h
      refine ob_push d_Reports_isService_10 ?_
      refine ob_goto d_Reports_isService_11 ?_
      exact ob_ie h (ob_iret d_Reports_isService_15 rfl rfl)
-- OrbitBox$Reports.dropOldest()V
theorem d_Reports_dropOldest_4 : ob_dk k_Reports_dropOldest 4 5 (4 : Int32) (.iconst 4) 1 := ⟨by decide +kernel, rfl, show Int32.ofInt 4 = (4 : Int32) by decide +kernel⟩
theorem d_Reports_dropOldest_5 : ob_dk k_Reports_dropOldest 5 6 (2 : Int32) (.iconst 2) 1 := ⟨by decide +kernel, rfl, show Int32.ofInt 2 = (2 : Int32) by decide +kernel⟩
theorem d_Reports_dropOldest_9 : ob_dk k_Reports_dropOldest 9 11 (7 : Int32) (.bipush 7) 2 := ⟨by decide +kernel, rfl, show (Int8.ofInt 7).toInt32 = (7 : Int32) by decide +kernel⟩
theorem d_Reports_dropOldest_26 : ob_dk k_Reports_dropOldest 26 27 (1 : Int32) (.iconst 1) 1 := ⟨by decide +kernel, rfl, show Int32.ofInt 1 = (1 : Int32) by decide +kernel⟩
theorem d_Reports_dropOldest_49 : ob_dk k_Reports_dropOldest 49 50 (0 : Int32) (.iconst 0) 1 := ⟨by decide +kernel, rfl, show Int32.ofInt 0 = (0 : Int32) by decide +kernel⟩
theorem d_Reports_dropOldest_53 : ob_dc k_Reports_dropOldest 53 (.return_) 1 54 := ⟨by decide +kernel, rfl⟩
theorem d_Reports_dropOldest_50 : ob_dc k_Reports_dropOldest 50 (.putfield 88) 3 53 := ⟨by decide +kernel, rfl⟩
theorem d_Reports_dropOldest_46 : ob_db k_Reports_dropOldest 46 (.goto 4) 4 49 50 := ⟨by decide +kernel, rfl, by decide⟩
theorem d_Reports_dropOldest_45 : ob_dc k_Reports_dropOldest 45 (.isub) 1 46 := ⟨by decide +kernel, rfl⟩
theorem d_Reports_dropOldest_44 : ob_dv ob_lc k_Reports_dropOldest 44 45 1 (.iload_n 1) 1 := ⟨by decide +kernel, rfl, rfl⟩
theorem d_Reports_dropOldest_41 : ob_dc k_Reports_dropOldest 41 (.getfield 88) 3 44 := ⟨by decide +kernel, rfl⟩
theorem d_Reports_dropOldest_40 : ob_dv ob_ac k_Reports_dropOldest 40 41 0 (.aload_n 0) 1 := ⟨by decide +kernel, rfl, rfl⟩
theorem d_Reports_dropOldest_37 : ob_db k_Reports_dropOldest 37 (.if_icmp .le 12) 12 40 49 := ⟨by decide +kernel, rfl, by decide⟩
theorem d_Reports_dropOldest_36 : ob_dv ob_lc k_Reports_dropOldest 36 37 1 (.iload_n 1) 1 := ⟨by decide +kernel, rfl, rfl⟩
theorem d_Reports_dropOldest_33 : ob_dc k_Reports_dropOldest 33 (.getfield 88) 3 36 := ⟨by decide +kernel, rfl⟩
theorem d_Reports_dropOldest_32 : ob_dv ob_ac k_Reports_dropOldest 32 33 0 (.aload_n 0) 1 := ⟨by decide +kernel, rfl, rfl⟩
theorem d_Reports_dropOldest_31 : ob_dv ob_ac k_Reports_dropOldest 31 32 0 (.aload_n 0) 1 := ⟨by decide +kernel, rfl, rfl⟩
theorem d_Reports_dropOldest_28 : ob_dc k_Reports_dropOldest 28 (.putfield 75) 3 31 := ⟨by decide +kernel, rfl⟩
theorem d_Reports_dropOldest_27 : ob_dc k_Reports_dropOldest 27 (.isub) 1 28 := ⟨by decide +kernel, rfl⟩
theorem d_Reports_dropOldest_23 : ob_dc k_Reports_dropOldest 23 (.getfield 75) 3 26 := ⟨by decide +kernel, rfl⟩
theorem d_Reports_dropOldest_22 : ob_dc k_Reports_dropOldest 22 (.dup) 1 23 := ⟨by decide +kernel, rfl⟩
theorem d_Reports_dropOldest_21 : ob_dv ob_ac k_Reports_dropOldest 21 22 0 (.aload_n 0) 1 := ⟨by decide +kernel, rfl, rfl⟩
theorem d_Reports_dropOldest_18 : ob_dc k_Reports_dropOldest 18 (.invokevirtual 85) 3 21 := ⟨by decide +kernel, rfl⟩
theorem d_Reports_dropOldest_17 : ob_dv ob_lc k_Reports_dropOldest 17 18 1 (.iload_n 1) 1 := ⟨by decide +kernel, rfl, rfl⟩
theorem d_Reports_dropOldest_14 : ob_dc k_Reports_dropOldest 14 (.getfield 20) 3 17 := ⟨by decide +kernel, rfl⟩
theorem d_Reports_dropOldest_13 : ob_dv ob_ac k_Reports_dropOldest 13 14 0 (.aload_n 0) 1 := ⟨by decide +kernel, rfl, rfl⟩
theorem d_Reports_dropOldest_12 : ob_dv (ob_sc k_Reports_dropOldest.2.2.2.1) k_Reports_dropOldest 12 13 1 (.istore_n 1) 1 := ⟨by decide +kernel, rfl, ⟨rfl, by decide +kernel⟩⟩
theorem d_Reports_dropOldest_11 : ob_dc k_Reports_dropOldest 11 (.iadd) 1 12 := ⟨by decide +kernel, rfl⟩
theorem d_Reports_dropOldest_6 : ob_dc k_Reports_dropOldest 6 (.invokevirtual 84) 3 9 := ⟨by decide +kernel, rfl⟩
theorem d_Reports_dropOldest_1 : ob_dc k_Reports_dropOldest 1 (.getfield 20) 3 4 := ⟨by decide +kernel, rfl⟩
theorem d_Reports_dropOldest_0 : ob_dv ob_ac k_Reports_dropOldest 0 1 0 (.aload_n 0) 1 := ⟨by decide +kernel, rfl, rfl⟩
theorem c_Reports_dropOldest_85 : ob_vd k_Reports_dropOldest k_Ring_drop 85 1 2 := ⟨cw_Ring_drop, yd_Ring_drop, w_647, w_648, w_649, w_8, ⟨_, _, rfl⟩, by decide, by decide⟩
theorem c_Reports_dropOldest_84 : ob_vd k_Reports_dropOldest k_Ring_number 84 2 2 := ⟨cw_Ring_number, yd_Ring_number, w_643, w_644, w_645, w_8, ⟨_, _, rfl⟩, by decide, by decide⟩
def f_Reports_dropOldest (S : ob_S) (v0 : Nat) (D : ob_D) : Option (ob_D) :=
  if D.2.1 v0 1 ≠ 0 then ob_bd (f_Ring_number S (D.2.1 v0 1) (4 : Int32) (2 : Int32) D) fun x5 D3 => if D3.2.1 v0 1 ≠ 0 then ob_bv (f_Ring_drop S (D3.2.1 v0 1) (x5 + (7 : Int32)) D3) fun D8 => ob_lt (ob_pI D8 v0 7 ((D8.1 v0 7) - (1 : Int32))) fun D10 => (if (D10.1 v0 11) ≤ (x5 + (7 : Int32)) then ob_lt (ob_pI D10 v0 11 (0 : Int32)) fun D11 => some D11 else ob_lt (ob_pI D10 v0 11 ((D10.1 v0 11) - (x5 + (7 : Int32)))) fun D12 => some D12) else none else none
theorem c_Reports_dropOldest {l : Launch} {E : ob_E} {S : ob_S} {D : ob_D} {v0 : Nat} {D' : ob_D} (hp_v0 : S.1 v0 = 9) (h : f_Reports_dropOldest S v0 D = some D') : ob_M l E k_Reports_dropOldest [.ref v0] S D none S D' := by
  refine ob_ofV (lo := [(0, .ref v0)]) (by decide) rfl (Nat.le_of_ble_eq_true rfl) rfl (Nat.le_refl _) (Nat.le_refl _) ?_
  rw [f_Reports_dropOldest] at h
  refine ob_aload d_Reports_dropOldest_0 rfl ?_
  obtain ⟨hg2, h⟩ := ob_gd h
  refine ob_getR d_Reports_dropOldest_1 F_8_1 l_Reports_20 hp_v0 hg2 (fun hk1 => ?_)
  refine ob_push d_Reports_dropOldest_4 ?_
  refine ob_push d_Reports_dropOldest_5 ?_
  obtain ⟨x5, D3, h4, h⟩ := ob_bd_e h
  refine ob_callVi (As := [.int (4 : Int32), .int (2 : Int32)]) (rest := []) d_Reports_dropOldest_6 c_Reports_dropOldest_84 hk1 rfl rfl (Nat.le_of_ble_eq_true rfl) (c_Ring_number hk1 h4) ⟨Nat.le_refl _, Nat.le_refl _⟩ ⟨Nat.le_refl _, Nat.le_refl _⟩ ?_
  refine ob_push d_Reports_dropOldest_9 ?_
  refine ob_iadd d_Reports_dropOldest_11 ?_
  refine ob_istore (lo2 := [(0, .ref v0), (1, .int (x5 + (7 : Int32)))]) d_Reports_dropOldest_12 rfl ?_
  refine ob_aload d_Reports_dropOldest_13 rfl ?_
  obtain ⟨hg7, h⟩ := ob_gd h
  refine ob_getR d_Reports_dropOldest_14 F_8_1 l_Reports_20 hp_v0 hg7 (fun hk6 => ?_)
  refine ob_iload d_Reports_dropOldest_17 rfl ?_
  obtain ⟨D8, h9, h⟩ := ob_bv_e h
  refine ob_callVv (As := [.int (x5 + (7 : Int32))]) (rest := []) d_Reports_dropOldest_18 c_Reports_dropOldest_85 hk6 rfl rfl (Nat.le_of_ble_eq_true rfl) (c_Ring_drop hk6 h9) ⟨Nat.le_refl _, Nat.le_refl _⟩ ⟨Nat.le_refl _, Nat.le_refl _⟩ ?_
  refine ob_aload d_Reports_dropOldest_21 rfl ?_
  refine ob_dup d_Reports_dropOldest_22 rfl ?_
  refine ob_getI d_Reports_dropOldest_23 F_8_7 l_Reports_75 hp_v0 ?_
  refine ob_push d_Reports_dropOldest_26 ?_
  refine ob_isub d_Reports_dropOldest_27 ?_
  replace h := ob_lt_e h
  refine ob_putI d_Reports_dropOldest_28 F_8_7 l_Reports_75 hp_v0 ?_
  refine ob_aload d_Reports_dropOldest_31 rfl ?_
  refine ob_aload d_Reports_dropOldest_32 rfl ?_
  refine ob_getI d_Reports_dropOldest_33 F_8_11 l_Reports_88 hp_v0 ?_
  refine ob_iload d_Reports_dropOldest_36 rfl ?_
  refine ob_icmp_le d_Reports_dropOldest_37 (fun hc => ?_) (fun hc => ?_)
  · replace h := ob_ift hc h
    refine ob_push d_Reports_dropOldest_49 ?_
    replace h := ob_lt_e h
    refine ob_putI d_Reports_dropOldest_50 F_8_11 l_Reports_88 hp_v0 ?_
    exact ob_ve h (ob_vret d_Reports_dropOldest_53 rfl)
  · replace h := ob_iff hc h
    refine ob_aload d_Reports_dropOldest_40 rfl ?_
    refine ob_getI d_Reports_dropOldest_41 F_8_11 l_Reports_88 hp_v0 ?_
    refine ob_iload d_Reports_dropOldest_44 rfl ?_
    refine ob_isub d_Reports_dropOldest_45 ?_
    refine ob_goto d_Reports_dropOldest_46 ?_
    replace h := ob_lt_e h
    refine ob_putI d_Reports_dropOldest_50 F_8_11 l_Reports_88 hp_v0 ?_
    exact ob_ve h (ob_vret d_Reports_dropOldest_53 rfl)
-- OrbitBox$Reports.send()V
theorem d_Reports_send_4 : ob_dk k_Reports_send 4 5 (4 : Int32) (.iconst 4) 1 := ⟨by decide +kernel, rfl, show Int32.ofInt 4 = (4 : Int32) by decide +kernel⟩
theorem d_Reports_send_12 : ob_dk k_Reports_send 12 13 (2 : Int32) (.iconst 2) 1 := ⟨by decide +kernel, rfl, show Int32.ofInt 2 = (2 : Int32) by decide +kernel⟩
theorem d_Reports_send_14 : ob_dk k_Reports_send 14 16 (7 : Int32) (.bipush 7) 2 := ⟨by decide +kernel, rfl, show (Int8.ofInt 7).toInt32 = (7 : Int32) by decide +kernel⟩
theorem d_Reports_send_17 : ob_dk k_Reports_send 17 18 (2 : Int32) (.iconst 2) 1 := ⟨by decide +kernel, rfl, show Int32.ofInt 2 = (2 : Int32) by decide +kernel⟩
theorem d_Reports_send_29 : ob_dk k_Reports_send 29 30 (0 : Int32) (.iconst 0) 1 := ⟨by decide +kernel, rfl, show Int32.ofInt 0 = (0 : Int32) by decide +kernel⟩
theorem d_Reports_send_40 : ob_dk k_Reports_send 40 41 (2 : Int32) (.iconst 2) 1 := ⟨by decide +kernel, rfl, show Int32.ofInt 2 = (2 : Int32) by decide +kernel⟩
theorem d_Reports_send_72 : ob_dk k_Reports_send 72 74 (7 : Int32) (.bipush 7) 2 := ⟨by decide +kernel, rfl, show (Int8.ofInt 7).toInt32 = (7 : Int32) by decide +kernel⟩
theorem d_Reports_send_74 : ob_dk k_Reports_send 74 75 (1 : Int32) (.iconst 1) 1 := ⟨by decide +kernel, rfl, show Int32.ofInt 1 = (1 : Int32) by decide +kernel⟩
theorem d_Reports_send_113 : ob_dc k_Reports_send 113 (.return_) 1 114 := ⟨by decide +kernel, rfl⟩
theorem d_Reports_send_167 : ob_dk k_Reports_send 167 168 (1 : Int32) (.iconst 1) 1 := ⟨by decide +kernel, rfl, show Int32.ofInt 1 = (1 : Int32) by decide +kernel⟩
theorem d_Reports_send_172 : ob_dc k_Reports_send 172 (.return_) 1 173 := ⟨by decide +kernel, rfl⟩
theorem d_Reports_send_169 : ob_dc k_Reports_send 169 (.putfield 75) 3 172 := ⟨by decide +kernel, rfl⟩
theorem d_Reports_send_168 : ob_dc k_Reports_send 168 (.iadd) 1 169 := ⟨by decide +kernel, rfl⟩
theorem d_Reports_send_164 : ob_dc k_Reports_send 164 (.getfield 75) 3 167 := ⟨by decide +kernel, rfl⟩
theorem d_Reports_send_163 : ob_dc k_Reports_send 163 (.dup) 1 164 := ⟨by decide +kernel, rfl⟩
theorem d_Reports_send_162 : ob_dv ob_ac k_Reports_send 162 163 0 (.aload_n 0) 1 := ⟨by decide +kernel, rfl, rfl⟩
theorem d_Reports_send_161 : ob_dc k_Reports_send 161 (.pop) 1 162 := ⟨by decide +kernel, rfl⟩
theorem d_Reports_send_158 : ob_dc k_Reports_send 158 (.invokevirtual 58) 3 161 := ⟨by decide +kernel, rfl⟩
theorem d_Reports_send_155 : ob_dc k_Reports_send 155 (.getfield 26) 3 158 := ⟨by decide +kernel, rfl⟩
theorem d_Reports_send_154 : ob_dv ob_ac k_Reports_send 154 155 0 (.aload_n 0) 1 := ⟨by decide +kernel, rfl, rfl⟩
theorem d_Reports_send_151 : ob_dc k_Reports_send 151 (.getfield 20) 3 154 := ⟨by decide +kernel, rfl⟩
theorem d_Reports_send_150 : ob_dv ob_ac k_Reports_send 150 151 0 (.aload_n 0) 1 := ⟨by decide +kernel, rfl, rfl⟩
theorem d_Reports_send_144 : ob_di k_Reports_send 144 147 2 (-1) (-1 : Int32) := ⟨by decide +kernel, rfl, by decide +kernel, by decide +kernel⟩
theorem d_Reports_send_147 : ob_db k_Reports_send 147 (.goto (-28)) (-28) 150 119 := ⟨by decide +kernel, rfl, by decide⟩
theorem d_Reports_send_141 : ob_dc k_Reports_send 141 (.invokevirtual 81) 3 144 := ⟨by decide +kernel, rfl⟩
theorem d_Reports_send_140 : ob_dv ob_ac k_Reports_send 140 141 0 (.aload_n 0) 1 := ⟨by decide +kernel, rfl, rfl⟩
theorem d_Reports_send_137 : ob_db k_Reports_send 137 (.ifCond .ne 13) 13 140 150 := ⟨by decide +kernel, rfl, by decide⟩
theorem d_Reports_send_134 : ob_dc k_Reports_send 134 (.invokevirtual 78) 3 137 := ⟨by decide +kernel, rfl⟩
theorem d_Reports_send_131 : ob_dc k_Reports_send 131 (.getfield 38) 3 134 := ⟨by decide +kernel, rfl⟩
theorem d_Reports_send_128 : ob_dc k_Reports_send 128 (.getfield 26) 3 131 := ⟨by decide +kernel, rfl⟩
theorem d_Reports_send_127 : ob_dv ob_ac k_Reports_send 127 128 0 (.aload_n 0) 1 := ⟨by decide +kernel, rfl, rfl⟩
theorem d_Reports_send_124 : ob_dc k_Reports_send 124 (.getfield 20) 3 127 := ⟨by decide +kernel, rfl⟩
theorem d_Reports_send_123 : ob_dv ob_ac k_Reports_send 123 124 0 (.aload_n 0) 1 := ⟨by decide +kernel, rfl, rfl⟩
theorem d_Reports_send_120 : ob_db k_Reports_send 120 (.ifCond .le 30) 30 123 150 := ⟨by decide +kernel, rfl, by decide⟩
theorem d_Reports_send_119 : ob_dv ob_lc k_Reports_send 119 120 2 (.iload_n 2) 1 := ⟨by decide +kernel, rfl, rfl⟩
theorem d_Reports_send_118 : ob_dv (ob_sc k_Reports_send.2.2.2.1) k_Reports_send 118 119 2 (.istore_n 2) 1 := ⟨by decide +kernel, rfl, ⟨rfl, by decide +kernel⟩⟩
theorem d_Reports_send_115 : ob_dc k_Reports_send 115 (.getfield 75) 3 118 := ⟨by decide +kernel, rfl⟩
theorem d_Reports_send_114 : ob_dv ob_ac k_Reports_send 114 115 0 (.aload_n 0) 1 := ⟨by decide +kernel, rfl, rfl⟩
theorem d_Reports_send_110 : ob_db k_Reports_send 110 (.if_icmp .le 4) 4 113 114 := ⟨by decide +kernel, rfl, by decide⟩
theorem d_Reports_send_109 : ob_dc k_Reports_send 109 (.arraylength) 1 110 := ⟨by decide +kernel, rfl⟩
theorem d_Reports_send_106 : ob_dc k_Reports_send 106 (.getfield 72) 3 109 := ⟨by decide +kernel, rfl⟩
theorem d_Reports_send_103 : ob_dc k_Reports_send 103 (.getfield 20) 3 106 := ⟨by decide +kernel, rfl⟩
theorem d_Reports_send_102 : ob_dv ob_ac k_Reports_send 102 103 0 (.aload_n 0) 1 := ⟨by decide +kernel, rfl, rfl⟩
theorem d_Reports_send_99 : ob_dc k_Reports_send 99 (.getfield 38) 3 102 := ⟨by decide +kernel, rfl⟩
theorem d_Reports_send_96 : ob_dc k_Reports_send 96 (.getfield 26) 3 99 := ⟨by decide +kernel, rfl⟩
theorem d_Reports_send_95 : ob_dv ob_ac k_Reports_send 95 96 0 (.aload_n 0) 1 := ⟨by decide +kernel, rfl, rfl⟩
theorem d_Reports_send_92 : ob_db k_Reports_send 92 (.ifCond .eq 21) 21 95 113 := ⟨by decide +kernel, rfl, by decide⟩
theorem d_Reports_send_91 : ob_dc k_Reports_send 91 (.baload) 1 92 := ⟨by decide +kernel, rfl⟩
theorem d_Reports_send_90 : ob_dv ob_lc k_Reports_send 90 91 1 (.iload_n 1) 1 := ⟨by decide +kernel, rfl, rfl⟩
theorem d_Reports_send_87 : ob_dc k_Reports_send 87 (.getfield 30) 3 90 := ⟨by decide +kernel, rfl⟩
theorem d_Reports_send_86 : ob_dv ob_ac k_Reports_send 86 87 0 (.aload_n 0) 1 := ⟨by decide +kernel, rfl, rfl⟩
theorem d_Reports_send_83 : ob_db k_Reports_send 83 (.ifCond .eq 30) 30 86 113 := ⟨by decide +kernel, rfl, by decide⟩
theorem d_Reports_send_80 : ob_dc k_Reports_send 80 (.invokestatic 68) 3 83 := ⟨by decide +kernel, rfl⟩
theorem d_Reports_send_79 : ob_dv ob_lc k_Reports_send 79 80 1 (.iload_n 1) 1 := ⟨by decide +kernel, rfl, rfl⟩
theorem d_Reports_send_78 : ob_dv (ob_sc k_Reports_send.2.2.2.1) k_Reports_send 78 79 1 (.istore_n 1) 1 := ⟨by decide +kernel, rfl, ⟨rfl, by decide +kernel⟩⟩
theorem d_Reports_send_75 : ob_dc k_Reports_send 75 (.invokevirtual 65) 3 78 := ⟨by decide +kernel, rfl⟩
theorem d_Reports_send_69 : ob_dc k_Reports_send 69 (.getfield 26) 3 72 := ⟨by decide +kernel, rfl⟩
theorem d_Reports_send_68 : ob_dv ob_ac k_Reports_send 68 69 0 (.aload_n 0) 1 := ⟨by decide +kernel, rfl, rfl⟩
theorem d_Reports_send_63 : ob_dk k_Reports_send 63 64 (1 : Int32) (.iconst 1) 1 := ⟨by decide +kernel, rfl, show Int32.ofInt 1 = (1 : Int32) by decide +kernel⟩
theorem d_Reports_send_65 : ob_dc k_Reports_send 65 (.putfield 62) 3 68 := ⟨by decide +kernel, rfl⟩
theorem d_Reports_send_64 : ob_dc k_Reports_send 64 (.iadd) 1 65 := ⟨by decide +kernel, rfl⟩
theorem d_Reports_send_60 : ob_dc k_Reports_send 60 (.getfield 62) 3 63 := ⟨by decide +kernel, rfl⟩
theorem d_Reports_send_59 : ob_dc k_Reports_send 59 (.dup) 1 60 := ⟨by decide +kernel, rfl⟩
theorem d_Reports_send_58 : ob_dv ob_ac k_Reports_send 58 59 0 (.aload_n 0) 1 := ⟨by decide +kernel, rfl, rfl⟩
theorem d_Reports_send_55 : ob_db k_Reports_send 55 (.ifCond .ne 13) 13 58 68 := ⟨by decide +kernel, rfl, by decide⟩
theorem d_Reports_send_52 : ob_dc k_Reports_send 52 (.invokevirtual 58) 3 55 := ⟨by decide +kernel, rfl⟩
theorem d_Reports_send_49 : ob_dc k_Reports_send 49 (.getfield 26) 3 52 := ⟨by decide +kernel, rfl⟩
theorem d_Reports_send_48 : ob_dv ob_ac k_Reports_send 48 49 0 (.aload_n 0) 1 := ⟨by decide +kernel, rfl, rfl⟩
theorem d_Reports_send_45 : ob_dc k_Reports_send 45 (.getfield 9) 3 48 := ⟨by decide +kernel, rfl⟩
theorem d_Reports_send_44 : ob_dv ob_ac k_Reports_send 44 45 0 (.aload_n 0) 1 := ⟨by decide +kernel, rfl, rfl⟩
theorem d_Reports_send_41 : ob_dc k_Reports_send 41 (.invokevirtual 42) 3 44 := ⟨by decide +kernel, rfl⟩
theorem d_Reports_send_37 : ob_dc k_Reports_send 37 (.invokevirtual 54) 3 40 := ⟨by decide +kernel, rfl⟩
theorem d_Reports_send_34 : ob_dc k_Reports_send 34 (.getfield 38) 3 37 := ⟨by decide +kernel, rfl⟩
theorem d_Reports_send_31 : ob_dc k_Reports_send 31 (.getfield 26) 3 34 := ⟨by decide +kernel, rfl⟩
theorem d_Reports_send_30 : ob_dv ob_ac k_Reports_send 30 31 0 (.aload_n 0) 1 := ⟨by decide +kernel, rfl, rfl⟩
theorem d_Reports_send_26 : ob_dc k_Reports_send 26 (.getfield 26) 3 29 := ⟨by decide +kernel, rfl⟩
theorem d_Reports_send_25 : ob_dv ob_ac k_Reports_send 25 26 0 (.aload_n 0) 1 := ⟨by decide +kernel, rfl, rfl⟩
theorem d_Reports_send_22 : ob_dc k_Reports_send 22 (.getfield 26) 3 25 := ⟨by decide +kernel, rfl⟩
theorem d_Reports_send_21 : ob_dv ob_ac k_Reports_send 21 22 0 (.aload_n 0) 1 := ⟨by decide +kernel, rfl, rfl⟩
theorem d_Reports_send_18 : ob_dc k_Reports_send 18 (.invokevirtual 50) 3 21 := ⟨by decide +kernel, rfl⟩
theorem d_Reports_send_16 : ob_dc k_Reports_send 16 (.isub) 1 17 := ⟨by decide +kernel, rfl⟩
theorem d_Reports_send_13 : ob_dc k_Reports_send 13 (.iadd) 1 14 := ⟨by decide +kernel, rfl⟩
theorem d_Reports_send_9 : ob_dc k_Reports_send 9 (.getfield 38) 3 12 := ⟨by decide +kernel, rfl⟩
theorem d_Reports_send_6 : ob_dc k_Reports_send 6 (.getfield 26) 3 9 := ⟨by decide +kernel, rfl⟩
theorem d_Reports_send_5 : ob_dv ob_ac k_Reports_send 5 6 0 (.aload_n 0) 1 := ⟨by decide +kernel, rfl, rfl⟩
theorem d_Reports_send_1 : ob_dc k_Reports_send 1 (.getfield 26) 3 4 := ⟨by decide +kernel, rfl⟩
theorem d_Reports_send_0 : ob_dv ob_ac k_Reports_send 0 1 0 (.aload_n 0) 1 := ⟨by decide +kernel, rfl, rfl⟩
theorem c_Reports_send_58 : ob_vd k_Reports_send k_Ring_putPacket 58 1 2 := ⟨cw_Ring_putPacket, yd_Ring_putPacket, w_622, w_623, w_624, w_8, ⟨_, _, rfl⟩, by decide, by decide⟩
theorem c_Reports_send_81 : ob_vd k_Reports_send k_Reports_dropOldest 81 0 8 := ⟨cw_Reports_dropOldest, yd_Reports_dropOldest, w_639, w_641, wp_12, w_11, ⟨_, _, rfl⟩, by decide, by decide⟩
theorem c_Reports_send_78 : ob_vd k_Reports_send k_Ring_hasRoom 78 1 2 := ⟨cw_Ring_hasRoom, yd_Ring_hasRoom, w_638, w_627, w_628, w_8, ⟨_, _, rfl⟩, by decide, by decide⟩
theorem c_Reports_send_68 : ob_sd k_Reports_send k_Reports_isService 68 1 := ⟨cw_Reports_isService, yd_Reports_isService, w_635, w_636, w_11, by decide, by decide⟩
theorem c_Reports_send_65 : ob_vd k_Reports_send k_Row_number 65 2 1 := ⟨cw_Row_number, yd_Row_number, w_634, w_479, w_480, w_2, ⟨_, _, rfl⟩, by decide, by decide⟩
theorem c_Reports_send_42 : ob_vd k_Reports_send k_Row_add 42 2 1 := ⟨cw_Row_add, yd_Row_add, w_610, w_467, w_468, w_2, ⟨_, _, rfl⟩, by decide, by decide⟩
theorem c_Reports_send_54 : ob_vd k_Reports_send k_Row_check 54 2 1 := ⟨cw_Row_check, yd_Row_check, w_621, w_525, w_526, w_2, ⟨_, _, rfl⟩, by decide, by decide⟩
theorem c_Reports_send_50 : ob_vd k_Reports_send k_Row_replace 50 3 1 := ⟨cw_Row_replace, yd_Row_replace, w_617, w_618, w_619, w_2, ⟨_, _, rfl⟩, by decide, by decide⟩
def f_Reports_send_L150 (S : ob_S) (v0 : Nat) (D : ob_D) : Option (ob_D) :=
  if D.2.1 v0 1 ≠ 0 then if D.2.1 v0 2 ≠ 0 then ob_bd (f_Ring_putPacket S (D.2.1 v0 1) (D.2.1 v0 2) D) fun x48 D46 => ob_lt (ob_pI D46 v0 7 ((D46.1 v0 7) + (1 : Int32))) fun D49 => some D49 else none else none
theorem v_Reports_send_L150 {l : Launch} {E : ob_E} {S : ob_S} {D' : ob_D} : ∀ (v0 : Nat) (D : ob_D), S.1 v0 = 9 → f_Reports_send_L150 S v0 D = some D' → ob_V l E k_Reports_send 150 [(0, .ref v0)] [] S D none S D' := by
  intro v0 D hp_v0 h
  rw [f_Reports_send_L150] at h
  refine ob_aload d_Reports_send_150 rfl ?_
  obtain ⟨hg43, h⟩ := ob_gd h
  refine ob_getR d_Reports_send_151 F_8_1 l_Reports_20 hp_v0 hg43 (fun hk42 => ?_)
  refine ob_aload d_Reports_send_154 rfl ?_
  obtain ⟨hg45, h⟩ := ob_gd h
  refine ob_getR d_Reports_send_155 F_8_2 l_Reports_26 hp_v0 hg45 (fun hk44 => ?_)
  obtain ⟨x48, D46, h47, h⟩ := ob_bd_e h
  refine ob_callVi (As := [.ref (D.2.1 v0 2)]) (rest := []) d_Reports_send_158 c_Reports_send_58 hk42 rfl rfl (Nat.le_of_ble_eq_true rfl) (c_Ring_putPacket hk42 hk44 h47) ⟨Nat.le_refl _, Nat.le_refl _⟩ ⟨Nat.le_refl _, Nat.le_refl _⟩ ?_
  refine ob_pop d_Reports_send_161 rfl ?_
  refine ob_aload d_Reports_send_162 rfl ?_
  refine ob_dup d_Reports_send_163 rfl ?_
  refine ob_getI d_Reports_send_164 F_8_7 l_Reports_75 hp_v0 ?_
  refine ob_push d_Reports_send_167 ?_
  refine ob_iadd d_Reports_send_168 ?_
  replace h := ob_lt_e h
  refine ob_putI d_Reports_send_169 F_8_7 l_Reports_75 hp_v0 ?_
  exact ob_ve h (ob_vret d_Reports_send_172 rfl)
def f_Reports_send_L119 (S : ob_S) : Nat → Nat → Int32 → ob_D → Option (ob_D)
  | 0, _, _, _ => none
  | n + 1, v0, v2, D => (if v2 ≤ 0 then f_Reports_send_L150 S v0 D else if D.2.1 v0 1 ≠ 0 then if D.2.1 v0 2 ≠ 0 then ob_bd (f_Ring_hasRoom S (D.2.1 v0 1) (D.1 (D.2.1 v0 2) 1) D) fun x56 D54 => (if x56 = 0 then ob_bv (f_Reports_dropOldest S v0 D54) fun D57 => f_Reports_send_L119 S n v0 (v2 + (-1 : Int32)) D57 else f_Reports_send_L150 S v0 D54) else none else none)
theorem v_Reports_send_L119 {l : Launch} {E : ob_E} {S : ob_S} {D' : ob_D} : ∀ (n : Nat), ∀ (v0 : Nat) (v2 : Int32) (D : ob_D), S.1 v0 = 9 → f_Reports_send_L119 S n v0 v2 D = some D' → ob_V l E k_Reports_send 119 [(0, .ref v0), (2, .int v2)] [] S D none S D' := by
  intro n
  induction n with
  | zero =>
    intro v0 v2 D hp_v0 h
    have h : none = some D' := h
    cases h
  | succ n ih =>
    intro v0 v2 D hp_v0 h
    rw [f_Reports_send_L119] at h
    refine ob_iload d_Reports_send_119 rfl ?_
    refine ob_if_le d_Reports_send_120 (fun hc => ?_) (fun hc => ?_)
    · replace h := ob_ift hc h
      refine ob_sub (lo2 := [(0, .ref v0)]) [0] rfl ?_
      exact v_Reports_send_L150 v0 D hp_v0 h
    · replace h := ob_iff hc h
      refine ob_aload d_Reports_send_123 rfl ?_
      obtain ⟨hg51, h⟩ := ob_gd h
      refine ob_getR d_Reports_send_124 F_8_1 l_Reports_20 hp_v0 hg51 (fun hk50 => ?_)
      refine ob_aload d_Reports_send_127 rfl ?_
      obtain ⟨hg53, h⟩ := ob_gd h
      refine ob_getR d_Reports_send_128 F_8_2 l_Reports_26 hp_v0 hg53 (fun hk52 => ?_)
      refine ob_getI d_Reports_send_131 F_1_1 l_Reports_38 hk52 ?_
      obtain ⟨x56, D54, h55, h⟩ := ob_bd_e h
      refine ob_callVi (As := [.int (D.1 (D.2.1 v0 2) 1)]) (rest := []) d_Reports_send_134 c_Reports_send_78 hk50 rfl rfl (Nat.le_of_ble_eq_true rfl) (c_Ring_hasRoom hk50 h55) ⟨Nat.le_refl _, Nat.le_refl _⟩ ⟨Nat.le_refl _, Nat.le_refl _⟩ ?_
      refine ob_if_ne d_Reports_send_137 (fun hc => ?_) (fun hc => ?_)
      · replace h := ob_iff hc h
        refine ob_sub (lo2 := [(0, .ref v0)]) [0] rfl ?_
        exact v_Reports_send_L150 v0 D54 hp_v0 h
      · replace h := ob_ift hc h
        refine ob_aload d_Reports_send_140 rfl ?_
        obtain ⟨D57, h58, h⟩ := ob_bv_e h
        refine ob_callVv (As := []) (rest := []) d_Reports_send_141 c_Reports_send_81 hp_v0 rfl rfl (Nat.le_of_ble_eq_true rfl) (c_Reports_dropOldest hp_v0 h58) ⟨Nat.le_refl _, Nat.le_refl _⟩ ⟨Nat.le_refl _, Nat.le_refl _⟩ ?_
        refine ob_iinc (lo2 := [(0, .ref v0), (2, .int (v2 + (-1 : Int32)))]) d_Reports_send_144 rfl rfl ?_
        refine ob_goto d_Reports_send_147 ?_
        exact ih v0 (v2 + (-1 : Int32)) D57 hp_v0 h
def f_Reports_send_L68 (S : ob_S) (v0 : Nat) (D : ob_D) : Option (ob_D) :=
  if D.2.1 v0 2 ≠ 0 then ob_bd (f_Row_number S (D.2.1 v0 2) (7 : Int32) (1 : Int32) D) fun x29 D27 => ob_bd (f_Reports_isService S x29 D27) fun x32 D30 => (if x32 = 0 then some D30 else if D30.2.1 v0 3 ≠ 0 then if ob_in x29 (S.2.1 (D30.2.1 v0 3)) then (if (D30.1 (D30.2.1 v0 3) x29.toNatClampNeg) = 0 then some D30 else if D30.2.1 v0 2 ≠ 0 then if D30.2.1 v0 1 ≠ 0 then if D30.2.1 (D30.2.1 v0 1) 0 ≠ 0 then (if (D30.1 (D30.2.1 v0 2) 1) ≤ (Int32.ofNat (S.2.1 (D30.2.1 (D30.2.1 v0 1) 0))) then f_Reports_send_L119 S ob_FU v0 (D30.1 v0 7) D30 else some D30) else none else none else none) else none else none) else none
theorem v_Reports_send_L68 {l : Launch} {E : ob_E} {S : ob_S} {D' : ob_D} : ∀ (v0 : Nat) (D : ob_D), S.1 v0 = 9 → f_Reports_send_L68 S v0 D = some D' → ob_V l E k_Reports_send 68 [(0, .ref v0)] [] S D none S D' := by
  intro v0 D hp_v0 h
  rw [f_Reports_send_L68] at h
  refine ob_aload d_Reports_send_68 rfl ?_
  obtain ⟨hg26, h⟩ := ob_gd h
  refine ob_getR d_Reports_send_69 F_8_2 l_Reports_26 hp_v0 hg26 (fun hk25 => ?_)
  refine ob_push d_Reports_send_72 ?_
  refine ob_push d_Reports_send_74 ?_
  obtain ⟨x29, D27, h28, h⟩ := ob_bd_e h
  refine ob_callVi (As := [.int (7 : Int32), .int (1 : Int32)]) (rest := []) d_Reports_send_75 c_Reports_send_65 hk25 rfl rfl (Nat.le_of_ble_eq_true rfl) (c_Row_number hk25 h28) ⟨Nat.le_refl _, Nat.le_refl _⟩ ⟨Nat.le_refl _, Nat.le_refl _⟩ ?_
  refine ob_istore (lo2 := [(0, .ref v0), (1, .int x29)]) d_Reports_send_78 rfl ?_
  refine ob_iload d_Reports_send_79 rfl ?_
  obtain ⟨x32, D30, h31, h⟩ := ob_bd_e h
  refine ob_callSi (As := [.int x29]) (rest := []) d_Reports_send_80 c_Reports_send_68 rfl rfl (Nat.le_of_ble_eq_true rfl) (c_Reports_isService  h31) ⟨Nat.le_refl _, Nat.le_refl _⟩ ⟨Nat.le_refl _, Nat.le_refl _⟩ ?_
  refine ob_if_eq d_Reports_send_83 (fun hc => ?_) (fun hc => ?_)
  · replace h := ob_ift hc h
    exact ob_ve h (ob_vret d_Reports_send_113 rfl)
  · replace h := ob_iff hc h
    refine ob_aload d_Reports_send_86 rfl ?_
    obtain ⟨hg34, h⟩ := ob_gd h
    refine ob_getR d_Reports_send_87 F_8_3 l_Reports_30 hp_v0 hg34 (fun hk33 => ?_)
    refine ob_iload d_Reports_send_90 rfl ?_
    obtain ⟨hg35, h⟩ := ob_gd h
    refine ob_zald d_Reports_send_91 hk33 hg35 ?_
    refine ob_if_eq d_Reports_send_92 (fun hc => ?_) (fun hc => ?_)
    · replace h := ob_ift hc h
      exact ob_ve h (ob_vret d_Reports_send_113 rfl)
    · replace h := ob_iff hc h
      refine ob_aload d_Reports_send_95 rfl ?_
      obtain ⟨hg37, h⟩ := ob_gd h
      refine ob_getR d_Reports_send_96 F_8_2 l_Reports_26 hp_v0 hg37 (fun hk36 => ?_)
      refine ob_getI d_Reports_send_99 F_1_1 l_Reports_38 hk36 ?_
      refine ob_aload d_Reports_send_102 rfl ?_
      obtain ⟨hg39, h⟩ := ob_gd h
      refine ob_getR d_Reports_send_103 F_8_1 l_Reports_20 hp_v0 hg39 (fun hk38 => ?_)
      obtain ⟨hg41, h⟩ := ob_gd h
      refine ob_getR d_Reports_send_106 F_2_0 l_Reports_72 hk38 hg41 (fun hk40 => ?_)
      refine ob_alen (i := 0) d_Reports_send_109 hk40 (by decide) ?_
      refine ob_icmp_le d_Reports_send_110 (fun hc => ?_) (fun hc => ?_)
      · replace h := ob_ift hc h
        refine ob_aload d_Reports_send_114 rfl ?_
        refine ob_getI d_Reports_send_115 F_8_7 l_Reports_75 hp_v0 ?_
        refine ob_istore (lo2 := [(0, .ref v0), (1, .int x29), (2, .int (D30.1 v0 7))]) d_Reports_send_118 rfl ?_
        refine ob_sub (lo2 := [(0, .ref v0), (2, .int (D30.1 v0 7))]) [0, 2] rfl ?_
        exact v_Reports_send_L119 ob_FU v0 (D30.1 v0 7) D30 hp_v0 h
      · replace h := ob_iff hc h
        exact ob_ve h (ob_vret d_Reports_send_113 rfl)
def f_Reports_send (S : ob_S) (v0 : Nat) (D : ob_D) : Option (ob_D) :=
  if D.2.1 v0 2 ≠ 0 then if D.2.1 v0 2 ≠ 0 then ob_bv (f_Row_replace S (D.2.1 v0 2) (4 : Int32) (((D.1 (D.2.1 v0 2) 1) + (2 : Int32)) - (7 : Int32)) (2 : Int32) D) fun D5 => if D5.2.1 v0 2 ≠ 0 then if D5.2.1 v0 2 ≠ 0 then if D5.2.1 v0 2 ≠ 0 then ob_bd (f_Row_check S (D5.2.1 v0 2) (0 : Int32) (D5.1 (D5.2.1 v0 2) 1) D5) fun x15 D13 => ob_bv (f_Row_add S (D5.2.1 v0 2) x15 (2 : Int32) D13) fun D16 => if D16.2.1 v0 0 ≠ 0 then if D16.2.1 v0 2 ≠ 0 then ob_bd (f_Ring_putPacket S (D16.2.1 v0 0) (D16.2.1 v0 2) D16) fun x24 D22 => (if x24 = 0 then ob_lt (ob_pI D22 v0 6 ((D22.1 v0 6) + (1 : Int32))) fun D59 => f_Reports_send_L68 S v0 D59 else f_Reports_send_L68 S v0 D22) else none else none else none else none else none else none else none
theorem c_Reports_send {l : Launch} {E : ob_E} {S : ob_S} {D : ob_D} {v0 : Nat} {D' : ob_D} (hp_v0 : S.1 v0 = 9) (h : f_Reports_send S v0 D = some D') : ob_M l E k_Reports_send [.ref v0] S D none S D' := by
  refine ob_ofV (lo := [(0, .ref v0)]) (by decide) rfl (Nat.le_of_ble_eq_true rfl) rfl (Nat.le_refl _) (Nat.le_refl _) ?_
  rw [f_Reports_send] at h
  refine ob_aload d_Reports_send_0 rfl ?_
  obtain ⟨hg2, h⟩ := ob_gd h
  refine ob_getR d_Reports_send_1 F_8_2 l_Reports_26 hp_v0 hg2 (fun hk1 => ?_)
  refine ob_push d_Reports_send_4 ?_
  refine ob_aload d_Reports_send_5 rfl ?_
  obtain ⟨hg4, h⟩ := ob_gd h
  refine ob_getR d_Reports_send_6 F_8_2 l_Reports_26 hp_v0 hg4 (fun hk3 => ?_)
  refine ob_getI d_Reports_send_9 F_1_1 l_Reports_38 hk3 ?_
  refine ob_push d_Reports_send_12 ?_
  refine ob_iadd d_Reports_send_13 ?_
  refine ob_push d_Reports_send_14 ?_
  refine ob_isub d_Reports_send_16 ?_
  refine ob_push d_Reports_send_17 ?_
  obtain ⟨D5, h6, h⟩ := ob_bv_e h
  refine ob_callVv (As := [.int (4 : Int32), .int (((D.1 (D.2.1 v0 2) 1) + (2 : Int32)) - (7 : Int32)), .int (2 : Int32)]) (rest := []) d_Reports_send_18 c_Reports_send_50 hk1 rfl rfl (Nat.le_of_ble_eq_true rfl) (c_Row_replace hk1 h6) ⟨Nat.le_refl _, Nat.le_refl _⟩ ⟨Nat.le_refl _, Nat.le_refl _⟩ ?_
  refine ob_aload d_Reports_send_21 rfl ?_
  obtain ⟨hg8, h⟩ := ob_gd h
  refine ob_getR d_Reports_send_22 F_8_2 l_Reports_26 hp_v0 hg8 (fun hk7 => ?_)
  refine ob_aload d_Reports_send_25 rfl ?_
  obtain ⟨hg10, h⟩ := ob_gd h
  refine ob_getR d_Reports_send_26 F_8_2 l_Reports_26 hp_v0 hg10 (fun hk9 => ?_)
  refine ob_push d_Reports_send_29 ?_
  refine ob_aload d_Reports_send_30 rfl ?_
  obtain ⟨hg12, h⟩ := ob_gd h
  refine ob_getR d_Reports_send_31 F_8_2 l_Reports_26 hp_v0 hg12 (fun hk11 => ?_)
  refine ob_getI d_Reports_send_34 F_1_1 l_Reports_38 hk11 ?_
  obtain ⟨x15, D13, h14, h⟩ := ob_bd_e h
  refine ob_callVi (As := [.int (0 : Int32), .int (D5.1 (D5.2.1 v0 2) 1)]) (rest := [.ref (D5.2.1 v0 2)]) d_Reports_send_37 c_Reports_send_54 hk9 rfl rfl (Nat.le_of_ble_eq_true rfl) (c_Row_check hk9 h14) ⟨Nat.le_refl _, Nat.le_refl _⟩ ⟨Nat.le_refl _, Nat.le_refl _⟩ ?_
  refine ob_push d_Reports_send_40 ?_
  obtain ⟨D16, h17, h⟩ := ob_bv_e h
  refine ob_callVv (As := [.int x15, .int (2 : Int32)]) (rest := []) d_Reports_send_41 c_Reports_send_42 hk7 rfl rfl (Nat.le_of_ble_eq_true rfl) (c_Row_add hk7 h17) ⟨Nat.le_refl _, Nat.le_refl _⟩ ⟨Nat.le_refl _, Nat.le_refl _⟩ ?_
  refine ob_aload d_Reports_send_44 rfl ?_
  obtain ⟨hg19, h⟩ := ob_gd h
  refine ob_getR d_Reports_send_45 F_8_0 l_Reports_9 hp_v0 hg19 (fun hk18 => ?_)
  refine ob_aload d_Reports_send_48 rfl ?_
  obtain ⟨hg21, h⟩ := ob_gd h
  refine ob_getR d_Reports_send_49 F_8_2 l_Reports_26 hp_v0 hg21 (fun hk20 => ?_)
  obtain ⟨x24, D22, h23, h⟩ := ob_bd_e h
  refine ob_callVi (As := [.ref (D16.2.1 v0 2)]) (rest := []) d_Reports_send_52 c_Reports_send_58 hk18 rfl rfl (Nat.le_of_ble_eq_true rfl) (c_Ring_putPacket hk18 hk20 h23) ⟨Nat.le_refl _, Nat.le_refl _⟩ ⟨Nat.le_refl _, Nat.le_refl _⟩ ?_
  refine ob_if_ne d_Reports_send_55 (fun hc => ?_) (fun hc => ?_)
  · replace h := ob_iff hc h
    exact v_Reports_send_L68 v0 D22 hp_v0 h
  · replace h := ob_ift hc h
    refine ob_aload d_Reports_send_58 rfl ?_
    refine ob_dup d_Reports_send_59 rfl ?_
    refine ob_getI d_Reports_send_60 F_8_6 l_Reports_62 hp_v0 ?_
    refine ob_push d_Reports_send_63 ?_
    refine ob_iadd d_Reports_send_64 ?_
    replace h := ob_lt_e h
    refine ob_putI d_Reports_send_65 F_8_6 l_Reports_62 hp_v0 ?_
    exact v_Reports_send_L68 v0 (ob_pI D22 v0 6 ((D22.1 v0 6) + (1 : Int32))) hp_v0 h
-- OrbitBox$Reports.beginRetrieval(II)V
theorem d_Reports_beginRetrieval_1 : ob_dk k_Reports_beginRetrieval 1 2 (1 : Int32) (.iconst 1) 1 := ⟨by decide +kernel, rfl, show Int32.ofInt 1 = (1 : Int32) by decide +kernel⟩
theorem d_Reports_beginRetrieval_16 : ob_dk k_Reports_beginRetrieval 16 17 (0 : Int32) (.iconst 0) 1 := ⟨by decide +kernel, rfl, show Int32.ofInt 0 = (0 : Int32) by decide +kernel⟩
theorem d_Reports_beginRetrieval_20 : ob_dc k_Reports_beginRetrieval 20 (.return_) 1 21 := ⟨by decide +kernel, rfl⟩
theorem d_Reports_beginRetrieval_17 : ob_dc k_Reports_beginRetrieval 17 (.putfield 88) 3 20 := ⟨by decide +kernel, rfl⟩
theorem d_Reports_beginRetrieval_15 : ob_dv ob_ac k_Reports_beginRetrieval 15 16 0 (.aload_n 0) 1 := ⟨by decide +kernel, rfl, rfl⟩
theorem d_Reports_beginRetrieval_12 : ob_dc k_Reports_beginRetrieval 12 (.putfield 98) 3 15 := ⟨by decide +kernel, rfl⟩
theorem d_Reports_beginRetrieval_11 : ob_dv ob_lc k_Reports_beginRetrieval 11 12 2 (.iload_n 2) 1 := ⟨by decide +kernel, rfl, rfl⟩
theorem d_Reports_beginRetrieval_10 : ob_dv ob_ac k_Reports_beginRetrieval 10 11 0 (.aload_n 0) 1 := ⟨by decide +kernel, rfl, rfl⟩
theorem d_Reports_beginRetrieval_7 : ob_dc k_Reports_beginRetrieval 7 (.putfield 95) 3 10 := ⟨by decide +kernel, rfl⟩
theorem d_Reports_beginRetrieval_6 : ob_dv ob_lc k_Reports_beginRetrieval 6 7 1 (.iload_n 1) 1 := ⟨by decide +kernel, rfl, rfl⟩
theorem d_Reports_beginRetrieval_5 : ob_dv ob_ac k_Reports_beginRetrieval 5 6 0 (.aload_n 0) 1 := ⟨by decide +kernel, rfl, rfl⟩
theorem d_Reports_beginRetrieval_2 : ob_dc k_Reports_beginRetrieval 2 (.putfield 91) 3 5 := ⟨by decide +kernel, rfl⟩
theorem d_Reports_beginRetrieval_0 : ob_dv ob_ac k_Reports_beginRetrieval 0 1 0 (.aload_n 0) 1 := ⟨by decide +kernel, rfl, rfl⟩
def f_Reports_beginRetrieval (S : ob_S) (v0 : Nat) (v1 : Int32) (v2 : Int32) (D : ob_D) : Option (ob_D) :=
  ob_lt (ob_pI D v0 8 (1 : Int32)) fun D1 => ob_lt (ob_pI D1 v0 9 v1) fun D2 => ob_lt (ob_pI D2 v0 10 v2) fun D3 => ob_lt (ob_pI D3 v0 11 (0 : Int32)) fun D4 => some D4
theorem c_Reports_beginRetrieval {l : Launch} {E : ob_E} {S : ob_S} {D : ob_D} {v0 : Nat} {v1 : Int32} {v2 : Int32} {D' : ob_D} (hp_v0 : S.1 v0 = 9) (h : f_Reports_beginRetrieval S v0 v1 v2 D = some D') : ob_M l E k_Reports_beginRetrieval [.ref v0, .int v1, .int v2] S D none S D' := by
  refine ob_ofV (lo := [(0, .ref v0), (1, .int v1), (2, .int v2)]) (by decide) rfl (Nat.le_of_ble_eq_true rfl) rfl (Nat.le_refl _) (Nat.le_refl _) ?_
  rw [f_Reports_beginRetrieval] at h
  refine ob_aload d_Reports_beginRetrieval_0 rfl ?_
  refine ob_push d_Reports_beginRetrieval_1 ?_
  replace h := ob_lt_e h
  refine ob_putZ d_Reports_beginRetrieval_2 F_8_8 l_Reports_91 hp_v0 (Or.inr rfl) ?_
  refine ob_aload d_Reports_beginRetrieval_5 rfl ?_
  refine ob_iload d_Reports_beginRetrieval_6 rfl ?_
  replace h := ob_lt_e h
  refine ob_putI d_Reports_beginRetrieval_7 F_8_9 l_Reports_95 hp_v0 ?_
  refine ob_aload d_Reports_beginRetrieval_10 rfl ?_
  refine ob_iload d_Reports_beginRetrieval_11 rfl ?_
  replace h := ob_lt_e h
  refine ob_putI d_Reports_beginRetrieval_12 F_8_10 l_Reports_98 hp_v0 ?_
  refine ob_aload d_Reports_beginRetrieval_15 rfl ?_
  refine ob_push d_Reports_beginRetrieval_16 ?_
  replace h := ob_lt_e h
  refine ob_putI d_Reports_beginRetrieval_17 F_8_11 l_Reports_88 hp_v0 ?_
  exact ob_ve h (ob_vret d_Reports_beginRetrieval_20 rfl)
-- OrbitBox$Reports.dropUpTo(I)V
theorem d_Reports_dropUpTo_33 : ob_dc k_Reports_dropUpTo 33 (.return_) 1 34 := ⟨by decide +kernel, rfl⟩
theorem d_Reports_dropUpTo_13 : ob_dk k_Reports_dropUpTo 13 15 (13 : Int32) (.bipush 13) 2 := ⟨by decide +kernel, rfl, show (Int8.ofInt 13).toInt32 = (13 : Int32) by decide +kernel⟩
theorem d_Reports_dropUpTo_15 : ob_dk k_Reports_dropUpTo 15 16 (4 : Int32) (.iconst 4) 1 := ⟨by decide +kernel, rfl, show Int32.ofInt 4 = (4 : Int32) by decide +kernel⟩
theorem d_Reports_dropUpTo_27 : ob_di k_Reports_dropUpTo 27 30 2 (-1) (-1 : Int32) := ⟨by decide +kernel, rfl, by decide +kernel, by decide +kernel⟩
theorem d_Reports_dropUpTo_30 : ob_db k_Reports_dropUpTo 30 (.goto (-25)) (-25) 33 5 := ⟨by decide +kernel, rfl, by decide⟩
theorem d_Reports_dropUpTo_24 : ob_dc k_Reports_dropUpTo 24 (.invokevirtual 81) 3 27 := ⟨by decide +kernel, rfl⟩
theorem d_Reports_dropUpTo_23 : ob_dv ob_ac k_Reports_dropUpTo 23 24 0 (.aload_n 0) 1 := ⟨by decide +kernel, rfl, rfl⟩
theorem d_Reports_dropUpTo_20 : ob_db k_Reports_dropUpTo 20 (.if_icmp .gt 13) 13 23 33 := ⟨by decide +kernel, rfl, by decide⟩
theorem d_Reports_dropUpTo_19 : ob_dv ob_lc k_Reports_dropUpTo 19 20 1 (.iload_n 1) 1 := ⟨by decide +kernel, rfl, rfl⟩
theorem d_Reports_dropUpTo_16 : ob_dc k_Reports_dropUpTo 16 (.invokevirtual 84) 3 19 := ⟨by decide +kernel, rfl⟩
theorem d_Reports_dropUpTo_10 : ob_dc k_Reports_dropUpTo 10 (.getfield 20) 3 13 := ⟨by decide +kernel, rfl⟩
theorem d_Reports_dropUpTo_9 : ob_dv ob_ac k_Reports_dropUpTo 9 10 0 (.aload_n 0) 1 := ⟨by decide +kernel, rfl, rfl⟩
theorem d_Reports_dropUpTo_6 : ob_db k_Reports_dropUpTo 6 (.ifCond .le 27) 27 9 33 := ⟨by decide +kernel, rfl, by decide⟩
theorem d_Reports_dropUpTo_5 : ob_dv ob_lc k_Reports_dropUpTo 5 6 2 (.iload_n 2) 1 := ⟨by decide +kernel, rfl, rfl⟩
theorem d_Reports_dropUpTo_4 : ob_dv (ob_sc k_Reports_dropUpTo.2.2.2.1) k_Reports_dropUpTo 4 5 2 (.istore_n 2) 1 := ⟨by decide +kernel, rfl, ⟨rfl, by decide +kernel⟩⟩
theorem d_Reports_dropUpTo_1 : ob_dc k_Reports_dropUpTo 1 (.getfield 75) 3 4 := ⟨by decide +kernel, rfl⟩
theorem d_Reports_dropUpTo_0 : ob_dv ob_ac k_Reports_dropUpTo 0 1 0 (.aload_n 0) 1 := ⟨by decide +kernel, rfl, rfl⟩
theorem c_Reports_dropUpTo_81 : ob_vd k_Reports_dropUpTo k_Reports_dropOldest 81 0 8 := ⟨cw_Reports_dropOldest, yd_Reports_dropOldest, w_639, w_641, wp_12, w_11, ⟨_, _, rfl⟩, by decide, by decide⟩
theorem c_Reports_dropUpTo_84 : ob_vd k_Reports_dropUpTo k_Ring_number 84 2 2 := ⟨cw_Ring_number, yd_Ring_number, w_643, w_644, w_645, w_8, ⟨_, _, rfl⟩, by decide, by decide⟩
def f_Reports_dropUpTo_L5 (S : ob_S) : Nat → Nat → Int32 → Int32 → ob_D → Option (ob_D)
  | 0, _, _, _, _ => none
  | n + 1, v0, v1, v2, D => (if v2 ≤ 0 then some D else if D.2.1 v0 1 ≠ 0 then ob_bd (f_Ring_number S (D.2.1 v0 1) (13 : Int32) (4 : Int32) D) fun x5 D3 => (if v1 < x5 then some D3 else ob_bv (f_Reports_dropOldest S v0 D3) fun D6 => f_Reports_dropUpTo_L5 S n v0 v1 (v2 + (-1 : Int32)) D6) else none)
theorem v_Reports_dropUpTo_L5 {l : Launch} {E : ob_E} {S : ob_S} {D' : ob_D} : ∀ (n : Nat), ∀ (v0 : Nat) (v1 : Int32) (v2 : Int32) (D : ob_D), S.1 v0 = 9 → f_Reports_dropUpTo_L5 S n v0 v1 v2 D = some D' → ob_V l E k_Reports_dropUpTo 5 [(0, .ref v0), (1, .int v1), (2, .int v2)] [] S D none S D' := by
  intro n
  induction n with
  | zero =>
    intro v0 v1 v2 D hp_v0 h
    have h : none = some D' := h
    cases h
  | succ n ih =>
    intro v0 v1 v2 D hp_v0 h
    rw [f_Reports_dropUpTo_L5] at h
    refine ob_iload d_Reports_dropUpTo_5 rfl ?_
    refine ob_if_le d_Reports_dropUpTo_6 (fun hc => ?_) (fun hc => ?_)
    · replace h := ob_ift hc h
      exact ob_ve h (ob_vret d_Reports_dropUpTo_33 rfl)
    · replace h := ob_iff hc h
      refine ob_aload d_Reports_dropUpTo_9 rfl ?_
      obtain ⟨hg2, h⟩ := ob_gd h
      refine ob_getR d_Reports_dropUpTo_10 F_8_1 l_Reports_20 hp_v0 hg2 (fun hk1 => ?_)
      refine ob_push d_Reports_dropUpTo_13 ?_
      refine ob_push d_Reports_dropUpTo_15 ?_
      obtain ⟨x5, D3, h4, h⟩ := ob_bd_e h
      refine ob_callVi (As := [.int (13 : Int32), .int (4 : Int32)]) (rest := []) d_Reports_dropUpTo_16 c_Reports_dropUpTo_84 hk1 rfl rfl (Nat.le_of_ble_eq_true rfl) (c_Ring_number hk1 h4) ⟨Nat.le_refl _, Nat.le_refl _⟩ ⟨Nat.le_refl _, Nat.le_refl _⟩ ?_
      refine ob_iload d_Reports_dropUpTo_19 rfl ?_
      refine ob_icmp_gt d_Reports_dropUpTo_20 (fun hc => ?_) (fun hc => ?_)
      · replace h := ob_ift hc h
        exact ob_ve h (ob_vret d_Reports_dropUpTo_33 rfl)
      · replace h := ob_iff hc h
        refine ob_aload d_Reports_dropUpTo_23 rfl ?_
        obtain ⟨D6, h7, h⟩ := ob_bv_e h
        refine ob_callVv (As := []) (rest := []) d_Reports_dropUpTo_24 c_Reports_dropUpTo_81 hp_v0 rfl rfl (Nat.le_of_ble_eq_true rfl) (c_Reports_dropOldest hp_v0 h7) ⟨Nat.le_refl _, Nat.le_refl _⟩ ⟨Nat.le_refl _, Nat.le_refl _⟩ ?_
        refine ob_iinc (lo2 := [(0, .ref v0), (1, .int v1), (2, .int (v2 + (-1 : Int32)))]) d_Reports_dropUpTo_27 rfl rfl ?_
        refine ob_goto d_Reports_dropUpTo_30 ?_
        exact ih v0 v1 (v2 + (-1 : Int32)) D6 hp_v0 h
def f_Reports_dropUpTo (S : ob_S) (v0 : Nat) (v1 : Int32) (D : ob_D) : Option (ob_D) :=
  f_Reports_dropUpTo_L5 S ob_FU v0 v1 (D.1 v0 7) D
theorem c_Reports_dropUpTo {l : Launch} {E : ob_E} {S : ob_S} {D : ob_D} {v0 : Nat} {v1 : Int32} {D' : ob_D} (hp_v0 : S.1 v0 = 9) (h : f_Reports_dropUpTo S v0 v1 D = some D') : ob_M l E k_Reports_dropUpTo [.ref v0, .int v1] S D none S D' := by
  refine ob_ofV (lo := [(0, .ref v0), (1, .int v1)]) (by decide) rfl (Nat.le_of_ble_eq_true rfl) rfl (Nat.le_refl _) (Nat.le_refl _) ?_
  rw [f_Reports_dropUpTo] at h
  refine ob_aload d_Reports_dropUpTo_0 rfl ?_
  refine ob_getI d_Reports_dropUpTo_1 F_8_7 l_Reports_75 hp_v0 ?_
  refine ob_istore (lo2 := [(0, .ref v0), (1, .int v1), (2, .int (D.1 v0 7))]) d_Reports_dropUpTo_4 rfl ?_
  exact v_Reports_dropUpTo_L5 ob_FU v0 v1 (D.1 v0 7) D hp_v0 h
-- OrbitBox$Reports.copyStored(ILOrbitBox$Ring;)V
theorem d_Reports_copyStored_0 : ob_dk k_Reports_copyStored 0 1 (0 : Int32) (.iconst 0) 1 := ⟨by decide +kernel, rfl, show Int32.ofInt 0 = (0 : Int32) by decide +kernel⟩
theorem d_Reports_copyStored_30 : ob_dc k_Reports_copyStored 30 (.return_) 1 31 := ⟨by decide +kernel, rfl⟩
theorem d_Reports_copyStored_24 : ob_di k_Reports_copyStored 24 27 3 1 (1 : Int32) := ⟨by decide +kernel, rfl, by decide +kernel, by decide +kernel⟩
theorem d_Reports_copyStored_27 : ob_db k_Reports_copyStored 27 (.goto (-25)) (-25) 30 2 := ⟨by decide +kernel, rfl, by decide⟩
theorem d_Reports_copyStored_21 : ob_dc k_Reports_copyStored 21 (.invokevirtual 112) 3 24 := ⟨by decide +kernel, rfl⟩
theorem d_Reports_copyStored_18 : ob_dc k_Reports_copyStored 18 (.invokevirtual 108) 3 21 := ⟨by decide +kernel, rfl⟩
theorem d_Reports_copyStored_17 : ob_dc k_Reports_copyStored 17 (.iadd) 1 18 := ⟨by decide +kernel, rfl⟩
theorem d_Reports_copyStored_16 : ob_dv ob_lc k_Reports_copyStored 16 17 3 (.iload_n 3) 1 := ⟨by decide +kernel, rfl, rfl⟩
theorem d_Reports_copyStored_13 : ob_dc k_Reports_copyStored 13 (.getfield 88) 3 16 := ⟨by decide +kernel, rfl⟩
theorem d_Reports_copyStored_12 : ob_dv ob_ac k_Reports_copyStored 12 13 0 (.aload_n 0) 1 := ⟨by decide +kernel, rfl, rfl⟩
theorem d_Reports_copyStored_9 : ob_dc k_Reports_copyStored 9 (.getfield 20) 3 12 := ⟨by decide +kernel, rfl⟩
theorem d_Reports_copyStored_8 : ob_dv ob_ac k_Reports_copyStored 8 9 0 (.aload_n 0) 1 := ⟨by decide +kernel, rfl, rfl⟩
theorem d_Reports_copyStored_7 : ob_dv ob_ac k_Reports_copyStored 7 8 2 (.aload_n 2) 1 := ⟨by decide +kernel, rfl, rfl⟩
theorem d_Reports_copyStored_4 : ob_db k_Reports_copyStored 4 (.if_icmp .ge 26) 26 7 30 := ⟨by decide +kernel, rfl, by decide⟩
theorem d_Reports_copyStored_3 : ob_dv ob_lc k_Reports_copyStored 3 4 1 (.iload_n 1) 1 := ⟨by decide +kernel, rfl, rfl⟩
theorem d_Reports_copyStored_2 : ob_dv ob_lc k_Reports_copyStored 2 3 3 (.iload_n 3) 1 := ⟨by decide +kernel, rfl, rfl⟩
theorem d_Reports_copyStored_1 : ob_dv (ob_sc k_Reports_copyStored.2.2.2.1) k_Reports_copyStored 1 2 3 (.istore_n 3) 1 := ⟨by decide +kernel, rfl, ⟨rfl, by decide +kernel⟩⟩
theorem c_Reports_copyStored_112 : ob_vd k_Reports_copyStored k_Ring_put 112 1 2 := ⟨cw_Ring_put, yd_Ring_put, w_938, w_631, w_632, w_8, ⟨_, _, rfl⟩, by decide, by decide⟩
theorem c_Reports_copyStored_108 : ob_vd k_Reports_copyStored k_Ring_get 108 1 2 := ⟨cw_Ring_get, yd_Ring_get, w_937, w_893, w_894, w_8, ⟨_, _, rfl⟩, by decide, by decide⟩
def f_Reports_copyStored_L2 (S : ob_S) : Nat → Nat → Int32 → Nat → Int32 → ob_D → Option (ob_D)
  | 0, _, _, _, _, _ => none
  | n + 1, v0, v1, v2, v3, D => (if v1 ≤ v3 then some D else if D.2.1 v0 1 ≠ 0 then ob_bd (f_Ring_get S (D.2.1 v0 1) ((D.1 v0 11) + v3) D) fun x5 D3 => ob_bv (f_Ring_put S v2 x5 D3) fun D6 => f_Reports_copyStored_L2 S n v0 v1 v2 (v3 + (1 : Int32)) D6 else none)
theorem v_Reports_copyStored_L2 {l : Launch} {E : ob_E} {S : ob_S} {D' : ob_D} : ∀ (n : Nat), ∀ (v0 : Nat) (v1 : Int32) (v2 : Nat) (v3 : Int32) (D : ob_D), S.1 v0 = 9 → S.1 v2 = 3 → f_Reports_copyStored_L2 S n v0 v1 v2 v3 D = some D' → ob_V l E k_Reports_copyStored 2 [(0, .ref v0), (1, .int v1), (2, .ref v2), (3, .int v3)] [] S D none S D' := by
  intro n
  induction n with
  | zero =>
    intro v0 v1 v2 v3 D hp_v0 hp_v2 h
    have h : none = some D' := h
    cases h
  | succ n ih =>
    intro v0 v1 v2 v3 D hp_v0 hp_v2 h
    rw [f_Reports_copyStored_L2] at h
    refine ob_iload d_Reports_copyStored_2 rfl ?_
    refine ob_iload d_Reports_copyStored_3 rfl ?_
    refine ob_icmp_ge d_Reports_copyStored_4 (fun hc => ?_) (fun hc => ?_)
    · replace h := ob_ift hc h
      exact ob_ve h (ob_vret d_Reports_copyStored_30 rfl)
    · replace h := ob_iff hc h
      refine ob_aload d_Reports_copyStored_7 rfl ?_
      refine ob_aload d_Reports_copyStored_8 rfl ?_
      obtain ⟨hg2, h⟩ := ob_gd h
      refine ob_getR d_Reports_copyStored_9 F_8_1 l_Reports_20 hp_v0 hg2 (fun hk1 => ?_)
      refine ob_aload d_Reports_copyStored_12 rfl ?_
      refine ob_getI d_Reports_copyStored_13 F_8_11 l_Reports_88 hp_v0 ?_
      refine ob_iload d_Reports_copyStored_16 rfl ?_
      refine ob_iadd d_Reports_copyStored_17 ?_
      obtain ⟨x5, D3, h4, h⟩ := ob_bd_e h
      refine ob_callVi (As := [.int ((D.1 v0 11) + v3)]) (rest := [.ref v2]) d_Reports_copyStored_18 c_Reports_copyStored_108 hk1 rfl rfl (Nat.le_of_ble_eq_true rfl) (c_Ring_get hk1 h4) ⟨Nat.le_refl _, Nat.le_refl _⟩ ⟨Nat.le_refl _, Nat.le_refl _⟩ ?_
      obtain ⟨D6, h7, h⟩ := ob_bv_e h
      refine ob_callVv (As := [.int x5]) (rest := []) d_Reports_copyStored_21 c_Reports_copyStored_112 hp_v2 rfl rfl (Nat.le_of_ble_eq_true rfl) (c_Ring_put hp_v2 h7) ⟨Nat.le_refl _, Nat.le_refl _⟩ ⟨Nat.le_refl _, Nat.le_refl _⟩ ?_
      refine ob_iinc (lo2 := [(0, .ref v0), (1, .int v1), (2, .ref v2), (3, .int (v3 + (1 : Int32)))]) d_Reports_copyStored_24 rfl rfl ?_
      refine ob_goto d_Reports_copyStored_27 ?_
      exact ih v0 v1 v2 (v3 + (1 : Int32)) D6 hp_v0 hp_v2 h
def f_Reports_copyStored (S : ob_S) (v0 : Nat) (v1 : Int32) (v2 : Nat) (D : ob_D) : Option (ob_D) :=
  f_Reports_copyStored_L2 S ob_FU v0 v1 v2 (0 : Int32) D
theorem c_Reports_copyStored {l : Launch} {E : ob_E} {S : ob_S} {D : ob_D} {v0 : Nat} {v1 : Int32} {v2 : Nat} {D' : ob_D} (hp_v0 : S.1 v0 = 9) (hp_v2 : S.1 v2 = 3) (h : f_Reports_copyStored S v0 v1 v2 D = some D') : ob_M l E k_Reports_copyStored [.ref v0, .int v1, .ref v2] S D none S D' := by
  refine ob_ofV (lo := [(0, .ref v0), (1, .int v1), (2, .ref v2)]) (by decide) rfl (Nat.le_of_ble_eq_true rfl) rfl (Nat.le_refl _) (Nat.le_refl _) ?_
  rw [f_Reports_copyStored] at h
  refine ob_push d_Reports_copyStored_0 ?_
  refine ob_istore (lo2 := [(0, .ref v0), (1, .int v1), (2, .ref v2), (3, .int (0 : Int32))]) d_Reports_copyStored_1 rfl ?_
  exact v_Reports_copyStored_L2 ob_FU v0 v1 v2 (0 : Int32) D hp_v0 hp_v2 h
-- OrbitBox$Reports.retrieve(LOrbitBox$Ring;)V
theorem d_Reports_retrieve_0 : ob_dk k_Reports_retrieve 0 1 (0 : Int32) (.iconst 0) 1 := ⟨by decide +kernel, rfl, show Int32.ofInt 0 = (0 : Int32) by decide +kernel⟩
theorem d_Reports_retrieve_116 : ob_dk k_Reports_retrieve 116 117 (0 : Int32) (.iconst 0) 1 := ⟨by decide +kernel, rfl, show Int32.ofInt 0 = (0 : Int32) by decide +kernel⟩
theorem d_Reports_retrieve_120 : ob_dc k_Reports_retrieve 120 (.return_) 1 121 := ⟨by decide +kernel, rfl⟩
theorem d_Reports_retrieve_117 : ob_dc k_Reports_retrieve 117 (.putfield 91) 3 120 := ⟨by decide +kernel, rfl⟩
theorem d_Reports_retrieve_115 : ob_dv ob_ac k_Reports_retrieve 115 116 0 (.aload_n 0) 1 := ⟨by decide +kernel, rfl, rfl⟩
theorem d_Reports_retrieve_39 : ob_dk k_Reports_retrieve 39 40 (4 : Int32) (.iconst 4) 1 := ⟨by decide +kernel, rfl, show Int32.ofInt 4 = (4 : Int32) by decide +kernel⟩
theorem d_Reports_retrieve_41 : ob_dk k_Reports_retrieve 41 42 (2 : Int32) (.iconst 2) 1 := ⟨by decide +kernel, rfl, show Int32.ofInt 2 = (2 : Int32) by decide +kernel⟩
theorem d_Reports_retrieve_45 : ob_dk k_Reports_retrieve 45 47 (7 : Int32) (.bipush 7) 2 := ⟨by decide +kernel, rfl, show (Int8.ofInt 7).toInt32 = (7 : Int32) by decide +kernel⟩
theorem d_Reports_retrieve_57 : ob_dk k_Reports_retrieve 57 59 (13 : Int32) (.bipush 13) 2 := ⟨by decide +kernel, rfl, show (Int8.ofInt 13).toInt32 = (13 : Int32) by decide +kernel⟩
theorem d_Reports_retrieve_60 : ob_dk k_Reports_retrieve 60 61 (4 : Int32) (.iconst 4) 1 := ⟨by decide +kernel, rfl, show Int32.ofInt 4 = (4 : Int32) by decide +kernel⟩
theorem d_Reports_retrieve_109 : ob_di k_Reports_retrieve 109 112 2 1 (1 : Int32) := ⟨by decide +kernel, rfl, by decide +kernel, by decide +kernel⟩
theorem d_Reports_retrieve_112 : ob_db k_Reports_retrieve 112 (.goto (-110)) (-110) 115 2 := ⟨by decide +kernel, rfl, by decide⟩
theorem d_Reports_retrieve_106 : ob_dc k_Reports_retrieve 106 (.putfield 88) 3 109 := ⟨by decide +kernel, rfl⟩
theorem d_Reports_retrieve_105 : ob_dc k_Reports_retrieve 105 (.iadd) 1 106 := ⟨by decide +kernel, rfl⟩
theorem d_Reports_retrieve_104 : ob_dv ob_lc k_Reports_retrieve 104 105 3 (.iload_n 3) 1 := ⟨by decide +kernel, rfl, rfl⟩
theorem d_Reports_retrieve_101 : ob_dc k_Reports_retrieve 101 (.getfield 88) 3 104 := ⟨by decide +kernel, rfl⟩
theorem d_Reports_retrieve_100 : ob_dc k_Reports_retrieve 100 (.dup) 1 101 := ⟨by decide +kernel, rfl⟩
theorem d_Reports_retrieve_99 : ob_dv ob_ac k_Reports_retrieve 99 100 0 (.aload_n 0) 1 := ⟨by decide +kernel, rfl, rfl⟩
theorem d_Reports_retrieve_96 : ob_dc k_Reports_retrieve 96 (.invokevirtual 104) 3 99 := ⟨by decide +kernel, rfl⟩
theorem d_Reports_retrieve_95 : ob_dv ob_ac k_Reports_retrieve 95 96 1 (.aload_n 1) 1 := ⟨by decide +kernel, rfl, rfl⟩
theorem d_Reports_retrieve_94 : ob_dv ob_lc k_Reports_retrieve 94 95 3 (.iload_n 3) 1 := ⟨by decide +kernel, rfl, rfl⟩
theorem d_Reports_retrieve_93 : ob_dv ob_ac k_Reports_retrieve 93 94 0 (.aload_n 0) 1 := ⟨by decide +kernel, rfl, rfl⟩
theorem d_Reports_retrieve_92 : ob_dc k_Reports_retrieve 92 (.return_) 1 93 := ⟨by decide +kernel, rfl⟩
theorem d_Reports_retrieve_89 : ob_db k_Reports_retrieve 89 (.ifCond .ne 4) 4 92 93 := ⟨by decide +kernel, rfl, by decide⟩
theorem d_Reports_retrieve_86 : ob_dc k_Reports_retrieve 86 (.invokevirtual 78) 3 89 := ⟨by decide +kernel, rfl⟩
theorem d_Reports_retrieve_85 : ob_dv ob_lc k_Reports_retrieve 85 86 3 (.iload_n 3) 1 := ⟨by decide +kernel, rfl, rfl⟩
theorem d_Reports_retrieve_84 : ob_dv ob_ac k_Reports_retrieve 84 85 1 (.aload_n 1) 1 := ⟨by decide +kernel, rfl, rfl⟩
theorem d_Reports_retrieve_81 : ob_db k_Reports_retrieve 81 (.if_icmp .gt 18) 18 84 99 := ⟨by decide +kernel, rfl, by decide⟩
theorem d_Reports_retrieve_78 : ob_dc k_Reports_retrieve 78 (.getfield 98) 3 81 := ⟨by decide +kernel, rfl⟩
theorem d_Reports_retrieve_77 : ob_dv ob_ac k_Reports_retrieve 77 78 0 (.aload_n 0) 1 := ⟨by decide +kernel, rfl, rfl⟩
theorem d_Reports_retrieve_75 : ob_dv ob_lc k_Reports_retrieve 75 77 4 (.iload 4) 2 := ⟨by decide +kernel, rfl, rfl⟩
theorem d_Reports_retrieve_72 : ob_db k_Reports_retrieve 72 (.if_icmp .lt 27) 27 75 99 := ⟨by decide +kernel, rfl, by decide⟩
theorem d_Reports_retrieve_69 : ob_dc k_Reports_retrieve 69 (.getfield 95) 3 72 := ⟨by decide +kernel, rfl⟩
theorem d_Reports_retrieve_68 : ob_dv ob_ac k_Reports_retrieve 68 69 0 (.aload_n 0) 1 := ⟨by decide +kernel, rfl, rfl⟩
theorem d_Reports_retrieve_66 : ob_dv ob_lc k_Reports_retrieve 66 68 4 (.iload 4) 2 := ⟨by decide +kernel, rfl, rfl⟩
theorem d_Reports_retrieve_64 : ob_dv (ob_sc k_Reports_retrieve.2.2.2.1) k_Reports_retrieve 64 66 4 (.istore 4) 2 := ⟨by decide +kernel, rfl, ⟨rfl, by decide +kernel⟩⟩
theorem d_Reports_retrieve_61 : ob_dc k_Reports_retrieve 61 (.invokevirtual 84) 3 64 := ⟨by decide +kernel, rfl⟩
theorem d_Reports_retrieve_59 : ob_dc k_Reports_retrieve 59 (.iadd) 1 60 := ⟨by decide +kernel, rfl⟩
theorem d_Reports_retrieve_54 : ob_dc k_Reports_retrieve 54 (.getfield 88) 3 57 := ⟨by decide +kernel, rfl⟩
theorem d_Reports_retrieve_53 : ob_dv ob_ac k_Reports_retrieve 53 54 0 (.aload_n 0) 1 := ⟨by decide +kernel, rfl, rfl⟩
theorem d_Reports_retrieve_50 : ob_dc k_Reports_retrieve 50 (.getfield 20) 3 53 := ⟨by decide +kernel, rfl⟩
theorem d_Reports_retrieve_49 : ob_dv ob_ac k_Reports_retrieve 49 50 0 (.aload_n 0) 1 := ⟨by decide +kernel, rfl, rfl⟩
theorem d_Reports_retrieve_48 : ob_dv (ob_sc k_Reports_retrieve.2.2.2.1) k_Reports_retrieve 48 49 3 (.istore_n 3) 1 := ⟨by decide +kernel, rfl, ⟨rfl, by decide +kernel⟩⟩
theorem d_Reports_retrieve_47 : ob_dc k_Reports_retrieve 47 (.iadd) 1 48 := ⟨by decide +kernel, rfl⟩
theorem d_Reports_retrieve_42 : ob_dc k_Reports_retrieve 42 (.invokevirtual 84) 3 45 := ⟨by decide +kernel, rfl⟩
theorem d_Reports_retrieve_40 : ob_dc k_Reports_retrieve 40 (.iadd) 1 41 := ⟨by decide +kernel, rfl⟩
theorem d_Reports_retrieve_36 : ob_dc k_Reports_retrieve 36 (.getfield 88) 3 39 := ⟨by decide +kernel, rfl⟩
theorem d_Reports_retrieve_35 : ob_dv ob_ac k_Reports_retrieve 35 36 0 (.aload_n 0) 1 := ⟨by decide +kernel, rfl, rfl⟩
theorem d_Reports_retrieve_32 : ob_dc k_Reports_retrieve 32 (.getfield 20) 3 35 := ⟨by decide +kernel, rfl⟩
theorem d_Reports_retrieve_31 : ob_dv ob_ac k_Reports_retrieve 31 32 0 (.aload_n 0) 1 := ⟨by decide +kernel, rfl, rfl⟩
theorem d_Reports_retrieve_28 : ob_db k_Reports_retrieve 28 (.if_icmp .ge 87) 87 31 115 := ⟨by decide +kernel, rfl, by decide⟩
theorem d_Reports_retrieve_25 : ob_dc k_Reports_retrieve 25 (.getfield 101) 3 28 := ⟨by decide +kernel, rfl⟩
theorem d_Reports_retrieve_22 : ob_dc k_Reports_retrieve 22 (.getfield 20) 3 25 := ⟨by decide +kernel, rfl⟩
theorem d_Reports_retrieve_21 : ob_dv ob_ac k_Reports_retrieve 21 22 0 (.aload_n 0) 1 := ⟨by decide +kernel, rfl, rfl⟩
theorem d_Reports_retrieve_18 : ob_dc k_Reports_retrieve 18 (.getfield 88) 3 21 := ⟨by decide +kernel, rfl⟩
theorem d_Reports_retrieve_17 : ob_dv ob_ac k_Reports_retrieve 17 18 0 (.aload_n 0) 1 := ⟨by decide +kernel, rfl, rfl⟩
theorem d_Reports_retrieve_14 : ob_db k_Reports_retrieve 14 (.if_icmp .ge 101) 101 17 115 := ⟨by decide +kernel, rfl, by decide⟩
theorem d_Reports_retrieve_11 : ob_dc k_Reports_retrieve 11 (.getfield 75) 3 14 := ⟨by decide +kernel, rfl⟩
theorem d_Reports_retrieve_10 : ob_dv ob_ac k_Reports_retrieve 10 11 0 (.aload_n 0) 1 := ⟨by decide +kernel, rfl, rfl⟩
theorem d_Reports_retrieve_9 : ob_dv ob_lc k_Reports_retrieve 9 10 2 (.iload_n 2) 1 := ⟨by decide +kernel, rfl, rfl⟩
theorem d_Reports_retrieve_6 : ob_db k_Reports_retrieve 6 (.ifCond .eq 109) 109 9 115 := ⟨by decide +kernel, rfl, by decide⟩
theorem d_Reports_retrieve_3 : ob_dc k_Reports_retrieve 3 (.getfield 91) 3 6 := ⟨by decide +kernel, rfl⟩
theorem d_Reports_retrieve_2 : ob_dv ob_ac k_Reports_retrieve 2 3 0 (.aload_n 0) 1 := ⟨by decide +kernel, rfl, rfl⟩
theorem d_Reports_retrieve_1 : ob_dv (ob_sc k_Reports_retrieve.2.2.2.1) k_Reports_retrieve 1 2 2 (.istore_n 2) 1 := ⟨by decide +kernel, rfl, ⟨rfl, by decide +kernel⟩⟩
theorem c_Reports_retrieve_104 : ob_vd k_Reports_retrieve k_Reports_copyStored 104 2 8 := ⟨cw_Reports_copyStored, yd_Reports_copyStored, w_933, w_935, wp_43, w_11, ⟨_, _, rfl⟩, by decide, by decide⟩
theorem c_Reports_retrieve_78 : ob_vd k_Reports_retrieve k_Ring_hasRoom 78 1 2 := ⟨cw_Ring_hasRoom, yd_Ring_hasRoom, w_638, w_627, w_628, w_8, ⟨_, _, rfl⟩, by decide, by decide⟩
theorem c_Reports_retrieve_84 : ob_vd k_Reports_retrieve k_Ring_number 84 2 2 := ⟨cw_Ring_number, yd_Ring_number, w_643, w_644, w_645, w_8, ⟨_, _, rfl⟩, by decide, by decide⟩
def f_Reports_retrieve_L2 (S : ob_S) : Nat → Nat → Nat → Int32 → ob_D → Option (ob_D)
  | 0, _, _, _, _ => none
  | n + 1, v0, v1, v2, D => (if (D.1 v0 8) = 0 then ob_lt (ob_pI D v0 8 (0 : Int32)) fun D1 => some D1 else (if (D.1 v0 7) ≤ v2 then ob_lt (ob_pI D v0 8 (0 : Int32)) fun D2 => some D2 else if D.2.1 v0 1 ≠ 0 then (if (D.1 (D.2.1 v0 1) 2) ≤ (D.1 v0 11) then ob_lt (ob_pI D v0 8 (0 : Int32)) fun D5 => some D5 else if D.2.1 v0 1 ≠ 0 then ob_bd (f_Ring_number S (D.2.1 v0 1) ((D.1 v0 11) + (4 : Int32)) (2 : Int32) D) fun x10 D8 => if D8.2.1 v0 1 ≠ 0 then ob_bd (f_Ring_number S (D8.2.1 v0 1) ((D8.1 v0 11) + (13 : Int32)) (4 : Int32) D8) fun x15 D13 => (if x15 < (D13.1 v0 9) then ob_lt (ob_pI D13 v0 11 ((D13.1 v0 11) + (x10 + (7 : Int32)))) fun D16 => f_Reports_retrieve_L2 S n v0 v1 (v2 + (1 : Int32)) D16 else (if (D13.1 v0 10) < x15 then ob_lt (ob_pI D13 v0 11 ((D13.1 v0 11) + (x10 + (7 : Int32)))) fun D17 => f_Reports_retrieve_L2 S n v0 v1 (v2 + (1 : Int32)) D17 else ob_bd (f_Ring_hasRoom S v1 (x10 + (7 : Int32)) D13) fun x20 D18 => (if x20 = 0 then some D18 else ob_bv (f_Reports_copyStored S v0 (x10 + (7 : Int32)) v1 D18) fun D21 => ob_lt (ob_pI D21 v0 11 ((D21.1 v0 11) + (x10 + (7 : Int32)))) fun D23 => f_Reports_retrieve_L2 S n v0 v1 (v2 + (1 : Int32)) D23))) else none else none) else none))
theorem v_Reports_retrieve_L2 {l : Launch} {E : ob_E} {S : ob_S} {D' : ob_D} : ∀ (n : Nat), ∀ (v0 : Nat) (v1 : Nat) (v2 : Int32) (D : ob_D), S.1 v0 = 9 → S.1 v1 = 3 → f_Reports_retrieve_L2 S n v0 v1 v2 D = some D' → ob_V l E k_Reports_retrieve 2 [(0, .ref v0), (1, .ref v1), (2, .int v2)] [] S D none S D' := by
  intro n
  induction n with
  | zero =>
    intro v0 v1 v2 D hp_v0 hp_v1 h
    have h : none = some D' := h
    cases h
  | succ n ih =>
    intro v0 v1 v2 D hp_v0 hp_v1 h
    rw [f_Reports_retrieve_L2] at h
    refine ob_aload d_Reports_retrieve_2 rfl ?_
    refine ob_getI d_Reports_retrieve_3 F_8_8 l_Reports_91 hp_v0 ?_
    refine ob_if_eq d_Reports_retrieve_6 (fun hc => ?_) (fun hc => ?_)
    · replace h := ob_ift hc h
      refine ob_aload d_Reports_retrieve_115 rfl ?_
      refine ob_push d_Reports_retrieve_116 ?_
      replace h := ob_lt_e h
      refine ob_putZ d_Reports_retrieve_117 F_8_8 l_Reports_91 hp_v0 (Or.inl rfl) ?_
      exact ob_ve h (ob_vret d_Reports_retrieve_120 rfl)
    · replace h := ob_iff hc h
      refine ob_iload d_Reports_retrieve_9 rfl ?_
      refine ob_aload d_Reports_retrieve_10 rfl ?_
      refine ob_getI d_Reports_retrieve_11 F_8_7 l_Reports_75 hp_v0 ?_
      refine ob_icmp_ge d_Reports_retrieve_14 (fun hc => ?_) (fun hc => ?_)
      · replace h := ob_ift hc h
        refine ob_aload d_Reports_retrieve_115 rfl ?_
        refine ob_push d_Reports_retrieve_116 ?_
        replace h := ob_lt_e h
        refine ob_putZ d_Reports_retrieve_117 F_8_8 l_Reports_91 hp_v0 (Or.inl rfl) ?_
        exact ob_ve h (ob_vret d_Reports_retrieve_120 rfl)
      · replace h := ob_iff hc h
        refine ob_aload d_Reports_retrieve_17 rfl ?_
        refine ob_getI d_Reports_retrieve_18 F_8_11 l_Reports_88 hp_v0 ?_
        refine ob_aload d_Reports_retrieve_21 rfl ?_
        obtain ⟨hg4, h⟩ := ob_gd h
        refine ob_getR d_Reports_retrieve_22 F_8_1 l_Reports_20 hp_v0 hg4 (fun hk3 => ?_)
        refine ob_getI d_Reports_retrieve_25 F_2_2 l_Reports_101 hk3 ?_
        refine ob_icmp_ge d_Reports_retrieve_28 (fun hc => ?_) (fun hc => ?_)
        · replace h := ob_ift hc h
          refine ob_aload d_Reports_retrieve_115 rfl ?_
          refine ob_push d_Reports_retrieve_116 ?_
          replace h := ob_lt_e h
          refine ob_putZ d_Reports_retrieve_117 F_8_8 l_Reports_91 hp_v0 (Or.inl rfl) ?_
          exact ob_ve h (ob_vret d_Reports_retrieve_120 rfl)
        · replace h := ob_iff hc h
          refine ob_aload d_Reports_retrieve_31 rfl ?_
          obtain ⟨hg7, h⟩ := ob_gd h
          refine ob_getR d_Reports_retrieve_32 F_8_1 l_Reports_20 hp_v0 hg7 (fun hk6 => ?_)
          refine ob_aload d_Reports_retrieve_35 rfl ?_
          refine ob_getI d_Reports_retrieve_36 F_8_11 l_Reports_88 hp_v0 ?_
          refine ob_push d_Reports_retrieve_39 ?_
          refine ob_iadd d_Reports_retrieve_40 ?_
          refine ob_push d_Reports_retrieve_41 ?_
          obtain ⟨x10, D8, h9, h⟩ := ob_bd_e h
          refine ob_callVi (As := [.int ((D.1 v0 11) + (4 : Int32)), .int (2 : Int32)]) (rest := []) d_Reports_retrieve_42 c_Reports_retrieve_84 hk6 rfl rfl (Nat.le_of_ble_eq_true rfl) (c_Ring_number hk6 h9) ⟨Nat.le_refl _, Nat.le_refl _⟩ ⟨Nat.le_refl _, Nat.le_refl _⟩ ?_
          refine ob_push d_Reports_retrieve_45 ?_
          refine ob_iadd d_Reports_retrieve_47 ?_
          refine ob_istore (lo2 := [(0, .ref v0), (1, .ref v1), (2, .int v2), (3, .int (x10 + (7 : Int32)))]) d_Reports_retrieve_48 rfl ?_
          refine ob_aload d_Reports_retrieve_49 rfl ?_
          obtain ⟨hg12, h⟩ := ob_gd h
          refine ob_getR d_Reports_retrieve_50 F_8_1 l_Reports_20 hp_v0 hg12 (fun hk11 => ?_)
          refine ob_aload d_Reports_retrieve_53 rfl ?_
          refine ob_getI d_Reports_retrieve_54 F_8_11 l_Reports_88 hp_v0 ?_
          refine ob_push d_Reports_retrieve_57 ?_
          refine ob_iadd d_Reports_retrieve_59 ?_
          refine ob_push d_Reports_retrieve_60 ?_
          obtain ⟨x15, D13, h14, h⟩ := ob_bd_e h
          refine ob_callVi (As := [.int ((D8.1 v0 11) + (13 : Int32)), .int (4 : Int32)]) (rest := []) d_Reports_retrieve_61 c_Reports_retrieve_84 hk11 rfl rfl (Nat.le_of_ble_eq_true rfl) (c_Ring_number hk11 h14) ⟨Nat.le_refl _, Nat.le_refl _⟩ ⟨Nat.le_refl _, Nat.le_refl _⟩ ?_
          refine ob_istore (lo2 := [(0, .ref v0), (1, .ref v1), (2, .int v2), (3, .int (x10 + (7 : Int32))), (4, .int x15)]) d_Reports_retrieve_64 rfl ?_
          refine ob_iload d_Reports_retrieve_66 rfl ?_
          refine ob_aload d_Reports_retrieve_68 rfl ?_
          refine ob_getI d_Reports_retrieve_69 F_8_9 l_Reports_95 hp_v0 ?_
          refine ob_icmp_lt d_Reports_retrieve_72 (fun hc => ?_) (fun hc => ?_)
          · replace h := ob_ift hc h
            refine ob_aload d_Reports_retrieve_99 rfl ?_
            refine ob_dup d_Reports_retrieve_100 rfl ?_
            refine ob_getI d_Reports_retrieve_101 F_8_11 l_Reports_88 hp_v0 ?_
            refine ob_iload d_Reports_retrieve_104 rfl ?_
            refine ob_iadd d_Reports_retrieve_105 ?_
            replace h := ob_lt_e h
            refine ob_putI d_Reports_retrieve_106 F_8_11 l_Reports_88 hp_v0 ?_
            refine ob_iinc (lo2 := [(0, .ref v0), (1, .ref v1), (2, .int (v2 + (1 : Int32))), (3, .int (x10 + (7 : Int32))), (4, .int x15)]) d_Reports_retrieve_109 rfl rfl ?_
            refine ob_goto d_Reports_retrieve_112 ?_
            refine ob_sub (lo2 := [(0, .ref v0), (1, .ref v1), (2, .int (v2 + (1 : Int32)))]) [0, 1, 2] rfl ?_
            exact ih v0 v1 (v2 + (1 : Int32)) (ob_pI D13 v0 11 ((D13.1 v0 11) + (x10 + (7 : Int32)))) hp_v0 hp_v1 h
          · replace h := ob_iff hc h
            refine ob_iload d_Reports_retrieve_75 rfl ?_
            refine ob_aload d_Reports_retrieve_77 rfl ?_
            refine ob_getI d_Reports_retrieve_78 F_8_10 l_Reports_98 hp_v0 ?_
            refine ob_icmp_gt d_Reports_retrieve_81 (fun hc => ?_) (fun hc => ?_)
            · replace h := ob_ift hc h
              refine ob_aload d_Reports_retrieve_99 rfl ?_
              refine ob_dup d_Reports_retrieve_100 rfl ?_
              refine ob_getI d_Reports_retrieve_101 F_8_11 l_Reports_88 hp_v0 ?_
              refine ob_iload d_Reports_retrieve_104 rfl ?_
              refine ob_iadd d_Reports_retrieve_105 ?_
              replace h := ob_lt_e h
              refine ob_putI d_Reports_retrieve_106 F_8_11 l_Reports_88 hp_v0 ?_
              refine ob_iinc (lo2 := [(0, .ref v0), (1, .ref v1), (2, .int (v2 + (1 : Int32))), (3, .int (x10 + (7 : Int32))), (4, .int x15)]) d_Reports_retrieve_109 rfl rfl ?_
              refine ob_goto d_Reports_retrieve_112 ?_
              refine ob_sub (lo2 := [(0, .ref v0), (1, .ref v1), (2, .int (v2 + (1 : Int32)))]) [0, 1, 2] rfl ?_
              exact ih v0 v1 (v2 + (1 : Int32)) (ob_pI D13 v0 11 ((D13.1 v0 11) + (x10 + (7 : Int32)))) hp_v0 hp_v1 h
            · replace h := ob_iff hc h
              refine ob_aload d_Reports_retrieve_84 rfl ?_
              refine ob_iload d_Reports_retrieve_85 rfl ?_
              obtain ⟨x20, D18, h19, h⟩ := ob_bd_e h
              refine ob_callVi (As := [.int (x10 + (7 : Int32))]) (rest := []) d_Reports_retrieve_86 c_Reports_retrieve_78 hp_v1 rfl rfl (Nat.le_of_ble_eq_true rfl) (c_Ring_hasRoom hp_v1 h19) ⟨Nat.le_refl _, Nat.le_refl _⟩ ⟨Nat.le_refl _, Nat.le_refl _⟩ ?_
              refine ob_if_ne d_Reports_retrieve_89 (fun hc => ?_) (fun hc => ?_)
              · replace h := ob_iff hc h
                refine ob_aload d_Reports_retrieve_93 rfl ?_
                refine ob_iload d_Reports_retrieve_94 rfl ?_
                refine ob_aload d_Reports_retrieve_95 rfl ?_
                obtain ⟨D21, h22, h⟩ := ob_bv_e h
                refine ob_callVv (As := [.int (x10 + (7 : Int32)), .ref v1]) (rest := []) d_Reports_retrieve_96 c_Reports_retrieve_104 hp_v0 rfl rfl (Nat.le_of_ble_eq_true rfl) (c_Reports_copyStored hp_v0 hp_v1 h22) ⟨Nat.le_refl _, Nat.le_refl _⟩ ⟨Nat.le_refl _, Nat.le_refl _⟩ ?_
                refine ob_aload d_Reports_retrieve_99 rfl ?_
                refine ob_dup d_Reports_retrieve_100 rfl ?_
                refine ob_getI d_Reports_retrieve_101 F_8_11 l_Reports_88 hp_v0 ?_
                refine ob_iload d_Reports_retrieve_104 rfl ?_
                refine ob_iadd d_Reports_retrieve_105 ?_
                replace h := ob_lt_e h
                refine ob_putI d_Reports_retrieve_106 F_8_11 l_Reports_88 hp_v0 ?_
                refine ob_iinc (lo2 := [(0, .ref v0), (1, .ref v1), (2, .int (v2 + (1 : Int32))), (3, .int (x10 + (7 : Int32))), (4, .int x15)]) d_Reports_retrieve_109 rfl rfl ?_
                refine ob_goto d_Reports_retrieve_112 ?_
                refine ob_sub (lo2 := [(0, .ref v0), (1, .ref v1), (2, .int (v2 + (1 : Int32)))]) [0, 1, 2] rfl ?_
                exact ih v0 v1 (v2 + (1 : Int32)) (ob_pI D21 v0 11 ((D21.1 v0 11) + (x10 + (7 : Int32)))) hp_v0 hp_v1 h
              · replace h := ob_ift hc h
                exact ob_ve h (ob_vret d_Reports_retrieve_92 rfl)
def f_Reports_retrieve (S : ob_S) (v0 : Nat) (v1 : Nat) (D : ob_D) : Option (ob_D) :=
  f_Reports_retrieve_L2 S ob_FU v0 v1 (0 : Int32) D
theorem c_Reports_retrieve {l : Launch} {E : ob_E} {S : ob_S} {D : ob_D} {v0 : Nat} {v1 : Nat} {D' : ob_D} (hp_v0 : S.1 v0 = 9) (hp_v1 : S.1 v1 = 3) (h : f_Reports_retrieve S v0 v1 D = some D') : ob_M l E k_Reports_retrieve [.ref v0, .ref v1] S D none S D' := by
  refine ob_ofV (lo := [(0, .ref v0), (1, .ref v1)]) (by decide) rfl (Nat.le_of_ble_eq_true rfl) rfl (Nat.le_refl _) (Nat.le_refl _) ?_
  rw [f_Reports_retrieve] at h
  refine ob_push d_Reports_retrieve_0 ?_
  refine ob_istore (lo2 := [(0, .ref v0), (1, .ref v1), (2, .int (0 : Int32))]) d_Reports_retrieve_1 rfl ?_
  exact v_Reports_retrieve_L2 ob_FU v0 v1 (0 : Int32) D hp_v0 hp_v1 h
-- OrbitBox$Downlink.fillIdle(LOrbitBox$Row;)I
theorem d_Downlink_fillIdle_0 : ob_dk k_Downlink_fillIdle 0 2 (6 : Int32) (.bipush 6) 2 := ⟨by decide +kernel, rfl, show (Int8.ofInt 6).toInt32 = (6 : Int32) by decide +kernel⟩
theorem d_Downlink_fillIdle_8 : ob_dk k_Downlink_fillIdle 8 10 (6 : Int32) (.bipush 6) 2 := ⟨by decide +kernel, rfl, show (Int8.ofInt 6).toInt32 = (6 : Int32) by decide +kernel⟩
theorem d_Downlink_fillIdle_27 : ob_dk k_Downlink_fillIdle 27 30 (2046 : Int32) (.sipush 2046) 3 := ⟨by decide +kernel, rfl, show (Int16.ofInt 2046).toInt32 = (2046 : Int32) by decide +kernel⟩
theorem d_Downlink_fillIdle_30 : ob_dc k_Downlink_fillIdle 30 (.ireturn) 1 31 := ⟨by decide +kernel, rfl⟩
theorem d_Downlink_fillIdle_15 : ob_dk k_Downlink_fillIdle 15 17 (85 : Int32) (.bipush 85) 2 := ⟨by decide +kernel, rfl, show (Int8.ofInt 85).toInt32 = (85 : Int32) by decide +kernel⟩
theorem d_Downlink_fillIdle_17 : ob_dk k_Downlink_fillIdle 17 18 (1 : Int32) (.iconst 1) 1 := ⟨by decide +kernel, rfl, show Int32.ofInt 1 = (1 : Int32) by decide +kernel⟩
theorem d_Downlink_fillIdle_21 : ob_di k_Downlink_fillIdle 21 24 2 1 (1 : Int32) := ⟨by decide +kernel, rfl, by decide +kernel, by decide +kernel⟩
theorem d_Downlink_fillIdle_24 : ob_db k_Downlink_fillIdle 24 (.goto (-21)) (-21) 27 3 := ⟨by decide +kernel, rfl, by decide⟩
theorem d_Downlink_fillIdle_18 : ob_dc k_Downlink_fillIdle 18 (.invokevirtual 51) 3 21 := ⟨by decide +kernel, rfl⟩
theorem d_Downlink_fillIdle_14 : ob_dv ob_ac k_Downlink_fillIdle 14 15 1 (.aload_n 1) 1 := ⟨by decide +kernel, rfl, rfl⟩
theorem d_Downlink_fillIdle_11 : ob_db k_Downlink_fillIdle 11 (.if_icmp .ge 16) 16 14 27 := ⟨by decide +kernel, rfl, by decide⟩
theorem d_Downlink_fillIdle_10 : ob_dc k_Downlink_fillIdle 10 (.isub) 1 11 := ⟨by decide +kernel, rfl⟩
theorem d_Downlink_fillIdle_5 : ob_dc k_Downlink_fillIdle 5 (.getfield 9) 3 8 := ⟨by decide +kernel, rfl⟩
theorem d_Downlink_fillIdle_4 : ob_dv ob_ac k_Downlink_fillIdle 4 5 0 (.aload_n 0) 1 := ⟨by decide +kernel, rfl, rfl⟩
theorem d_Downlink_fillIdle_3 : ob_dv ob_lc k_Downlink_fillIdle 3 4 2 (.iload_n 2) 1 := ⟨by decide +kernel, rfl, rfl⟩
theorem d_Downlink_fillIdle_2 : ob_dv (ob_sc k_Downlink_fillIdle.2.2.2.1) k_Downlink_fillIdle 2 3 2 (.istore_n 2) 1 := ⟨by decide +kernel, rfl, ⟨rfl, by decide +kernel⟩⟩
theorem c_Downlink_fillIdle_51 : ob_vd k_Downlink_fillIdle k_Row_add 51 2 1 := ⟨cw_Row_add, yd_Row_add, w_952, w_467, w_468, w_2, ⟨_, _, rfl⟩, by decide, by decide⟩
def f_Downlink_fillIdle_L3 (S : ob_S) : Nat → Nat → Nat → Int32 → ob_D → Option (Int32 × ob_D)
  | 0, _, _, _, _ => none
  | n + 1, v0, v1, v2, D => (if ((D.1 v0 3) - (6 : Int32)) ≤ v2 then some ((2046 : Int32), D) else ob_bv (f_Row_add S v1 (85 : Int32) (1 : Int32) D) fun D1 => f_Downlink_fillIdle_L3 S n v0 v1 (v2 + (1 : Int32)) D1)
theorem v_Downlink_fillIdle_L3 {l : Launch} {E : ob_E} {S : ob_S} {r : Int32} {D' : ob_D} : ∀ (n : Nat), ∀ (v0 : Nat) (v1 : Nat) (v2 : Int32) (D : ob_D), S.1 v0 = 10 → S.1 v1 = 2 → f_Downlink_fillIdle_L3 S n v0 v1 v2 D = some (r, D') → ob_V l E k_Downlink_fillIdle 3 [(0, .ref v0), (1, .ref v1), (2, .int v2)] [] S D (some (.int r)) S D' := by
  intro n
  induction n with
  | zero =>
    intro v0 v1 v2 D hp_v0 hp_v1 h
    have h : none = some (r, D') := h
    cases h
  | succ n ih =>
    intro v0 v1 v2 D hp_v0 hp_v1 h
    rw [f_Downlink_fillIdle_L3] at h
    refine ob_iload d_Downlink_fillIdle_3 rfl ?_
    refine ob_aload d_Downlink_fillIdle_4 rfl ?_
    refine ob_getI d_Downlink_fillIdle_5 F_9_3 l_Downlink_9 hp_v0 ?_
    refine ob_push d_Downlink_fillIdle_8 ?_
    refine ob_isub d_Downlink_fillIdle_10 ?_
    refine ob_icmp_ge d_Downlink_fillIdle_11 (fun hc => ?_) (fun hc => ?_)
    · replace h := ob_ift hc h
      refine ob_push d_Downlink_fillIdle_27 ?_
      exact ob_ie h (ob_iret d_Downlink_fillIdle_30 rfl rfl)
    · replace h := ob_iff hc h
      refine ob_aload d_Downlink_fillIdle_14 rfl ?_
      refine ob_push d_Downlink_fillIdle_15 ?_
      refine ob_push d_Downlink_fillIdle_17 ?_
      obtain ⟨D1, h2, h⟩ := ob_bv_e h
      refine ob_callVv (As := [.int (85 : Int32), .int (1 : Int32)]) (rest := []) d_Downlink_fillIdle_18 c_Downlink_fillIdle_51 hp_v1 rfl rfl (Nat.le_of_ble_eq_true rfl) (c_Row_add hp_v1 h2) ⟨Nat.le_refl _, Nat.le_refl _⟩ ⟨Nat.le_refl _, Nat.le_refl _⟩ ?_
      refine ob_iinc (lo2 := [(0, .ref v0), (1, .ref v1), (2, .int (v2 + (1 : Int32)))]) d_Downlink_fillIdle_21 rfl rfl ?_
      refine ob_goto d_Downlink_fillIdle_24 ?_
      exact ih v0 v1 (v2 + (1 : Int32)) D1 hp_v0 hp_v1 h
def f_Downlink_fillIdle (S : ob_S) (v0 : Nat) (v1 : Nat) (D : ob_D) : Option (Int32 × ob_D) :=
  f_Downlink_fillIdle_L3 S ob_FU v0 v1 (6 : Int32) D
theorem c_Downlink_fillIdle {l : Launch} {E : ob_E} {S : ob_S} {D : ob_D} {v0 : Nat} {v1 : Nat} {r : Int32} {D' : ob_D} (hp_v0 : S.1 v0 = 10) (hp_v1 : S.1 v1 = 2) (h : f_Downlink_fillIdle S v0 v1 D = some (r, D')) : ob_M l E k_Downlink_fillIdle [.ref v0, .ref v1] S D (some (.int r)) S D' := by
  refine ob_ofV (lo := [(0, .ref v0), (1, .ref v1)]) (by decide) rfl (Nat.le_of_ble_eq_true rfl) rfl (Nat.le_refl _) (Nat.le_refl _) ?_
  rw [f_Downlink_fillIdle] at h
  refine ob_push d_Downlink_fillIdle_0 ?_
  refine ob_istore (lo2 := [(0, .ref v0), (1, .ref v1), (2, .int (6 : Int32))]) d_Downlink_fillIdle_2 rfl ?_
  exact v_Downlink_fillIdle_L3 ob_FU v0 v1 (6 : Int32) D hp_v0 hp_v1 h
-- OrbitBox$Downlink.putEmptyPacket(LOrbitBox$Ring;I)V
theorem d_Downlink_putEmptyPacket_1 : ob_dk k_Downlink_putEmptyPacket 1 4 (263 : Int32) (.sipush 263) 3 := ⟨by decide +kernel, rfl, show (Int16.ofInt 263).toInt32 = (263 : Int32) by decide +kernel⟩
theorem d_Downlink_putEmptyPacket_8 : ob_dk k_Downlink_putEmptyPacket 8 11 (255 : Int32) (.sipush 255) 3 := ⟨by decide +kernel, rfl, show (Int16.ofInt 255).toInt32 = (255 : Int32) by decide +kernel⟩
theorem d_Downlink_putEmptyPacket_15 : ob_dk k_Downlink_putEmptyPacket 15 18 (192 : Int32) (.sipush 192) 3 := ⟨by decide +kernel, rfl, show (Int16.ofInt 192).toInt32 = (192 : Int32) by decide +kernel⟩
theorem d_Downlink_putEmptyPacket_22 : ob_dk k_Downlink_putEmptyPacket 22 23 (0 : Int32) (.iconst 0) 1 := ⟨by decide +kernel, rfl, show Int32.ofInt 0 = (0 : Int32) by decide +kernel⟩
theorem d_Downlink_putEmptyPacket_28 : ob_dk k_Downlink_putEmptyPacket 28 30 (7 : Int32) (.bipush 7) 2 := ⟨by decide +kernel, rfl, show (Int8.ofInt 7).toInt32 = (7 : Int32) by decide +kernel⟩
theorem d_Downlink_putEmptyPacket_31 : ob_dk k_Downlink_putEmptyPacket 31 33 (8 : Int32) (.bipush 8) 2 := ⟨by decide +kernel, rfl, show (Int8.ofInt 8).toInt32 = (8 : Int32) by decide +kernel⟩
theorem d_Downlink_putEmptyPacket_39 : ob_dk k_Downlink_putEmptyPacket 39 41 (7 : Int32) (.bipush 7) 2 := ⟨by decide +kernel, rfl, show (Int8.ofInt 7).toInt32 = (7 : Int32) by decide +kernel⟩
theorem d_Downlink_putEmptyPacket_42 : ob_dk k_Downlink_putEmptyPacket 42 45 (255 : Int32) (.sipush 255) 3 := ⟨by decide +kernel, rfl, show (Int16.ofInt 255).toInt32 = (255 : Int32) by decide +kernel⟩
theorem d_Downlink_putEmptyPacket_49 : ob_dk k_Downlink_putEmptyPacket 49 51 (6 : Int32) (.bipush 6) 2 := ⟨by decide +kernel, rfl, show (Int8.ofInt 6).toInt32 = (6 : Int32) by decide +kernel⟩
theorem d_Downlink_putEmptyPacket_69 : ob_dc k_Downlink_putEmptyPacket 69 (.return_) 1 70 := ⟨by decide +kernel, rfl⟩
theorem d_Downlink_putEmptyPacket_58 : ob_dk k_Downlink_putEmptyPacket 58 60 (85 : Int32) (.bipush 85) 2 := ⟨by decide +kernel, rfl, show (Int8.ofInt 85).toInt32 = (85 : Int32) by decide +kernel⟩
theorem d_Downlink_putEmptyPacket_63 : ob_di k_Downlink_putEmptyPacket 63 66 2 1 (1 : Int32) := ⟨by decide +kernel, rfl, by decide +kernel, by decide +kernel⟩
theorem d_Downlink_putEmptyPacket_66 : ob_db k_Downlink_putEmptyPacket 66 (.goto (-14)) (-14) 69 52 := ⟨by decide +kernel, rfl, by decide⟩
theorem d_Downlink_putEmptyPacket_60 : ob_dc k_Downlink_putEmptyPacket 60 (.invokevirtual 87) 3 63 := ⟨by decide +kernel, rfl⟩
theorem d_Downlink_putEmptyPacket_57 : ob_dv ob_ac k_Downlink_putEmptyPacket 57 58 0 (.aload_n 0) 1 := ⟨by decide +kernel, rfl, rfl⟩
theorem d_Downlink_putEmptyPacket_54 : ob_db k_Downlink_putEmptyPacket 54 (.if_icmp .ge 15) 15 57 69 := ⟨by decide +kernel, rfl, by decide⟩
theorem d_Downlink_putEmptyPacket_53 : ob_dv ob_lc k_Downlink_putEmptyPacket 53 54 1 (.iload_n 1) 1 := ⟨by decide +kernel, rfl, rfl⟩
theorem d_Downlink_putEmptyPacket_52 : ob_dv ob_lc k_Downlink_putEmptyPacket 52 53 2 (.iload_n 2) 1 := ⟨by decide +kernel, rfl, rfl⟩
theorem d_Downlink_putEmptyPacket_51 : ob_dv (ob_sc k_Downlink_putEmptyPacket.2.2.2.1) k_Downlink_putEmptyPacket 51 52 2 (.istore_n 2) 1 := ⟨by decide +kernel, rfl, ⟨rfl, by decide +kernel⟩⟩
theorem d_Downlink_putEmptyPacket_46 : ob_dc k_Downlink_putEmptyPacket 46 (.invokevirtual 87) 3 49 := ⟨by decide +kernel, rfl⟩
theorem d_Downlink_putEmptyPacket_45 : ob_dc k_Downlink_putEmptyPacket 45 (.iand) 1 46 := ⟨by decide +kernel, rfl⟩
theorem d_Downlink_putEmptyPacket_41 : ob_dc k_Downlink_putEmptyPacket 41 (.isub) 1 42 := ⟨by decide +kernel, rfl⟩
theorem d_Downlink_putEmptyPacket_38 : ob_dv ob_lc k_Downlink_putEmptyPacket 38 39 1 (.iload_n 1) 1 := ⟨by decide +kernel, rfl, rfl⟩
theorem d_Downlink_putEmptyPacket_37 : ob_dv ob_ac k_Downlink_putEmptyPacket 37 38 0 (.aload_n 0) 1 := ⟨by decide +kernel, rfl, rfl⟩
theorem d_Downlink_putEmptyPacket_34 : ob_dc k_Downlink_putEmptyPacket 34 (.invokevirtual 87) 3 37 := ⟨by decide +kernel, rfl⟩
theorem d_Downlink_putEmptyPacket_33 : ob_dc k_Downlink_putEmptyPacket 33 (.iushr) 1 34 := ⟨by decide +kernel, rfl⟩
theorem d_Downlink_putEmptyPacket_30 : ob_dc k_Downlink_putEmptyPacket 30 (.isub) 1 31 := ⟨by decide +kernel, rfl⟩
theorem d_Downlink_putEmptyPacket_27 : ob_dv ob_lc k_Downlink_putEmptyPacket 27 28 1 (.iload_n 1) 1 := ⟨by decide +kernel, rfl, rfl⟩
theorem d_Downlink_putEmptyPacket_26 : ob_dv ob_ac k_Downlink_putEmptyPacket 26 27 0 (.aload_n 0) 1 := ⟨by decide +kernel, rfl, rfl⟩
theorem d_Downlink_putEmptyPacket_23 : ob_dc k_Downlink_putEmptyPacket 23 (.invokevirtual 87) 3 26 := ⟨by decide +kernel, rfl⟩
theorem d_Downlink_putEmptyPacket_21 : ob_dv ob_ac k_Downlink_putEmptyPacket 21 22 0 (.aload_n 0) 1 := ⟨by decide +kernel, rfl, rfl⟩
theorem d_Downlink_putEmptyPacket_18 : ob_dc k_Downlink_putEmptyPacket 18 (.invokevirtual 87) 3 21 := ⟨by decide +kernel, rfl⟩
theorem d_Downlink_putEmptyPacket_14 : ob_dv ob_ac k_Downlink_putEmptyPacket 14 15 0 (.aload_n 0) 1 := ⟨by decide +kernel, rfl, rfl⟩
theorem d_Downlink_putEmptyPacket_11 : ob_dc k_Downlink_putEmptyPacket 11 (.invokevirtual 87) 3 14 := ⟨by decide +kernel, rfl⟩
theorem d_Downlink_putEmptyPacket_7 : ob_dv ob_ac k_Downlink_putEmptyPacket 7 8 0 (.aload_n 0) 1 := ⟨by decide +kernel, rfl, rfl⟩
theorem d_Downlink_putEmptyPacket_4 : ob_dc k_Downlink_putEmptyPacket 4 (.invokevirtual 87) 3 7 := ⟨by decide +kernel, rfl⟩
theorem d_Downlink_putEmptyPacket_0 : ob_dv ob_ac k_Downlink_putEmptyPacket 0 1 0 (.aload_n 0) 1 := ⟨by decide +kernel, rfl, rfl⟩
theorem c_Downlink_putEmptyPacket_87 : ob_vd k_Downlink_putEmptyPacket k_Ring_put 87 1 2 := ⟨cw_Ring_put, yd_Ring_put, w_965, w_631, w_632, w_8, ⟨_, _, rfl⟩, by decide, by decide⟩
def f_Downlink_putEmptyPacket_L52 (S : ob_S) : Nat → Nat → Int32 → Int32 → ob_D → Option (ob_D)
  | 0, _, _, _, _ => none
  | n + 1, v0, v1, v2, D => (if v1 ≤ v2 then some D else ob_bv (f_Ring_put S v0 (85 : Int32) D) fun D13 => f_Downlink_putEmptyPacket_L52 S n v0 v1 (v2 + (1 : Int32)) D13)
theorem v_Downlink_putEmptyPacket_L52 {l : Launch} {E : ob_E} {S : ob_S} {D' : ob_D} : ∀ (n : Nat), ∀ (v0 : Nat) (v1 : Int32) (v2 : Int32) (D : ob_D), S.1 v0 = 3 → f_Downlink_putEmptyPacket_L52 S n v0 v1 v2 D = some D' → ob_V l E k_Downlink_putEmptyPacket 52 [(0, .ref v0), (1, .int v1), (2, .int v2)] [] S D none S D' := by
  intro n
  induction n with
  | zero =>
    intro v0 v1 v2 D hp_v0 h
    have h : none = some D' := h
    cases h
  | succ n ih =>
    intro v0 v1 v2 D hp_v0 h
    rw [f_Downlink_putEmptyPacket_L52] at h
    refine ob_iload d_Downlink_putEmptyPacket_52 rfl ?_
    refine ob_iload d_Downlink_putEmptyPacket_53 rfl ?_
    refine ob_icmp_ge d_Downlink_putEmptyPacket_54 (fun hc => ?_) (fun hc => ?_)
    · replace h := ob_ift hc h
      exact ob_ve h (ob_vret d_Downlink_putEmptyPacket_69 rfl)
    · replace h := ob_iff hc h
      refine ob_aload d_Downlink_putEmptyPacket_57 rfl ?_
      refine ob_push d_Downlink_putEmptyPacket_58 ?_
      obtain ⟨D13, h14, h⟩ := ob_bv_e h
      refine ob_callVv (As := [.int (85 : Int32)]) (rest := []) d_Downlink_putEmptyPacket_60 c_Downlink_putEmptyPacket_87 hp_v0 rfl rfl (Nat.le_of_ble_eq_true rfl) (c_Ring_put hp_v0 h14) ⟨Nat.le_refl _, Nat.le_refl _⟩ ⟨Nat.le_refl _, Nat.le_refl _⟩ ?_
      refine ob_iinc (lo2 := [(0, .ref v0), (1, .int v1), (2, .int (v2 + (1 : Int32)))]) d_Downlink_putEmptyPacket_63 rfl rfl ?_
      refine ob_goto d_Downlink_putEmptyPacket_66 ?_
      exact ih v0 v1 (v2 + (1 : Int32)) D13 hp_v0 h
def f_Downlink_putEmptyPacket (S : ob_S) (v0 : Nat) (v1 : Int32) (D : ob_D) : Option (ob_D) :=
  ob_bv (f_Ring_put S v0 (263 : Int32) D) fun D1 => ob_bv (f_Ring_put S v0 (255 : Int32) D1) fun D3 => ob_bv (f_Ring_put S v0 (192 : Int32) D3) fun D5 => ob_bv (f_Ring_put S v0 (0 : Int32) D5) fun D7 => ob_bv (f_Ring_put S v0 (((v1 - (7 : Int32)).toUInt32 >>> ((8 : Int32).toUInt32 &&& Int32.toUInt32 31)).toInt32) D7) fun D9 => ob_bv (f_Ring_put S v0 ((v1 - (7 : Int32)) &&& (255 : Int32)) D9) fun D11 => f_Downlink_putEmptyPacket_L52 S ob_FU v0 v1 (6 : Int32) D11
theorem c_Downlink_putEmptyPacket {l : Launch} {E : ob_E} {S : ob_S} {D : ob_D} {v0 : Nat} {v1 : Int32} {D' : ob_D} (hp_v0 : S.1 v0 = 3) (h : f_Downlink_putEmptyPacket S v0 v1 D = some D') : ob_M l E k_Downlink_putEmptyPacket [.ref v0, .int v1] S D none S D' := by
  refine ob_ofV (lo := [(0, .ref v0), (1, .int v1)]) (by decide) rfl (Nat.le_of_ble_eq_true rfl) rfl (Nat.le_refl _) (Nat.le_refl _) ?_
  rw [f_Downlink_putEmptyPacket] at h
  refine ob_aload d_Downlink_putEmptyPacket_0 rfl ?_
  refine ob_push d_Downlink_putEmptyPacket_1 ?_
  obtain ⟨D1, h2, h⟩ := ob_bv_e h
  refine ob_callVv (As := [.int (263 : Int32)]) (rest := []) d_Downlink_putEmptyPacket_4 c_Downlink_putEmptyPacket_87 hp_v0 rfl rfl (Nat.le_of_ble_eq_true rfl) (c_Ring_put hp_v0 h2) ⟨Nat.le_refl _, Nat.le_refl _⟩ ⟨Nat.le_refl _, Nat.le_refl _⟩ ?_
  refine ob_aload d_Downlink_putEmptyPacket_7 rfl ?_
  refine ob_push d_Downlink_putEmptyPacket_8 ?_
  obtain ⟨D3, h4, h⟩ := ob_bv_e h
  refine ob_callVv (As := [.int (255 : Int32)]) (rest := []) d_Downlink_putEmptyPacket_11 c_Downlink_putEmptyPacket_87 hp_v0 rfl rfl (Nat.le_of_ble_eq_true rfl) (c_Ring_put hp_v0 h4) ⟨Nat.le_refl _, Nat.le_refl _⟩ ⟨Nat.le_refl _, Nat.le_refl _⟩ ?_
  refine ob_aload d_Downlink_putEmptyPacket_14 rfl ?_
  refine ob_push d_Downlink_putEmptyPacket_15 ?_
  obtain ⟨D5, h6, h⟩ := ob_bv_e h
  refine ob_callVv (As := [.int (192 : Int32)]) (rest := []) d_Downlink_putEmptyPacket_18 c_Downlink_putEmptyPacket_87 hp_v0 rfl rfl (Nat.le_of_ble_eq_true rfl) (c_Ring_put hp_v0 h6) ⟨Nat.le_refl _, Nat.le_refl _⟩ ⟨Nat.le_refl _, Nat.le_refl _⟩ ?_
  refine ob_aload d_Downlink_putEmptyPacket_21 rfl ?_
  refine ob_push d_Downlink_putEmptyPacket_22 ?_
  obtain ⟨D7, h8, h⟩ := ob_bv_e h
  refine ob_callVv (As := [.int (0 : Int32)]) (rest := []) d_Downlink_putEmptyPacket_23 c_Downlink_putEmptyPacket_87 hp_v0 rfl rfl (Nat.le_of_ble_eq_true rfl) (c_Ring_put hp_v0 h8) ⟨Nat.le_refl _, Nat.le_refl _⟩ ⟨Nat.le_refl _, Nat.le_refl _⟩ ?_
  refine ob_aload d_Downlink_putEmptyPacket_26 rfl ?_
  refine ob_iload d_Downlink_putEmptyPacket_27 rfl ?_
  refine ob_push d_Downlink_putEmptyPacket_28 ?_
  refine ob_isub d_Downlink_putEmptyPacket_30 ?_
  refine ob_push d_Downlink_putEmptyPacket_31 ?_
  refine ob_iushr d_Downlink_putEmptyPacket_33 ?_
  obtain ⟨D9, h10, h⟩ := ob_bv_e h
  refine ob_callVv (As := [.int (((v1 - (7 : Int32)).toUInt32 >>> ((8 : Int32).toUInt32 &&& Int32.toUInt32 31)).toInt32)]) (rest := []) d_Downlink_putEmptyPacket_34 c_Downlink_putEmptyPacket_87 hp_v0 rfl rfl (Nat.le_of_ble_eq_true rfl) (c_Ring_put hp_v0 h10) ⟨Nat.le_refl _, Nat.le_refl _⟩ ⟨Nat.le_refl _, Nat.le_refl _⟩ ?_
  refine ob_aload d_Downlink_putEmptyPacket_37 rfl ?_
  refine ob_iload d_Downlink_putEmptyPacket_38 rfl ?_
  refine ob_push d_Downlink_putEmptyPacket_39 ?_
  refine ob_isub d_Downlink_putEmptyPacket_41 ?_
  refine ob_push d_Downlink_putEmptyPacket_42 ?_
  refine ob_iand d_Downlink_putEmptyPacket_45 ?_
  obtain ⟨D11, h12, h⟩ := ob_bv_e h
  refine ob_callVv (As := [.int ((v1 - (7 : Int32)) &&& (255 : Int32))]) (rest := []) d_Downlink_putEmptyPacket_46 c_Downlink_putEmptyPacket_87 hp_v0 rfl rfl (Nat.le_of_ble_eq_true rfl) (c_Ring_put hp_v0 h12) ⟨Nat.le_refl _, Nat.le_refl _⟩ ⟨Nat.le_refl _, Nat.le_refl _⟩ ?_
  refine ob_push d_Downlink_putEmptyPacket_49 ?_
  refine ob_istore (lo2 := [(0, .ref v0), (1, .int v1), (2, .int (6 : Int32))]) d_Downlink_putEmptyPacket_51 rfl ?_
  exact v_Downlink_putEmptyPacket_L52 ob_FU v0 v1 (6 : Int32) D11 hp_v0 h
-- OrbitBox$Downlink.fill(LOrbitBox$Row;LOrbitBox$Ring;)I
theorem d_Downlink_fill_0 : ob_dk k_Downlink_fill 0 3 (2047 : Int32) (.sipush 2047) 3 := ⟨by decide +kernel, rfl, show (Int16.ofInt 2047).toInt32 = (2047 : Int32) by decide +kernel⟩
theorem d_Downlink_fill_8 : ob_dk k_Downlink_fill 8 10 (6 : Int32) (.bipush 6) 2 := ⟨by decide +kernel, rfl, show (Int8.ofInt 6).toInt32 = (6 : Int32) by decide +kernel⟩
theorem d_Downlink_fill_13 : ob_dk k_Downlink_fill 13 15 (6 : Int32) (.bipush 6) 2 := ⟨by decide +kernel, rfl, show (Int8.ofInt 6).toInt32 = (6 : Int32) by decide +kernel⟩
theorem d_Downlink_fill_86 : ob_dc k_Downlink_fill 86 (.ireturn) 1 87 := ⟨by decide +kernel, rfl⟩
theorem d_Downlink_fill_85 : ob_dv ob_lc k_Downlink_fill 85 86 3 (.iload_n 3) 1 := ⟨by decide +kernel, rfl, rfl⟩
theorem d_Downlink_fill_53 : ob_dk k_Downlink_fill 53 56 (256 : Int32) (.sipush 256) 3 := ⟨by decide +kernel, rfl, show (Int16.ofInt 256).toInt32 = (256 : Int32) by decide +kernel⟩
theorem d_Downlink_fill_75 : ob_dk k_Downlink_fill 75 76 (1 : Int32) (.iconst 1) 1 := ⟨by decide +kernel, rfl, show Int32.ofInt 1 = (1 : Int32) by decide +kernel⟩
theorem d_Downlink_fill_79 : ob_di k_Downlink_fill 79 82 5 1 (1 : Int32) := ⟨by decide +kernel, rfl, by decide +kernel, by decide +kernel⟩
theorem d_Downlink_fill_82 : ob_db k_Downlink_fill 82 (.goto (-65)) (-65) 85 17 := ⟨by decide +kernel, rfl, by decide⟩
theorem d_Downlink_fill_76 : ob_dc k_Downlink_fill 76 (.invokevirtual 51) 3 79 := ⟨by decide +kernel, rfl⟩
theorem d_Downlink_fill_73 : ob_dv ob_lc k_Downlink_fill 73 75 6 (.iload 6) 2 := ⟨by decide +kernel, rfl, rfl⟩
theorem d_Downlink_fill_72 : ob_dv ob_ac k_Downlink_fill 72 73 1 (.aload_n 1) 1 := ⟨by decide +kernel, rfl, rfl⟩
theorem d_Downlink_fill_60 : ob_dk k_Downlink_fill 60 63 (2047 : Int32) (.sipush 2047) 3 := ⟨by decide +kernel, rfl, show (Int16.ofInt 2047).toInt32 = (2047 : Int32) by decide +kernel⟩
theorem d_Downlink_fill_68 : ob_dk k_Downlink_fill 68 70 (6 : Int32) (.bipush 6) 2 := ⟨by decide +kernel, rfl, show (Int8.ofInt 6).toInt32 = (6 : Int32) by decide +kernel⟩
theorem d_Downlink_fill_71 : ob_dv (ob_sc k_Downlink_fill.2.2.2.1) k_Downlink_fill 71 72 3 (.istore_n 3) 1 := ⟨by decide +kernel, rfl, ⟨rfl, by decide +kernel⟩⟩
theorem d_Downlink_fill_70 : ob_dc k_Downlink_fill 70 (.isub) 1 71 := ⟨by decide +kernel, rfl⟩
theorem d_Downlink_fill_66 : ob_dv ob_lc k_Downlink_fill 66 68 5 (.iload 5) 2 := ⟨by decide +kernel, rfl, rfl⟩
theorem d_Downlink_fill_63 : ob_db k_Downlink_fill 63 (.if_icmp .ne 9) 9 66 72 := ⟨by decide +kernel, rfl, by decide⟩
theorem d_Downlink_fill_59 : ob_dv ob_lc k_Downlink_fill 59 60 3 (.iload_n 3) 1 := ⟨by decide +kernel, rfl, rfl⟩
theorem d_Downlink_fill_56 : ob_db k_Downlink_fill 56 (.if_icmp .lt 16) 16 59 72 := ⟨by decide +kernel, rfl, by decide⟩
theorem d_Downlink_fill_51 : ob_dv ob_lc k_Downlink_fill 51 53 6 (.iload 6) 2 := ⟨by decide +kernel, rfl, rfl⟩
theorem d_Downlink_fill_49 : ob_dv (ob_sc k_Downlink_fill.2.2.2.1) k_Downlink_fill 49 51 6 (.istore 6) 2 := ⟨by decide +kernel, rfl, ⟨rfl, by decide +kernel⟩⟩
theorem d_Downlink_fill_46 : ob_dc k_Downlink_fill 46 (.invokevirtual 83) 3 49 := ⟨by decide +kernel, rfl⟩
theorem d_Downlink_fill_45 : ob_dv ob_ac k_Downlink_fill 45 46 2 (.aload_n 2) 1 := ⟨by decide +kernel, rfl, rfl⟩
theorem d_Downlink_fill_32 : ob_dk k_Downlink_fill 32 34 (7 : Int32) (.bipush 7) 2 := ⟨by decide +kernel, rfl, show (Int8.ofInt 7).toInt32 = (7 : Int32) by decide +kernel⟩
theorem d_Downlink_fill_42 : ob_dc k_Downlink_fill 42 (.invokestatic 79) 3 45 := ⟨by decide +kernel, rfl⟩
theorem d_Downlink_fill_39 : ob_dc k_Downlink_fill 39 (.invokestatic 74) 3 42 := ⟨by decide +kernel, rfl⟩
theorem d_Downlink_fill_38 : ob_dc k_Downlink_fill 38 (.isub) 1 39 := ⟨by decide +kernel, rfl⟩
theorem d_Downlink_fill_36 : ob_dv ob_lc k_Downlink_fill 36 38 5 (.iload 5) 2 := ⟨by decide +kernel, rfl, rfl⟩
theorem d_Downlink_fill_34 : ob_dv ob_lc k_Downlink_fill 34 36 4 (.iload 4) 2 := ⟨by decide +kernel, rfl, rfl⟩
theorem d_Downlink_fill_31 : ob_dv ob_ac k_Downlink_fill 31 32 2 (.aload_n 2) 1 := ⟨by decide +kernel, rfl, rfl⟩
theorem d_Downlink_fill_28 : ob_db k_Downlink_fill 28 (.ifCond .ne 17) 17 31 45 := ⟨by decide +kernel, rfl, by decide⟩
theorem d_Downlink_fill_25 : ob_dc k_Downlink_fill 25 (.getfield 38) 3 28 := ⟨by decide +kernel, rfl⟩
theorem d_Downlink_fill_24 : ob_dv ob_ac k_Downlink_fill 24 25 2 (.aload_n 2) 1 := ⟨by decide +kernel, rfl, rfl⟩
theorem d_Downlink_fill_21 : ob_db k_Downlink_fill 21 (.if_icmp .ge 64) 64 24 85 := ⟨by decide +kernel, rfl, by decide⟩
theorem d_Downlink_fill_19 : ob_dv ob_lc k_Downlink_fill 19 21 4 (.iload 4) 2 := ⟨by decide +kernel, rfl, rfl⟩
theorem d_Downlink_fill_17 : ob_dv ob_lc k_Downlink_fill 17 19 5 (.iload 5) 2 := ⟨by decide +kernel, rfl, rfl⟩
theorem d_Downlink_fill_15 : ob_dv (ob_sc k_Downlink_fill.2.2.2.1) k_Downlink_fill 15 17 5 (.istore 5) 2 := ⟨by decide +kernel, rfl, ⟨rfl, by decide +kernel⟩⟩
theorem d_Downlink_fill_11 : ob_dv (ob_sc k_Downlink_fill.2.2.2.1) k_Downlink_fill 11 13 4 (.istore 4) 2 := ⟨by decide +kernel, rfl, ⟨rfl, by decide +kernel⟩⟩
theorem d_Downlink_fill_10 : ob_dc k_Downlink_fill 10 (.isub) 1 11 := ⟨by decide +kernel, rfl⟩
theorem d_Downlink_fill_5 : ob_dc k_Downlink_fill 5 (.getfield 9) 3 8 := ⟨by decide +kernel, rfl⟩
theorem d_Downlink_fill_4 : ob_dv ob_ac k_Downlink_fill 4 5 0 (.aload_n 0) 1 := ⟨by decide +kernel, rfl, rfl⟩
theorem d_Downlink_fill_3 : ob_dv (ob_sc k_Downlink_fill.2.2.2.1) k_Downlink_fill 3 4 3 (.istore_n 3) 1 := ⟨by decide +kernel, rfl, ⟨rfl, by decide +kernel⟩⟩
theorem c_Downlink_fill_51 : ob_vd k_Downlink_fill k_Row_add 51 2 1 := ⟨cw_Row_add, yd_Row_add, w_952, w_467, w_468, w_2, ⟨_, _, rfl⟩, by decide, by decide⟩
theorem c_Downlink_fill_83 : ob_vd k_Downlink_fill k_Ring_take 83 0 2 := ⟨cw_Ring_take, yd_Ring_take, w_966, w_889, w_890, w_8, ⟨_, _, rfl⟩, by decide, by decide⟩
theorem c_Downlink_fill_79 : ob_sd k_Downlink_fill k_Downlink_putEmptyPacket 79 2 := ⟨cw_Downlink_putEmptyPacket, yd_Downlink_putEmptyPacket, w_962, w_963, w_10, by decide, by decide⟩
def f_Downlink_fill_L45 (S : ob_S) (k17 : Nat → Nat → Int32 → Int32 → Int32 → ob_D → Option (Int32 × ob_D)) (v1 : Nat) (v2 : Nat) (v3 : Int32) (v4 : Int32) (v5 : Int32) (D : ob_D) : Option (Int32 × ob_D) :=
  ob_bd (f_Ring_take S v2 D) fun x3 D1 => (if x3 < (256 : Int32) then ob_bv (f_Row_add S v1 x3 (1 : Int32) D1) fun D4 => k17 v1 v2 v3 v4 (v5 + (1 : Int32)) D4 else (if v3 = (2047 : Int32) then ob_bv (f_Row_add S v1 x3 (1 : Int32) D1) fun D8 => k17 v1 v2 (v5 - (6 : Int32)) v4 (v5 + (1 : Int32)) D8 else ob_bv (f_Row_add S v1 x3 (1 : Int32) D1) fun D6 => k17 v1 v2 v3 v4 (v5 + (1 : Int32)) D6))
theorem v_Downlink_fill_L45 {l : Launch} {E : ob_E} {S : ob_S} {r : Int32} {D' : ob_D} {k17 : Nat → Nat → Int32 → Int32 → Int32 → ob_D → Option (Int32 × ob_D)} (hk17 : ∀ (v1 : Nat) (v2 : Nat) (v3 : Int32) (v4 : Int32) (v5 : Int32) (D : ob_D), S.1 v1 = 2 → S.1 v2 = 3 → k17 v1 v2 v3 v4 v5 D = some (r, D') → ob_V l E k_Downlink_fill 17 [(1, .ref v1), (2, .ref v2), (3, .int v3), (4, .int v4), (5, .int v5)] [] S D (some (.int r)) S D') : ∀ (v1 : Nat) (v2 : Nat) (v3 : Int32) (v4 : Int32) (v5 : Int32) (D : ob_D), S.1 v1 = 2 → S.1 v2 = 3 → f_Downlink_fill_L45 S k17 v1 v2 v3 v4 v5 D = some (r, D') → ob_V l E k_Downlink_fill 45 [(1, .ref v1), (2, .ref v2), (3, .int v3), (4, .int v4), (5, .int v5)] [] S D (some (.int r)) S D' := by
  intro v1 v2 v3 v4 v5 D hp_v1 hp_v2 h
  rw [f_Downlink_fill_L45] at h
  refine ob_aload d_Downlink_fill_45 rfl ?_
  obtain ⟨x3, D1, h2, h⟩ := ob_bd_e h
  refine ob_callVi (As := []) (rest := []) d_Downlink_fill_46 c_Downlink_fill_83 hp_v2 rfl rfl (Nat.le_of_ble_eq_true rfl) (c_Ring_take hp_v2 h2) ⟨Nat.le_refl _, Nat.le_refl _⟩ ⟨Nat.le_refl _, Nat.le_refl _⟩ ?_
  refine ob_istore (lo2 := [(1, .ref v1), (2, .ref v2), (3, .int v3), (4, .int v4), (5, .int v5), (6, .int x3)]) d_Downlink_fill_49 rfl ?_
  refine ob_iload d_Downlink_fill_51 rfl ?_
  refine ob_push d_Downlink_fill_53 ?_
  refine ob_icmp_lt d_Downlink_fill_56 (fun hc => ?_) (fun hc => ?_)
  · replace h := ob_ift hc h
    refine ob_aload d_Downlink_fill_72 rfl ?_
    refine ob_iload d_Downlink_fill_73 rfl ?_
    refine ob_push d_Downlink_fill_75 ?_
    obtain ⟨D4, h5, h⟩ := ob_bv_e h
    refine ob_callVv (As := [.int x3, .int (1 : Int32)]) (rest := []) d_Downlink_fill_76 c_Downlink_fill_51 hp_v1 rfl rfl (Nat.le_of_ble_eq_true rfl) (c_Row_add hp_v1 h5) ⟨Nat.le_refl _, Nat.le_refl _⟩ ⟨Nat.le_refl _, Nat.le_refl _⟩ ?_
    refine ob_iinc (lo2 := [(1, .ref v1), (2, .ref v2), (3, .int v3), (4, .int v4), (5, .int (v5 + (1 : Int32))), (6, .int x3)]) d_Downlink_fill_79 rfl rfl ?_
    refine ob_goto d_Downlink_fill_82 ?_
    refine ob_sub (lo2 := [(1, .ref v1), (2, .ref v2), (3, .int v3), (4, .int v4), (5, .int (v5 + (1 : Int32)))]) [0, 1, 2, 3, 4] rfl ?_
    exact hk17 v1 v2 v3 v4 (v5 + (1 : Int32)) D4 hp_v1 hp_v2 h
  · replace h := ob_iff hc h
    refine ob_iload d_Downlink_fill_59 rfl ?_
    refine ob_push d_Downlink_fill_60 ?_
    refine ob_icmp_ne d_Downlink_fill_63 (fun hc => ?_) (fun hc => ?_)
    · replace h := ob_iff hc h
      refine ob_aload d_Downlink_fill_72 rfl ?_
      refine ob_iload d_Downlink_fill_73 rfl ?_
      refine ob_push d_Downlink_fill_75 ?_
      obtain ⟨D6, h7, h⟩ := ob_bv_e h
      refine ob_callVv (As := [.int x3, .int (1 : Int32)]) (rest := []) d_Downlink_fill_76 c_Downlink_fill_51 hp_v1 rfl rfl (Nat.le_of_ble_eq_true rfl) (c_Row_add hp_v1 h7) ⟨Nat.le_refl _, Nat.le_refl _⟩ ⟨Nat.le_refl _, Nat.le_refl _⟩ ?_
      refine ob_iinc (lo2 := [(1, .ref v1), (2, .ref v2), (3, .int v3), (4, .int v4), (5, .int (v5 + (1 : Int32))), (6, .int x3)]) d_Downlink_fill_79 rfl rfl ?_
      refine ob_goto d_Downlink_fill_82 ?_
      refine ob_sub (lo2 := [(1, .ref v1), (2, .ref v2), (3, .int v3), (4, .int v4), (5, .int (v5 + (1 : Int32)))]) [0, 1, 2, 3, 4] rfl ?_
      exact hk17 v1 v2 v3 v4 (v5 + (1 : Int32)) D6 hp_v1 hp_v2 h
    · replace h := ob_ift hc h
      refine ob_iload d_Downlink_fill_66 rfl ?_
      refine ob_push d_Downlink_fill_68 ?_
      refine ob_isub d_Downlink_fill_70 ?_
      refine ob_istore (lo2 := [(1, .ref v1), (2, .ref v2), (3, .int (v5 - (6 : Int32))), (4, .int v4), (5, .int v5), (6, .int x3)]) d_Downlink_fill_71 rfl ?_
      refine ob_aload d_Downlink_fill_72 rfl ?_
      refine ob_iload d_Downlink_fill_73 rfl ?_
      refine ob_push d_Downlink_fill_75 ?_
      obtain ⟨D8, h9, h⟩ := ob_bv_e h
      refine ob_callVv (As := [.int x3, .int (1 : Int32)]) (rest := []) d_Downlink_fill_76 c_Downlink_fill_51 hp_v1 rfl rfl (Nat.le_of_ble_eq_true rfl) (c_Row_add hp_v1 h9) ⟨Nat.le_refl _, Nat.le_refl _⟩ ⟨Nat.le_refl _, Nat.le_refl _⟩ ?_
      refine ob_iinc (lo2 := [(1, .ref v1), (2, .ref v2), (3, .int (v5 - (6 : Int32))), (4, .int v4), (5, .int (v5 + (1 : Int32))), (6, .int x3)]) d_Downlink_fill_79 rfl rfl ?_
      refine ob_goto d_Downlink_fill_82 ?_
      refine ob_sub (lo2 := [(1, .ref v1), (2, .ref v2), (3, .int (v5 - (6 : Int32))), (4, .int v4), (5, .int (v5 + (1 : Int32)))]) [0, 1, 2, 3, 4] rfl ?_
      exact hk17 v1 v2 (v5 - (6 : Int32)) v4 (v5 + (1 : Int32)) D8 hp_v1 hp_v2 h
def f_Downlink_fill_L17 (S : ob_S) : Nat → Nat → Nat → Int32 → Int32 → Int32 → ob_D → Option (Int32 × ob_D)
  | 0, _, _, _, _, _, _ => none
  | n + 1, v1, v2, v3, v4, v5, D => (if v4 ≤ v5 then some (v3, D) else (if (D.1 v2 2) = 0 then ob_bv (f_Downlink_putEmptyPacket S v2 (ob_mx (7 : Int32) (v4 - v5)) D) fun D10 => f_Downlink_fill_L45 S (fun a0 a1 a2 a3 a4 d => f_Downlink_fill_L17 S n a0 a1 a2 a3 a4 d) v1 v2 v3 v4 v5 D10 else f_Downlink_fill_L45 S (fun a0 a1 a2 a3 a4 d => f_Downlink_fill_L17 S n a0 a1 a2 a3 a4 d) v1 v2 v3 v4 v5 D))
theorem v_Downlink_fill_L17 {l : Launch} {E : ob_E} {S : ob_S} {r : Int32} {D' : ob_D} : ∀ (n : Nat), ∀ (v1 : Nat) (v2 : Nat) (v3 : Int32) (v4 : Int32) (v5 : Int32) (D : ob_D), S.1 v1 = 2 → S.1 v2 = 3 → f_Downlink_fill_L17 S n v1 v2 v3 v4 v5 D = some (r, D') → ob_V l E k_Downlink_fill 17 [(1, .ref v1), (2, .ref v2), (3, .int v3), (4, .int v4), (5, .int v5)] [] S D (some (.int r)) S D' := by
  intro n
  induction n with
  | zero =>
    intro v1 v2 v3 v4 v5 D hp_v1 hp_v2 h
    have h : none = some (r, D') := h
    cases h
  | succ n ih =>
    intro v1 v2 v3 v4 v5 D hp_v1 hp_v2 h
    rw [f_Downlink_fill_L17] at h
    refine ob_iload d_Downlink_fill_17 rfl ?_
    refine ob_iload d_Downlink_fill_19 rfl ?_
    refine ob_icmp_ge d_Downlink_fill_21 (fun hc => ?_) (fun hc => ?_)
    · replace h := ob_ift hc h
      refine ob_iload d_Downlink_fill_85 rfl ?_
      exact ob_ie h (ob_iret d_Downlink_fill_86 rfl rfl)
    · replace h := ob_iff hc h
      refine ob_aload d_Downlink_fill_24 rfl ?_
      refine ob_getI d_Downlink_fill_25 F_2_2 l_Downlink_38 hp_v2 ?_
      refine ob_if_ne d_Downlink_fill_28 (fun hc => ?_) (fun hc => ?_)
      · replace h := ob_iff hc h
        exact v_Downlink_fill_L45 ih v1 v2 v3 v4 v5 D hp_v1 hp_v2 h
      · replace h := ob_ift hc h
        refine ob_aload d_Downlink_fill_31 rfl ?_
        refine ob_push d_Downlink_fill_32 ?_
        refine ob_iload d_Downlink_fill_34 rfl ?_
        refine ob_iload d_Downlink_fill_36 rfl ?_
        refine ob_isub d_Downlink_fill_38 ?_
        refine ob_mmax d_Downlink_fill_39 w_961 w_140 w_6 w_141 (by decide) (Nat.le_of_ble_eq_true rfl) ⟨Nat.le_refl _, Nat.le_refl _⟩ ?_
        obtain ⟨D10, h11, h⟩ := ob_bv_e h
        refine ob_callSv (As := [.ref v2, .int (ob_mx (7 : Int32) (v4 - v5))]) (rest := []) d_Downlink_fill_42 c_Downlink_fill_79 rfl rfl (Nat.le_of_ble_eq_true rfl) (c_Downlink_putEmptyPacket hp_v2 h11) ⟨Nat.le_refl _, Nat.le_refl _⟩ ⟨Nat.le_refl _, Nat.le_refl _⟩ ?_
        exact v_Downlink_fill_L45 ih v1 v2 v3 v4 v5 D10 hp_v1 hp_v2 h
def f_Downlink_fill (S : ob_S) (v0 : Nat) (v1 : Nat) (v2 : Nat) (D : ob_D) : Option (Int32 × ob_D) :=
  f_Downlink_fill_L17 S ob_FU v1 v2 (2047 : Int32) ((D.1 v0 3) - (6 : Int32)) (6 : Int32) D
theorem c_Downlink_fill {l : Launch} {E : ob_E} {S : ob_S} {D : ob_D} {v0 : Nat} {v1 : Nat} {v2 : Nat} {r : Int32} {D' : ob_D} (hp_v0 : S.1 v0 = 10) (hp_v1 : S.1 v1 = 2) (hp_v2 : S.1 v2 = 3) (h : f_Downlink_fill S v0 v1 v2 D = some (r, D')) : ob_M l E k_Downlink_fill [.ref v0, .ref v1, .ref v2] S D (some (.int r)) S D' := by
  refine ob_ofV (lo := [(0, .ref v0), (1, .ref v1), (2, .ref v2)]) (by decide) rfl (Nat.le_of_ble_eq_true rfl) rfl (Nat.le_refl _) (Nat.le_refl _) ?_
  rw [f_Downlink_fill] at h
  refine ob_push d_Downlink_fill_0 ?_
  refine ob_istore (lo2 := [(0, .ref v0), (1, .ref v1), (2, .ref v2), (3, .int (2047 : Int32))]) d_Downlink_fill_3 rfl ?_
  refine ob_aload d_Downlink_fill_4 rfl ?_
  refine ob_getI d_Downlink_fill_5 F_9_3 l_Downlink_9 hp_v0 ?_
  refine ob_push d_Downlink_fill_8 ?_
  refine ob_isub d_Downlink_fill_10 ?_
  refine ob_istore (lo2 := [(0, .ref v0), (1, .ref v1), (2, .ref v2), (3, .int (2047 : Int32)), (4, .int ((D.1 v0 3) - (6 : Int32)))]) d_Downlink_fill_11 rfl ?_
  refine ob_push d_Downlink_fill_13 ?_
  refine ob_istore (lo2 := [(0, .ref v0), (1, .ref v1), (2, .ref v2), (3, .int (2047 : Int32)), (4, .int ((D.1 v0 3) - (6 : Int32))), (5, .int (6 : Int32))]) d_Downlink_fill_15 rfl ?_
  refine ob_sub (lo2 := [(1, .ref v1), (2, .ref v2), (3, .int (2047 : Int32)), (4, .int ((D.1 v0 3) - (6 : Int32))), (5, .int (6 : Int32))]) [1, 2, 3, 4, 5] rfl ?_
  exact v_Downlink_fill_L17 ob_FU v1 v2 (2047 : Int32) ((D.1 v0 3) - (6 : Int32)) (6 : Int32) D hp_v1 hp_v2 h
-- OrbitBox$Downlink.writeFrame(LOrbitBox$Row;II)V
theorem d_Downlink_writeFrame_1 : ob_dk k_Downlink_writeFrame 1 2 (0 : Int32) (.iconst 0) 1 := ⟨by decide +kernel, rfl, show Int32.ofInt 0 = (0 : Int32) by decide +kernel⟩
theorem d_Downlink_writeFrame_6 : ob_dk k_Downlink_writeFrame 6 9 (5536 : Int32) (.sipush 5536) 3 := ⟨by decide +kernel, rfl, show (Int16.ofInt 5536).toInt32 = (5536 : Int32) by decide +kernel⟩
theorem d_Downlink_writeFrame_10 : ob_dk k_Downlink_writeFrame 10 11 (1 : Int32) (.iconst 1) 1 := ⟨by decide +kernel, rfl, show Int32.ofInt 1 = (1 : Int32) by decide +kernel⟩
theorem d_Downlink_writeFrame_13 : ob_dk k_Downlink_writeFrame 13 14 (1 : Int32) (.iconst 1) 1 := ⟨by decide +kernel, rfl, show Int32.ofInt 1 = (1 : Int32) by decide +kernel⟩
theorem d_Downlink_writeFrame_15 : ob_dk k_Downlink_writeFrame 15 16 (2 : Int32) (.iconst 2) 1 := ⟨by decide +kernel, rfl, show Int32.ofInt 2 = (2 : Int32) by decide +kernel⟩
theorem d_Downlink_writeFrame_24 : ob_dk k_Downlink_writeFrame 24 25 (1 : Int32) (.iconst 1) 1 := ⟨by decide +kernel, rfl, show Int32.ofInt 1 = (1 : Int32) by decide +kernel⟩
theorem d_Downlink_writeFrame_35 : ob_dk k_Downlink_writeFrame 35 36 (1 : Int32) (.iconst 1) 1 := ⟨by decide +kernel, rfl, show Int32.ofInt 1 = (1 : Int32) by decide +kernel⟩
theorem d_Downlink_writeFrame_40 : ob_dk k_Downlink_writeFrame 40 41 (0 : Int32) (.iconst 0) 1 := ⟨by decide +kernel, rfl, show Int32.ofInt 0 = (0 : Int32) by decide +kernel⟩
theorem d_Downlink_writeFrame_41 : ob_dk k_Downlink_writeFrame 41 42 (2 : Int32) (.iconst 2) 1 := ⟨by decide +kernel, rfl, show Int32.ofInt 2 = (2 : Int32) by decide +kernel⟩
theorem d_Downlink_writeFrame_46 : ob_dk k_Downlink_writeFrame 46 48 (7 : Int32) (.bipush 7) 2 := ⟨by decide +kernel, rfl, show (Int8.ofInt 7).toInt32 = (7 : Int32) by decide +kernel⟩
theorem d_Downlink_writeFrame_82 : ob_dk k_Downlink_writeFrame 82 83 (4 : Int32) (.iconst 4) 1 := ⟨by decide +kernel, rfl, show Int32.ofInt 4 = (4 : Int32) by decide +kernel⟩
theorem d_Downlink_writeFrame_83 : ob_dk k_Downlink_writeFrame 83 86 (6144 : Int32) (.sipush 6144) 3 := ⟨by decide +kernel, rfl, show (Int16.ofInt 6144).toInt32 = (6144 : Int32) by decide +kernel⟩
theorem d_Downlink_writeFrame_89 : ob_dk k_Downlink_writeFrame 89 90 (2 : Int32) (.iconst 2) 1 := ⟨by decide +kernel, rfl, show Int32.ofInt 2 = (2 : Int32) by decide +kernel⟩
theorem d_Downlink_writeFrame_95 : ob_dk k_Downlink_writeFrame 95 96 (4 : Int32) (.iconst 4) 1 := ⟨by decide +kernel, rfl, show Int32.ofInt 4 = (4 : Int32) by decide +kernel⟩
theorem d_Downlink_writeFrame_101 : ob_dk k_Downlink_writeFrame 101 102 (0 : Int32) (.iconst 0) 1 := ⟨by decide +kernel, rfl, show Int32.ofInt 0 = (0 : Int32) by decide +kernel⟩
theorem d_Downlink_writeFrame_109 : ob_dk k_Downlink_writeFrame 109 110 (2 : Int32) (.iconst 2) 1 := ⟨by decide +kernel, rfl, show Int32.ofInt 2 = (2 : Int32) by decide +kernel⟩
theorem d_Downlink_writeFrame_118 : ob_dk k_Downlink_writeFrame 118 119 (1 : Int32) (.iconst 1) 1 := ⟨by decide +kernel, rfl, show Int32.ofInt 1 = (1 : Int32) by decide +kernel⟩
theorem d_Downlink_writeFrame_130 : ob_dk k_Downlink_writeFrame 130 131 (1 : Int32) (.iconst 1) 1 := ⟨by decide +kernel, rfl, show Int32.ofInt 1 = (1 : Int32) by decide +kernel⟩
theorem d_Downlink_writeFrame_133 : ob_dc k_Downlink_writeFrame 133 (.return_) 1 134 := ⟨by decide +kernel, rfl⟩
theorem d_Downlink_writeFrame_132 : ob_dc k_Downlink_writeFrame 132 (.iastore) 1 133 := ⟨by decide +kernel, rfl⟩
theorem d_Downlink_writeFrame_131 : ob_dc k_Downlink_writeFrame 131 (.iadd) 1 132 := ⟨by decide +kernel, rfl⟩
theorem d_Downlink_writeFrame_129 : ob_dc k_Downlink_writeFrame 129 (.iaload) 1 130 := ⟨by decide +kernel, rfl⟩
theorem d_Downlink_writeFrame_128 : ob_dc k_Downlink_writeFrame 128 (.dup2) 1 129 := ⟨by decide +kernel, rfl⟩
theorem d_Downlink_writeFrame_127 : ob_dv ob_lc k_Downlink_writeFrame 127 128 2 (.iload_n 2) 1 := ⟨by decide +kernel, rfl, rfl⟩
theorem d_Downlink_writeFrame_124 : ob_dc k_Downlink_writeFrame 124 (.getfield 27) 3 127 := ⟨by decide +kernel, rfl⟩
theorem d_Downlink_writeFrame_123 : ob_dv ob_ac k_Downlink_writeFrame 123 124 0 (.aload_n 0) 1 := ⟨by decide +kernel, rfl, rfl⟩
theorem d_Downlink_writeFrame_120 : ob_dc k_Downlink_writeFrame 120 (.putfield 55) 3 123 := ⟨by decide +kernel, rfl⟩
theorem d_Downlink_writeFrame_119 : ob_dc k_Downlink_writeFrame 119 (.iadd) 1 120 := ⟨by decide +kernel, rfl⟩
theorem d_Downlink_writeFrame_115 : ob_dc k_Downlink_writeFrame 115 (.getfield 55) 3 118 := ⟨by decide +kernel, rfl⟩
theorem d_Downlink_writeFrame_114 : ob_dc k_Downlink_writeFrame 114 (.dup) 1 115 := ⟨by decide +kernel, rfl⟩
theorem d_Downlink_writeFrame_113 : ob_dv ob_ac k_Downlink_writeFrame 113 114 0 (.aload_n 0) 1 := ⟨by decide +kernel, rfl, rfl⟩
theorem d_Downlink_writeFrame_110 : ob_dc k_Downlink_writeFrame 110 (.invokevirtual 51) 3 113 := ⟨by decide +kernel, rfl⟩
theorem d_Downlink_writeFrame_106 : ob_dc k_Downlink_writeFrame 106 (.invokevirtual 70) 3 109 := ⟨by decide +kernel, rfl⟩
theorem d_Downlink_writeFrame_103 : ob_dc k_Downlink_writeFrame 103 (.getfield 48) 3 106 := ⟨by decide +kernel, rfl⟩
theorem d_Downlink_writeFrame_102 : ob_dv ob_ac k_Downlink_writeFrame 102 103 1 (.aload_n 1) 1 := ⟨by decide +kernel, rfl, rfl⟩
theorem d_Downlink_writeFrame_100 : ob_dv ob_ac k_Downlink_writeFrame 100 101 1 (.aload_n 1) 1 := ⟨by decide +kernel, rfl, rfl⟩
theorem d_Downlink_writeFrame_99 : ob_dv ob_ac k_Downlink_writeFrame 99 100 1 (.aload_n 1) 1 := ⟨by decide +kernel, rfl, rfl⟩
theorem d_Downlink_writeFrame_96 : ob_dc k_Downlink_writeFrame 96 (.invokevirtual 51) 3 99 := ⟨by decide +kernel, rfl⟩
theorem d_Downlink_writeFrame_94 : ob_dv ob_lc k_Downlink_writeFrame 94 95 3 (.iload_n 3) 1 := ⟨by decide +kernel, rfl, rfl⟩
theorem d_Downlink_writeFrame_93 : ob_dv ob_ac k_Downlink_writeFrame 93 94 1 (.aload_n 1) 1 := ⟨by decide +kernel, rfl, rfl⟩
theorem d_Downlink_writeFrame_90 : ob_dc k_Downlink_writeFrame 90 (.invokevirtual 66) 3 93 := ⟨by decide +kernel, rfl⟩
theorem d_Downlink_writeFrame_88 : ob_dc k_Downlink_writeFrame 88 (.ior) 1 89 := ⟨by decide +kernel, rfl⟩
theorem d_Downlink_writeFrame_86 : ob_dv ob_lc k_Downlink_writeFrame 86 88 4 (.iload 4) 2 := ⟨by decide +kernel, rfl, rfl⟩
theorem d_Downlink_writeFrame_81 : ob_dv ob_ac k_Downlink_writeFrame 81 82 1 (.aload_n 1) 1 := ⟨by decide +kernel, rfl, rfl⟩
theorem d_Downlink_writeFrame_79 : ob_dv (ob_sc k_Downlink_writeFrame.2.2.2.1) k_Downlink_writeFrame 79 81 4 (.istore 4) 2 := ⟨by decide +kernel, rfl, ⟨rfl, by decide +kernel⟩⟩
theorem d_Downlink_writeFrame_76 : ob_dc k_Downlink_writeFrame 76 (.invokevirtual 62) 3 79 := ⟨by decide +kernel, rfl⟩
theorem d_Downlink_writeFrame_73 : ob_dc k_Downlink_writeFrame 73 (.getfield 24) 3 76 := ⟨by decide +kernel, rfl⟩
theorem d_Downlink_writeFrame_72 : ob_dv ob_ac k_Downlink_writeFrame 72 73 0 (.aload_n 0) 1 := ⟨by decide +kernel, rfl, rfl⟩
theorem d_Downlink_writeFrame_69 : ob_db k_Downlink_writeFrame 69 (.goto 7) 7 72 76 := ⟨by decide +kernel, rfl, by decide⟩
theorem d_Downlink_writeFrame_66 : ob_dc k_Downlink_writeFrame 66 (.getfield 20) 3 69 := ⟨by decide +kernel, rfl⟩
theorem d_Downlink_writeFrame_65 : ob_dv ob_ac k_Downlink_writeFrame 65 66 0 (.aload_n 0) 1 := ⟨by decide +kernel, rfl, rfl⟩
theorem d_Downlink_writeFrame_62 : ob_db k_Downlink_writeFrame 62 (.ifCond .ne 10) 10 65 72 := ⟨by decide +kernel, rfl, by decide⟩
theorem d_Downlink_writeFrame_61 : ob_dv ob_lc k_Downlink_writeFrame 61 62 2 (.iload_n 2) 1 := ⟨by decide +kernel, rfl, rfl⟩
theorem d_Downlink_writeFrame_60 : ob_dv ob_ac k_Downlink_writeFrame 60 61 1 (.aload_n 1) 1 := ⟨by decide +kernel, rfl, rfl⟩
theorem d_Downlink_writeFrame_59 : ob_dv ob_ac k_Downlink_writeFrame 59 60 0 (.aload_n 0) 1 := ⟨by decide +kernel, rfl, rfl⟩
theorem d_Downlink_writeFrame_56 : ob_db k_Downlink_writeFrame 56 (.goto 23) 23 59 79 := ⟨by decide +kernel, rfl, by decide⟩
theorem d_Downlink_writeFrame_53 : ob_dc k_Downlink_writeFrame 53 (.invokevirtual 58) 3 56 := ⟨by decide +kernel, rfl⟩
theorem d_Downlink_writeFrame_52 : ob_dv ob_ac k_Downlink_writeFrame 52 53 1 (.aload_n 1) 1 := ⟨by decide +kernel, rfl, rfl⟩
theorem d_Downlink_writeFrame_51 : ob_dv ob_ac k_Downlink_writeFrame 51 52 0 (.aload_n 0) 1 := ⟨by decide +kernel, rfl, rfl⟩
theorem d_Downlink_writeFrame_48 : ob_db k_Downlink_writeFrame 48 (.if_icmp .ne 11) 11 51 59 := ⟨by decide +kernel, rfl, by decide⟩
theorem d_Downlink_writeFrame_45 : ob_dv ob_lc k_Downlink_writeFrame 45 46 2 (.iload_n 2) 1 := ⟨by decide +kernel, rfl, rfl⟩
theorem d_Downlink_writeFrame_42 : ob_dc k_Downlink_writeFrame 42 (.invokevirtual 51) 3 45 := ⟨by decide +kernel, rfl⟩
theorem d_Downlink_writeFrame_39 : ob_dv ob_ac k_Downlink_writeFrame 39 40 1 (.aload_n 1) 1 := ⟨by decide +kernel, rfl, rfl⟩
theorem d_Downlink_writeFrame_36 : ob_dc k_Downlink_writeFrame 36 (.invokevirtual 51) 3 39 := ⟨by decide +kernel, rfl⟩
theorem d_Downlink_writeFrame_34 : ob_dc k_Downlink_writeFrame 34 (.iaload) 1 35 := ⟨by decide +kernel, rfl⟩
theorem d_Downlink_writeFrame_33 : ob_dv ob_lc k_Downlink_writeFrame 33 34 2 (.iload_n 2) 1 := ⟨by decide +kernel, rfl, rfl⟩
theorem d_Downlink_writeFrame_30 : ob_dc k_Downlink_writeFrame 30 (.getfield 27) 3 33 := ⟨by decide +kernel, rfl⟩
theorem d_Downlink_writeFrame_29 : ob_dv ob_ac k_Downlink_writeFrame 29 30 0 (.aload_n 0) 1 := ⟨by decide +kernel, rfl, rfl⟩
theorem d_Downlink_writeFrame_28 : ob_dv ob_ac k_Downlink_writeFrame 28 29 1 (.aload_n 1) 1 := ⟨by decide +kernel, rfl, rfl⟩
theorem d_Downlink_writeFrame_25 : ob_dc k_Downlink_writeFrame 25 (.invokevirtual 51) 3 28 := ⟨by decide +kernel, rfl⟩
theorem d_Downlink_writeFrame_21 : ob_dc k_Downlink_writeFrame 21 (.getfield 55) 3 24 := ⟨by decide +kernel, rfl⟩
theorem d_Downlink_writeFrame_20 : ob_dv ob_ac k_Downlink_writeFrame 20 21 0 (.aload_n 0) 1 := ⟨by decide +kernel, rfl, rfl⟩
theorem d_Downlink_writeFrame_19 : ob_dv ob_ac k_Downlink_writeFrame 19 20 1 (.aload_n 1) 1 := ⟨by decide +kernel, rfl, rfl⟩
theorem d_Downlink_writeFrame_16 : ob_dc k_Downlink_writeFrame 16 (.invokevirtual 51) 3 19 := ⟨by decide +kernel, rfl⟩
theorem d_Downlink_writeFrame_14 : ob_dc k_Downlink_writeFrame 14 (.ior) 1 15 := ⟨by decide +kernel, rfl⟩
theorem d_Downlink_writeFrame_12 : ob_dc k_Downlink_writeFrame 12 (.ior) 1 13 := ⟨by decide +kernel, rfl⟩
theorem d_Downlink_writeFrame_11 : ob_dc k_Downlink_writeFrame 11 (.ishl) 1 12 := ⟨by decide +kernel, rfl⟩
theorem d_Downlink_writeFrame_9 : ob_dv ob_lc k_Downlink_writeFrame 9 10 2 (.iload_n 2) 1 := ⟨by decide +kernel, rfl, rfl⟩
theorem d_Downlink_writeFrame_5 : ob_dv ob_ac k_Downlink_writeFrame 5 6 1 (.aload_n 1) 1 := ⟨by decide +kernel, rfl, rfl⟩
theorem d_Downlink_writeFrame_2 : ob_dc k_Downlink_writeFrame 2 (.putfield 48) 3 5 := ⟨by decide +kernel, rfl⟩
theorem d_Downlink_writeFrame_0 : ob_dv ob_ac k_Downlink_writeFrame 0 1 1 (.aload_n 1) 1 := ⟨by decide +kernel, rfl, rfl⟩
theorem c_Downlink_writeFrame_51 : ob_vd k_Downlink_writeFrame k_Row_add 51 2 1 := ⟨cw_Row_add, yd_Row_add, w_952, w_467, w_468, w_2, ⟨_, _, rfl⟩, by decide, by decide⟩
theorem c_Downlink_writeFrame_70 : ob_vd k_Downlink_writeFrame k_Row_check 70 2 1 := ⟨cw_Row_check, yd_Row_check, w_968, w_525, w_526, w_2, ⟨_, _, rfl⟩, by decide, by decide⟩
theorem c_Downlink_writeFrame_66 : ob_vd k_Downlink_writeFrame k_Row_replace 66 3 1 := ⟨cw_Row_replace, yd_Row_replace, w_967, w_618, w_619, w_2, ⟨_, _, rfl⟩, by decide, by decide⟩
theorem c_Downlink_writeFrame_62 : ob_vd k_Downlink_writeFrame k_Downlink_fill 62 2 9 := ⟨cw_Downlink_fill, yd_Downlink_fill, w_957, w_959, wp_46, w_10, ⟨_, _, rfl⟩, by decide, by decide⟩
theorem c_Downlink_writeFrame_58 : ob_vd k_Downlink_writeFrame k_Downlink_fillIdle 58 1 9 := ⟨cw_Downlink_fillIdle, yd_Downlink_fillIdle, w_953, w_955, wp_45, w_10, ⟨_, _, rfl⟩, by decide, by decide⟩
def f_Downlink_writeFrame_L79 (S : ob_S) (v0 : Nat) (v1 : Nat) (v2 : Int32) (v3 : Int32) (s0 : Int32) (D : ob_D) : Option (ob_D) :=
  ob_bv (f_Row_replace S v1 (4 : Int32) ((6144 : Int32) ||| s0) (2 : Int32) D) fun D18 => ob_bv (f_Row_add S v1 v3 (4 : Int32) D18) fun D20 => ob_bd (f_Row_check S v1 (0 : Int32) (D20.1 v1 1) D20) fun x24 D22 => ob_bv (f_Row_add S v1 x24 (2 : Int32) D22) fun D25 => ob_lt (ob_pI D25 v0 5 ((D25.1 v0 5) + (1 : Int32))) fun D27 => if D27.2.1 v0 4 ≠ 0 then if ob_in v2 (S.2.1 (D27.2.1 v0 4)) then if ob_in v2 (S.2.1 (D27.2.1 v0 4)) then ob_lt (ob_pI D27 (D27.2.1 v0 4) v2.toNatClampNeg ((D27.1 (D27.2.1 v0 4) v2.toNatClampNeg) + (1 : Int32))) fun D32 => some D32 else none else none else none
theorem v_Downlink_writeFrame_L79 {l : Launch} {E : ob_E} {S : ob_S} {D' : ob_D} : ∀ (v0 : Nat) (v1 : Nat) (v2 : Int32) (v3 : Int32) (s0 : Int32) (D : ob_D), S.1 v0 = 10 → S.1 v1 = 2 → f_Downlink_writeFrame_L79 S v0 v1 v2 v3 s0 D = some D' → ob_V l E k_Downlink_writeFrame 79 [(0, .ref v0), (1, .ref v1), (2, .int v2), (3, .int v3)] [.int s0] S D none S D' := by
  intro v0 v1 v2 v3 s0 D hp_v0 hp_v1 h
  rw [f_Downlink_writeFrame_L79] at h
  refine ob_istore (lo2 := [(0, .ref v0), (1, .ref v1), (2, .int v2), (3, .int v3), (4, .int s0)]) d_Downlink_writeFrame_79 rfl ?_
  refine ob_aload d_Downlink_writeFrame_81 rfl ?_
  refine ob_push d_Downlink_writeFrame_82 ?_
  refine ob_push d_Downlink_writeFrame_83 ?_
  refine ob_iload d_Downlink_writeFrame_86 rfl ?_
  refine ob_ior d_Downlink_writeFrame_88 ?_
  refine ob_push d_Downlink_writeFrame_89 ?_
  obtain ⟨D18, h19, h⟩ := ob_bv_e h
  refine ob_callVv (As := [.int (4 : Int32), .int ((6144 : Int32) ||| s0), .int (2 : Int32)]) (rest := []) d_Downlink_writeFrame_90 c_Downlink_writeFrame_66 hp_v1 rfl rfl (Nat.le_of_ble_eq_true rfl) (c_Row_replace hp_v1 h19) ⟨Nat.le_refl _, Nat.le_refl _⟩ ⟨Nat.le_refl _, Nat.le_refl _⟩ ?_
  refine ob_aload d_Downlink_writeFrame_93 rfl ?_
  refine ob_iload d_Downlink_writeFrame_94 rfl ?_
  refine ob_push d_Downlink_writeFrame_95 ?_
  obtain ⟨D20, h21, h⟩ := ob_bv_e h
  refine ob_callVv (As := [.int v3, .int (4 : Int32)]) (rest := []) d_Downlink_writeFrame_96 c_Downlink_writeFrame_51 hp_v1 rfl rfl (Nat.le_of_ble_eq_true rfl) (c_Row_add hp_v1 h21) ⟨Nat.le_refl _, Nat.le_refl _⟩ ⟨Nat.le_refl _, Nat.le_refl _⟩ ?_
  refine ob_aload d_Downlink_writeFrame_99 rfl ?_
  refine ob_aload d_Downlink_writeFrame_100 rfl ?_
  refine ob_push d_Downlink_writeFrame_101 ?_
  refine ob_aload d_Downlink_writeFrame_102 rfl ?_
  refine ob_getI d_Downlink_writeFrame_103 F_1_1 l_Downlink_48 hp_v1 ?_
  obtain ⟨x24, D22, h23, h⟩ := ob_bd_e h
  refine ob_callVi (As := [.int (0 : Int32), .int (D20.1 v1 1)]) (rest := [.ref v1]) d_Downlink_writeFrame_106 c_Downlink_writeFrame_70 hp_v1 rfl rfl (Nat.le_of_ble_eq_true rfl) (c_Row_check hp_v1 h23) ⟨Nat.le_refl _, Nat.le_refl _⟩ ⟨Nat.le_refl _, Nat.le_refl _⟩ ?_
  refine ob_push d_Downlink_writeFrame_109 ?_
  obtain ⟨D25, h26, h⟩ := ob_bv_e h
  refine ob_callVv (As := [.int x24, .int (2 : Int32)]) (rest := []) d_Downlink_writeFrame_110 c_Downlink_writeFrame_51 hp_v1 rfl rfl (Nat.le_of_ble_eq_true rfl) (c_Row_add hp_v1 h26) ⟨Nat.le_refl _, Nat.le_refl _⟩ ⟨Nat.le_refl _, Nat.le_refl _⟩ ?_
  refine ob_aload d_Downlink_writeFrame_113 rfl ?_
  refine ob_dup d_Downlink_writeFrame_114 rfl ?_
  refine ob_getI d_Downlink_writeFrame_115 F_9_5 l_Downlink_55 hp_v0 ?_
  refine ob_push d_Downlink_writeFrame_118 ?_
  refine ob_iadd d_Downlink_writeFrame_119 ?_
  replace h := ob_lt_e h
  refine ob_putI d_Downlink_writeFrame_120 F_9_5 l_Downlink_55 hp_v0 ?_
  refine ob_aload d_Downlink_writeFrame_123 rfl ?_
  obtain ⟨hg29, h⟩ := ob_gd h
  refine ob_getR d_Downlink_writeFrame_124 F_9_4 l_Downlink_27 hp_v0 hg29 (fun hk28 => ?_)
  refine ob_iload d_Downlink_writeFrame_127 rfl ?_
  refine ob_dup2 d_Downlink_writeFrame_128 rfl rfl ?_
  obtain ⟨hg30, h⟩ := ob_gd h
  refine ob_iald d_Downlink_writeFrame_129 hk28 hg30 ?_
  refine ob_push d_Downlink_writeFrame_130 ?_
  refine ob_iadd d_Downlink_writeFrame_131 ?_
  obtain ⟨hg31, h⟩ := ob_gd h
  replace h := ob_lt_e h
  refine ob_iast d_Downlink_writeFrame_132 hk28 hg31 ?_
  exact ob_ve h (ob_vret d_Downlink_writeFrame_133 rfl)
def f_Downlink_writeFrame (S : ob_S) (v0 : Nat) (v1 : Nat) (v2 : Int32) (v3 : Int32) (D : ob_D) : Option (ob_D) :=
  ob_lt (ob_pI D v1 1 (0 : Int32)) fun D1 => ob_bv (f_Row_add S v1 (((5536 : Int32) ||| (v2 <<< ((1 : Int32) &&& 31))) ||| (1 : Int32)) (2 : Int32) D1) fun D2 => ob_bv (f_Row_add S v1 (D2.1 v0 5) (1 : Int32) D2) fun D4 => if D4.2.1 v0 4 ≠ 0 then if ob_in v2 (S.2.1 (D4.2.1 v0 4)) then ob_bv (f_Row_add S v1 (D4.1 (D4.2.1 v0 4) v2.toNatClampNeg) (1 : Int32) D4) fun D9 => ob_bv (f_Row_add S v1 (0 : Int32) (2 : Int32) D9) fun D11 => (if v2 = (7 : Int32) then ob_bd (f_Downlink_fillIdle S v0 v1 D11) fun x40 D38 => f_Downlink_writeFrame_L79 S v0 v1 v2 v3 x40 D38 else (if v2 = 0 then if D11.2.1 v0 0 ≠ 0 then ob_bd (f_Downlink_fill S v0 v1 (D11.2.1 v0 0) D11) fun x37 D35 => f_Downlink_writeFrame_L79 S v0 v1 v2 v3 x37 D35 else none else if D11.2.1 v0 1 ≠ 0 then ob_bd (f_Downlink_fill S v0 v1 (D11.2.1 v0 1) D11) fun x17 D15 => f_Downlink_writeFrame_L79 S v0 v1 v2 v3 x17 D15 else none)) else none else none
theorem c_Downlink_writeFrame {l : Launch} {E : ob_E} {S : ob_S} {D : ob_D} {v0 : Nat} {v1 : Nat} {v2 : Int32} {v3 : Int32} {D' : ob_D} (hp_v0 : S.1 v0 = 10) (hp_v1 : S.1 v1 = 2) (h : f_Downlink_writeFrame S v0 v1 v2 v3 D = some D') : ob_M l E k_Downlink_writeFrame [.ref v0, .ref v1, .int v2, .int v3] S D none S D' := by
  refine ob_ofV (lo := [(0, .ref v0), (1, .ref v1), (2, .int v2), (3, .int v3)]) (by decide) rfl (Nat.le_of_ble_eq_true rfl) rfl (Nat.le_refl _) (Nat.le_refl _) ?_
  rw [f_Downlink_writeFrame] at h
  refine ob_aload d_Downlink_writeFrame_0 rfl ?_
  refine ob_push d_Downlink_writeFrame_1 ?_
  replace h := ob_lt_e h
  refine ob_putI d_Downlink_writeFrame_2 F_1_1 l_Downlink_48 hp_v1 ?_
  refine ob_aload d_Downlink_writeFrame_5 rfl ?_
  refine ob_push d_Downlink_writeFrame_6 ?_
  refine ob_iload d_Downlink_writeFrame_9 rfl ?_
  refine ob_push d_Downlink_writeFrame_10 ?_
  refine ob_ishl d_Downlink_writeFrame_11 ?_
  refine ob_ior d_Downlink_writeFrame_12 ?_
  refine ob_push d_Downlink_writeFrame_13 ?_
  refine ob_ior d_Downlink_writeFrame_14 ?_
  refine ob_push d_Downlink_writeFrame_15 ?_
  obtain ⟨D2, h3, h⟩ := ob_bv_e h
  refine ob_callVv (As := [.int (((5536 : Int32) ||| (v2 <<< ((1 : Int32) &&& 31))) ||| (1 : Int32)), .int (2 : Int32)]) (rest := []) d_Downlink_writeFrame_16 c_Downlink_writeFrame_51 hp_v1 rfl rfl (Nat.le_of_ble_eq_true rfl) (c_Row_add hp_v1 h3) ⟨Nat.le_refl _, Nat.le_refl _⟩ ⟨Nat.le_refl _, Nat.le_refl _⟩ ?_
  refine ob_aload d_Downlink_writeFrame_19 rfl ?_
  refine ob_aload d_Downlink_writeFrame_20 rfl ?_
  refine ob_getI d_Downlink_writeFrame_21 F_9_5 l_Downlink_55 hp_v0 ?_
  refine ob_push d_Downlink_writeFrame_24 ?_
  obtain ⟨D4, h5, h⟩ := ob_bv_e h
  refine ob_callVv (As := [.int (D2.1 v0 5), .int (1 : Int32)]) (rest := []) d_Downlink_writeFrame_25 c_Downlink_writeFrame_51 hp_v1 rfl rfl (Nat.le_of_ble_eq_true rfl) (c_Row_add hp_v1 h5) ⟨Nat.le_refl _, Nat.le_refl _⟩ ⟨Nat.le_refl _, Nat.le_refl _⟩ ?_
  refine ob_aload d_Downlink_writeFrame_28 rfl ?_
  refine ob_aload d_Downlink_writeFrame_29 rfl ?_
  obtain ⟨hg7, h⟩ := ob_gd h
  refine ob_getR d_Downlink_writeFrame_30 F_9_4 l_Downlink_27 hp_v0 hg7 (fun hk6 => ?_)
  refine ob_iload d_Downlink_writeFrame_33 rfl ?_
  obtain ⟨hg8, h⟩ := ob_gd h
  refine ob_iald d_Downlink_writeFrame_34 hk6 hg8 ?_
  refine ob_push d_Downlink_writeFrame_35 ?_
  obtain ⟨D9, h10, h⟩ := ob_bv_e h
  refine ob_callVv (As := [.int (D4.1 (D4.2.1 v0 4) v2.toNatClampNeg), .int (1 : Int32)]) (rest := []) d_Downlink_writeFrame_36 c_Downlink_writeFrame_51 hp_v1 rfl rfl (Nat.le_of_ble_eq_true rfl) (c_Row_add hp_v1 h10) ⟨Nat.le_refl _, Nat.le_refl _⟩ ⟨Nat.le_refl _, Nat.le_refl _⟩ ?_
  refine ob_aload d_Downlink_writeFrame_39 rfl ?_
  refine ob_push d_Downlink_writeFrame_40 ?_
  refine ob_push d_Downlink_writeFrame_41 ?_
  obtain ⟨D11, h12, h⟩ := ob_bv_e h
  refine ob_callVv (As := [.int (0 : Int32), .int (2 : Int32)]) (rest := []) d_Downlink_writeFrame_42 c_Downlink_writeFrame_51 hp_v1 rfl rfl (Nat.le_of_ble_eq_true rfl) (c_Row_add hp_v1 h12) ⟨Nat.le_refl _, Nat.le_refl _⟩ ⟨Nat.le_refl _, Nat.le_refl _⟩ ?_
  refine ob_iload d_Downlink_writeFrame_45 rfl ?_
  refine ob_push d_Downlink_writeFrame_46 ?_
  refine ob_icmp_ne d_Downlink_writeFrame_48 (fun hc => ?_) (fun hc => ?_)
  · replace h := ob_iff hc h
    refine ob_aload d_Downlink_writeFrame_59 rfl ?_
    refine ob_aload d_Downlink_writeFrame_60 rfl ?_
    refine ob_iload d_Downlink_writeFrame_61 rfl ?_
    refine ob_if_ne d_Downlink_writeFrame_62 (fun hc => ?_) (fun hc => ?_)
    · replace h := ob_iff hc h
      refine ob_aload d_Downlink_writeFrame_72 rfl ?_
      obtain ⟨hg14, h⟩ := ob_gd h
      refine ob_getR d_Downlink_writeFrame_73 F_9_1 l_Downlink_24 hp_v0 hg14 (fun hk13 => ?_)
      obtain ⟨x17, D15, h16, h⟩ := ob_bd_e h
      refine ob_callVi (As := [.ref v1, .ref (D11.2.1 v0 1)]) (rest := []) d_Downlink_writeFrame_76 c_Downlink_writeFrame_62 hp_v0 rfl rfl (Nat.le_of_ble_eq_true rfl) (c_Downlink_fill hp_v0 hp_v1 hk13 h16) ⟨Nat.le_refl _, Nat.le_refl _⟩ ⟨Nat.le_refl _, Nat.le_refl _⟩ ?_
      exact v_Downlink_writeFrame_L79 v0 v1 v2 v3 x17 D15 hp_v0 hp_v1 h
    · replace h := ob_ift hc h
      refine ob_aload d_Downlink_writeFrame_65 rfl ?_
      obtain ⟨hg34, h⟩ := ob_gd h
      refine ob_getR d_Downlink_writeFrame_66 F_9_0 l_Downlink_20 hp_v0 hg34 (fun hk33 => ?_)
      refine ob_goto d_Downlink_writeFrame_69 ?_
      obtain ⟨x37, D35, h36, h⟩ := ob_bd_e h
      refine ob_callVi (As := [.ref v1, .ref (D11.2.1 v0 0)]) (rest := []) d_Downlink_writeFrame_76 c_Downlink_writeFrame_62 hp_v0 rfl rfl (Nat.le_of_ble_eq_true rfl) (c_Downlink_fill hp_v0 hp_v1 hk33 h36) ⟨Nat.le_refl _, Nat.le_refl _⟩ ⟨Nat.le_refl _, Nat.le_refl _⟩ ?_
      exact v_Downlink_writeFrame_L79 v0 v1 v2 v3 x37 D35 hp_v0 hp_v1 h
  · replace h := ob_ift hc h
    refine ob_aload d_Downlink_writeFrame_51 rfl ?_
    refine ob_aload d_Downlink_writeFrame_52 rfl ?_
    obtain ⟨x40, D38, h39, h⟩ := ob_bd_e h
    refine ob_callVi (As := [.ref v1]) (rest := []) d_Downlink_writeFrame_53 c_Downlink_writeFrame_58 hp_v0 rfl rfl (Nat.le_of_ble_eq_true rfl) (c_Downlink_fillIdle hp_v0 hp_v1 h39) ⟨Nat.le_refl _, Nat.le_refl _⟩ ⟨Nat.le_refl _, Nat.le_refl _⟩ ?_
    refine ob_goto d_Downlink_writeFrame_56 ?_
    exact v_Downlink_writeFrame_L79 v0 v1 v2 v3 x40 D38 hp_v0 hp_v1 h
-- OrbitBox$Downlink.sendFrames(I)I
theorem d_Downlink_sendFrames_0 : ob_dk k_Downlink_sendFrames 0 1 (0 : Int32) (.iconst 0) 1 := ⟨by decide +kernel, rfl, show Int32.ofInt 0 = (0 : Int32) by decide +kernel⟩
theorem d_Downlink_sendFrames_2 : ob_dk k_Downlink_sendFrames 2 3 (0 : Int32) (.iconst 0) 1 := ⟨by decide +kernel, rfl, show Int32.ofInt 0 = (0 : Int32) by decide +kernel⟩
theorem d_Downlink_sendFrames_84 : ob_dc k_Downlink_sendFrames 84 (.ireturn) 1 85 := ⟨by decide +kernel, rfl⟩
theorem d_Downlink_sendFrames_83 : ob_dv ob_lc k_Downlink_sendFrames 83 84 2 (.iload_n 2) 1 := ⟨by decide +kernel, rfl, rfl⟩
theorem d_Downlink_sendFrames_80 : ob_dc k_Downlink_sendFrames 80 (.putfield 45) 3 83 := ⟨by decide +kernel, rfl⟩
theorem d_Downlink_sendFrames_79 : ob_dc k_Downlink_sendFrames 79 (.arraylength) 1 80 := ⟨by decide +kernel, rfl⟩
theorem d_Downlink_sendFrames_76 : ob_dc k_Downlink_sendFrames 76 (.getfield 33) 3 79 := ⟨by decide +kernel, rfl⟩
theorem d_Downlink_sendFrames_75 : ob_dv ob_ac k_Downlink_sendFrames 75 76 0 (.aload_n 0) 1 := ⟨by decide +kernel, rfl, rfl⟩
theorem d_Downlink_sendFrames_74 : ob_dv ob_ac k_Downlink_sendFrames 74 75 0 (.aload_n 0) 1 := ⟨by decide +kernel, rfl, rfl⟩
theorem d_Downlink_sendFrames_41 : ob_dk k_Downlink_sendFrames 41 43 (7 : Int32) (.bipush 7) 2 := ⟨by decide +kernel, rfl, show (Int8.ofInt 7).toInt32 = (7 : Int32) by decide +kernel⟩
theorem d_Downlink_sendFrames_60 : ob_dk k_Downlink_sendFrames 60 62 (7 : Int32) (.bipush 7) 2 := ⟨by decide +kernel, rfl, show (Int8.ofInt 7).toInt32 = (7 : Int32) by decide +kernel⟩
theorem d_Downlink_sendFrames_68 : ob_di k_Downlink_sendFrames 68 71 3 1 (1 : Int32) := ⟨by decide +kernel, rfl, by decide +kernel, by decide +kernel⟩
theorem d_Downlink_sendFrames_71 : ob_db k_Downlink_sendFrames 71 (.goto (-67)) (-67) 74 4 := ⟨by decide +kernel, rfl, by decide⟩
theorem d_Downlink_sendFrames_65 : ob_di k_Downlink_sendFrames 65 68 2 1 (1 : Int32) := ⟨by decide +kernel, rfl, by decide +kernel, by decide +kernel⟩
theorem d_Downlink_sendFrames_62 : ob_db k_Downlink_sendFrames 62 (.if_icmp .eq 6) 6 65 68 := ⟨by decide +kernel, rfl, by decide⟩
theorem d_Downlink_sendFrames_58 : ob_dv ob_lc k_Downlink_sendFrames 58 60 4 (.iload 4) 2 := ⟨by decide +kernel, rfl, rfl⟩
theorem d_Downlink_sendFrames_55 : ob_dc k_Downlink_sendFrames 55 (.invokevirtual 41) 3 58 := ⟨by decide +kernel, rfl⟩
theorem d_Downlink_sendFrames_54 : ob_dv ob_lc k_Downlink_sendFrames 54 55 1 (.iload_n 1) 1 := ⟨by decide +kernel, rfl, rfl⟩
theorem d_Downlink_sendFrames_52 : ob_dv ob_lc k_Downlink_sendFrames 52 54 4 (.iload 4) 2 := ⟨by decide +kernel, rfl, rfl⟩
theorem d_Downlink_sendFrames_51 : ob_dc k_Downlink_sendFrames 51 (.aaload) 1 52 := ⟨by decide +kernel, rfl⟩
theorem d_Downlink_sendFrames_50 : ob_dv ob_lc k_Downlink_sendFrames 50 51 3 (.iload_n 3) 1 := ⟨by decide +kernel, rfl, rfl⟩
theorem d_Downlink_sendFrames_47 : ob_dc k_Downlink_sendFrames 47 (.getfield 33) 3 50 := ⟨by decide +kernel, rfl⟩
theorem d_Downlink_sendFrames_46 : ob_dv ob_ac k_Downlink_sendFrames 46 47 0 (.aload_n 0) 1 := ⟨by decide +kernel, rfl, rfl⟩
theorem d_Downlink_sendFrames_45 : ob_dv ob_ac k_Downlink_sendFrames 45 46 0 (.aload_n 0) 1 := ⟨by decide +kernel, rfl, rfl⟩
theorem d_Downlink_sendFrames_43 : ob_dv (ob_sc k_Downlink_sendFrames.2.2.2.1) k_Downlink_sendFrames 43 45 4 (.istore 4) 2 := ⟨by decide +kernel, rfl, ⟨rfl, by decide +kernel⟩⟩
theorem d_Downlink_sendFrames_37 : ob_dk k_Downlink_sendFrames 37 38 (1 : Int32) (.iconst 1) 1 := ⟨by decide +kernel, rfl, show Int32.ofInt 1 = (1 : Int32) by decide +kernel⟩
theorem d_Downlink_sendFrames_38 : ob_db k_Downlink_sendFrames 38 (.goto 5) 5 41 43 := ⟨by decide +kernel, rfl, by decide⟩
theorem d_Downlink_sendFrames_34 : ob_db k_Downlink_sendFrames 34 (.ifCond .le 7) 7 37 41 := ⟨by decide +kernel, rfl, by decide⟩
theorem d_Downlink_sendFrames_31 : ob_dc k_Downlink_sendFrames 31 (.getfield 38) 3 34 := ⟨by decide +kernel, rfl⟩
theorem d_Downlink_sendFrames_28 : ob_dc k_Downlink_sendFrames 28 (.getfield 24) 3 31 := ⟨by decide +kernel, rfl⟩
theorem d_Downlink_sendFrames_27 : ob_dv ob_ac k_Downlink_sendFrames 27 28 0 (.aload_n 0) 1 := ⟨by decide +kernel, rfl, rfl⟩
theorem d_Downlink_sendFrames_23 : ob_dk k_Downlink_sendFrames 23 24 (0 : Int32) (.iconst 0) 1 := ⟨by decide +kernel, rfl, show Int32.ofInt 0 = (0 : Int32) by decide +kernel⟩
theorem d_Downlink_sendFrames_24 : ob_db k_Downlink_sendFrames 24 (.goto 19) 19 27 43 := ⟨by decide +kernel, rfl, by decide⟩
theorem d_Downlink_sendFrames_20 : ob_db k_Downlink_sendFrames 20 (.ifCond .le 7) 7 23 27 := ⟨by decide +kernel, rfl, by decide⟩
theorem d_Downlink_sendFrames_17 : ob_dc k_Downlink_sendFrames 17 (.getfield 38) 3 20 := ⟨by decide +kernel, rfl⟩
theorem d_Downlink_sendFrames_14 : ob_dc k_Downlink_sendFrames 14 (.getfield 20) 3 17 := ⟨by decide +kernel, rfl⟩
theorem d_Downlink_sendFrames_13 : ob_dv ob_ac k_Downlink_sendFrames 13 14 0 (.aload_n 0) 1 := ⟨by decide +kernel, rfl, rfl⟩
theorem d_Downlink_sendFrames_10 : ob_db k_Downlink_sendFrames 10 (.if_icmp .ge 64) 64 13 74 := ⟨by decide +kernel, rfl, by decide⟩
theorem d_Downlink_sendFrames_9 : ob_dc k_Downlink_sendFrames 9 (.arraylength) 1 10 := ⟨by decide +kernel, rfl⟩
theorem d_Downlink_sendFrames_6 : ob_dc k_Downlink_sendFrames 6 (.getfield 33) 3 9 := ⟨by decide +kernel, rfl⟩
theorem d_Downlink_sendFrames_5 : ob_dv ob_ac k_Downlink_sendFrames 5 6 0 (.aload_n 0) 1 := ⟨by decide +kernel, rfl, rfl⟩
theorem d_Downlink_sendFrames_4 : ob_dv ob_lc k_Downlink_sendFrames 4 5 3 (.iload_n 3) 1 := ⟨by decide +kernel, rfl, rfl⟩
theorem d_Downlink_sendFrames_3 : ob_dv (ob_sc k_Downlink_sendFrames.2.2.2.1) k_Downlink_sendFrames 3 4 3 (.istore_n 3) 1 := ⟨by decide +kernel, rfl, ⟨rfl, by decide +kernel⟩⟩
theorem d_Downlink_sendFrames_1 : ob_dv (ob_sc k_Downlink_sendFrames.2.2.2.1) k_Downlink_sendFrames 1 2 2 (.istore_n 2) 1 := ⟨by decide +kernel, rfl, ⟨rfl, by decide +kernel⟩⟩
theorem c_Downlink_sendFrames_41 : ob_vd k_Downlink_sendFrames k_Downlink_writeFrame 41 3 9 := ⟨cw_Downlink_writeFrame, yd_Downlink_writeFrame, w_948, w_950, wp_44, w_10, ⟨_, _, rfl⟩, by decide, by decide⟩
def f_Downlink_sendFrames_L43 (S : ob_S) (k4 : Nat → Int32 → Int32 → Int32 → ob_D → Option (Int32 × ob_D)) (v0 : Nat) (v1 : Int32) (v2 : Int32) (v3 : Int32) (s0 : Int32) (D : ob_D) : Option (Int32 × ob_D) :=
  if D.2.1 v0 2 ≠ 0 then if ob_in v3 (S.2.1 (D.2.1 v0 2)) then if D.2.1 (D.2.1 v0 2) v3.toNatClampNeg ≠ 0 then ob_bv (f_Downlink_writeFrame S v0 (D.2.1 (D.2.1 v0 2) v3.toNatClampNeg) s0 v1 D) fun D15 => (if s0 = (7 : Int32) then k4 v0 v1 v2 (v3 + (1 : Int32)) D15 else k4 v0 v1 (v2 + (1 : Int32)) (v3 + (1 : Int32)) D15) else none else none else none
theorem v_Downlink_sendFrames_L43 {l : Launch} {E : ob_E} {S : ob_S} {r : Int32} {D' : ob_D} {k4 : Nat → Int32 → Int32 → Int32 → ob_D → Option (Int32 × ob_D)} (hk4 : ∀ (v0 : Nat) (v1 : Int32) (v2 : Int32) (v3 : Int32) (D : ob_D), S.1 v0 = 10 → k4 v0 v1 v2 v3 D = some (r, D') → ob_V l E k_Downlink_sendFrames 4 [(0, .ref v0), (1, .int v1), (2, .int v2), (3, .int v3)] [] S D (some (.int r)) S D') : ∀ (v0 : Nat) (v1 : Int32) (v2 : Int32) (v3 : Int32) (s0 : Int32) (D : ob_D), S.1 v0 = 10 → f_Downlink_sendFrames_L43 S k4 v0 v1 v2 v3 s0 D = some (r, D') → ob_V l E k_Downlink_sendFrames 43 [(0, .ref v0), (1, .int v1), (2, .int v2), (3, .int v3)] [.int s0] S D (some (.int r)) S D' := by
  intro v0 v1 v2 v3 s0 D hp_v0 h
  rw [f_Downlink_sendFrames_L43] at h
  refine ob_istore (lo2 := [(0, .ref v0), (1, .int v1), (2, .int v2), (3, .int v3), (4, .int s0)]) d_Downlink_sendFrames_43 rfl ?_
  refine ob_aload d_Downlink_sendFrames_45 rfl ?_
  refine ob_aload d_Downlink_sendFrames_46 rfl ?_
  obtain ⟨hg11, h⟩ := ob_gd h
  refine ob_getR d_Downlink_sendFrames_47 F_9_2 l_Downlink_33 hp_v0 hg11 (fun hk10 => ?_)
  refine ob_iload d_Downlink_sendFrames_50 rfl ?_
  obtain ⟨hg12, h⟩ := ob_gd h
  obtain ⟨hz13, h⟩ := ob_gd h
  refine ob_aald (j := 4) (t := 1) d_Downlink_sendFrames_51 hk10 (by decide) rfl rfl rfl hg12 hz13 rfl (fun hk14 => ?_)
  refine ob_iload d_Downlink_sendFrames_52 rfl ?_
  refine ob_iload d_Downlink_sendFrames_54 rfl ?_
  obtain ⟨D15, h16, h⟩ := ob_bv_e h
  refine ob_callVv (As := [.ref (D.2.1 (D.2.1 v0 2) v3.toNatClampNeg), .int s0, .int v1]) (rest := []) d_Downlink_sendFrames_55 c_Downlink_sendFrames_41 hp_v0 rfl rfl (Nat.le_of_ble_eq_true rfl) (c_Downlink_writeFrame hp_v0 hk14 h16) ⟨Nat.le_refl _, Nat.le_refl _⟩ ⟨Nat.le_refl _, Nat.le_refl _⟩ ?_
  refine ob_iload d_Downlink_sendFrames_58 rfl ?_
  refine ob_push d_Downlink_sendFrames_60 ?_
  refine ob_icmp_eq d_Downlink_sendFrames_62 (fun hc => ?_) (fun hc => ?_)
  · replace h := ob_ift hc h
    refine ob_iinc (lo2 := [(0, .ref v0), (1, .int v1), (2, .int v2), (3, .int (v3 + (1 : Int32))), (4, .int s0)]) d_Downlink_sendFrames_68 rfl rfl ?_
    refine ob_goto d_Downlink_sendFrames_71 ?_
    refine ob_sub (lo2 := [(0, .ref v0), (1, .int v1), (2, .int v2), (3, .int (v3 + (1 : Int32)))]) [0, 1, 2, 3] rfl ?_
    exact hk4 v0 v1 v2 (v3 + (1 : Int32)) D15 hp_v0 h
  · replace h := ob_iff hc h
    refine ob_iinc (lo2 := [(0, .ref v0), (1, .int v1), (2, .int (v2 + (1 : Int32))), (3, .int v3), (4, .int s0)]) d_Downlink_sendFrames_65 rfl rfl ?_
    refine ob_iinc (lo2 := [(0, .ref v0), (1, .int v1), (2, .int (v2 + (1 : Int32))), (3, .int (v3 + (1 : Int32))), (4, .int s0)]) d_Downlink_sendFrames_68 rfl rfl ?_
    refine ob_goto d_Downlink_sendFrames_71 ?_
    refine ob_sub (lo2 := [(0, .ref v0), (1, .int v1), (2, .int (v2 + (1 : Int32))), (3, .int (v3 + (1 : Int32)))]) [0, 1, 2, 3] rfl ?_
    exact hk4 v0 v1 (v2 + (1 : Int32)) (v3 + (1 : Int32)) D15 hp_v0 h
def f_Downlink_sendFrames_L4 (S : ob_S) : Nat → Nat → Int32 → Int32 → Int32 → ob_D → Option (Int32 × ob_D)
  | 0, _, _, _, _, _ => none
  | n + 1, v0, v1, v2, v3, D => if D.2.1 v0 2 ≠ 0 then (if (Int32.ofNat (S.2.1 (D.2.1 v0 2))) ≤ v3 then if D.2.1 v0 2 ≠ 0 then ob_lt (ob_pI D v0 6 (Int32.ofNat (S.2.1 (D.2.1 v0 2)))) fun D5 => some (v2, D5) else none else if D.2.1 v0 0 ≠ 0 then (if (D.1 (D.2.1 v0 0) 2) ≤ 0 then if D.2.1 v0 1 ≠ 0 then (if (D.1 (D.2.1 v0 1) 2) ≤ 0 then f_Downlink_sendFrames_L43 S (fun a0 a1 a2 a3 d => f_Downlink_sendFrames_L4 S n a0 a1 a2 a3 d) v0 v1 v2 v3 (7 : Int32) D else f_Downlink_sendFrames_L43 S (fun a0 a1 a2 a3 d => f_Downlink_sendFrames_L4 S n a0 a1 a2 a3 d) v0 v1 v2 v3 (1 : Int32) D) else none else f_Downlink_sendFrames_L43 S (fun a0 a1 a2 a3 d => f_Downlink_sendFrames_L4 S n a0 a1 a2 a3 d) v0 v1 v2 v3 (0 : Int32) D) else none) else none
theorem v_Downlink_sendFrames_L4 {l : Launch} {E : ob_E} {S : ob_S} {r : Int32} {D' : ob_D} : ∀ (n : Nat), ∀ (v0 : Nat) (v1 : Int32) (v2 : Int32) (v3 : Int32) (D : ob_D), S.1 v0 = 10 → f_Downlink_sendFrames_L4 S n v0 v1 v2 v3 D = some (r, D') → ob_V l E k_Downlink_sendFrames 4 [(0, .ref v0), (1, .int v1), (2, .int v2), (3, .int v3)] [] S D (some (.int r)) S D' := by
  intro n
  induction n with
  | zero =>
    intro v0 v1 v2 v3 D hp_v0 h
    have h : none = some (r, D') := h
    cases h
  | succ n ih =>
    intro v0 v1 v2 v3 D hp_v0 h
    rw [f_Downlink_sendFrames_L4] at h
    refine ob_iload d_Downlink_sendFrames_4 rfl ?_
    refine ob_aload d_Downlink_sendFrames_5 rfl ?_
    obtain ⟨hg2, h⟩ := ob_gd h
    refine ob_getR d_Downlink_sendFrames_6 F_9_2 l_Downlink_33 hp_v0 hg2 (fun hk1 => ?_)
    refine ob_alen (i := 4) d_Downlink_sendFrames_9 hk1 (by decide) ?_
    refine ob_icmp_ge d_Downlink_sendFrames_10 (fun hc => ?_) (fun hc => ?_)
    · replace h := ob_ift hc h
      refine ob_aload d_Downlink_sendFrames_74 rfl ?_
      refine ob_aload d_Downlink_sendFrames_75 rfl ?_
      obtain ⟨hg4, h⟩ := ob_gd h
      refine ob_getR d_Downlink_sendFrames_76 F_9_2 l_Downlink_33 hp_v0 hg4 (fun hk3 => ?_)
      refine ob_alen (i := 4) d_Downlink_sendFrames_79 hk3 (by decide) ?_
      replace h := ob_lt_e h
      refine ob_putI d_Downlink_sendFrames_80 F_9_6 l_Downlink_45 hp_v0 ?_
      refine ob_iload d_Downlink_sendFrames_83 rfl ?_
      exact ob_ie h (ob_iret d_Downlink_sendFrames_84 rfl rfl)
    · replace h := ob_iff hc h
      refine ob_aload d_Downlink_sendFrames_13 rfl ?_
      obtain ⟨hg7, h⟩ := ob_gd h
      refine ob_getR d_Downlink_sendFrames_14 F_9_0 l_Downlink_20 hp_v0 hg7 (fun hk6 => ?_)
      refine ob_getI d_Downlink_sendFrames_17 F_2_2 l_Downlink_38 hk6 ?_
      refine ob_if_le d_Downlink_sendFrames_20 (fun hc => ?_) (fun hc => ?_)
      · replace h := ob_ift hc h
        refine ob_aload d_Downlink_sendFrames_27 rfl ?_
        obtain ⟨hg9, h⟩ := ob_gd h
        refine ob_getR d_Downlink_sendFrames_28 F_9_1 l_Downlink_24 hp_v0 hg9 (fun hk8 => ?_)
        refine ob_getI d_Downlink_sendFrames_31 F_2_2 l_Downlink_38 hk8 ?_
        refine ob_if_le d_Downlink_sendFrames_34 (fun hc => ?_) (fun hc => ?_)
        · replace h := ob_ift hc h
          refine ob_push d_Downlink_sendFrames_41 ?_
          exact v_Downlink_sendFrames_L43 ih v0 v1 v2 v3 (7 : Int32) D hp_v0 h
        · replace h := ob_iff hc h
          refine ob_push d_Downlink_sendFrames_37 ?_
          refine ob_goto d_Downlink_sendFrames_38 ?_
          exact v_Downlink_sendFrames_L43 ih v0 v1 v2 v3 (1 : Int32) D hp_v0 h
      · replace h := ob_iff hc h
        refine ob_push d_Downlink_sendFrames_23 ?_
        refine ob_goto d_Downlink_sendFrames_24 ?_
        exact v_Downlink_sendFrames_L43 ih v0 v1 v2 v3 (0 : Int32) D hp_v0 h
def f_Downlink_sendFrames (S : ob_S) (v0 : Nat) (v1 : Int32) (D : ob_D) : Option (Int32 × ob_D) :=
  f_Downlink_sendFrames_L4 S ob_FU v0 v1 (0 : Int32) (0 : Int32) D
theorem c_Downlink_sendFrames {l : Launch} {E : ob_E} {S : ob_S} {D : ob_D} {v0 : Nat} {v1 : Int32} {r : Int32} {D' : ob_D} (hp_v0 : S.1 v0 = 10) (h : f_Downlink_sendFrames S v0 v1 D = some (r, D')) : ob_M l E k_Downlink_sendFrames [.ref v0, .int v1] S D (some (.int r)) S D' := by
  refine ob_ofV (lo := [(0, .ref v0), (1, .int v1)]) (by decide) rfl (Nat.le_of_ble_eq_true rfl) rfl (Nat.le_refl _) (Nat.le_refl _) ?_
  rw [f_Downlink_sendFrames] at h
  refine ob_push d_Downlink_sendFrames_0 ?_
  refine ob_istore (lo2 := [(0, .ref v0), (1, .int v1), (2, .int (0 : Int32))]) d_Downlink_sendFrames_1 rfl ?_
  refine ob_push d_Downlink_sendFrames_2 ?_
  refine ob_istore (lo2 := [(0, .ref v0), (1, .int v1), (2, .int (0 : Int32)), (3, .int (0 : Int32))]) d_Downlink_sendFrames_3 rfl ?_
  exact v_Downlink_sendFrames_L4 ob_FU v0 v1 (0 : Int32) (0 : Int32) D hp_v0 h
