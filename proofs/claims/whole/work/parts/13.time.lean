-- OrbitBox$Timetable.<init>(I)V
theorem d_Timetable_init_0 : ob_dv ob_ac k_Timetable_init 0 1 0 (.aload_n 0) 1 := ⟨by decide +kernel, rfl, rfl⟩
theorem d_Timetable_init_1 : ob_dc k_Timetable_init 1 (.invokespecial 3) 3 4 := ⟨by decide +kernel, rfl⟩
theorem d_Timetable_init_4 : ob_dv ob_ac k_Timetable_init 4 5 0 (.aload_n 0) 1 := ⟨by decide +kernel, rfl, rfl⟩
theorem d_Timetable_init_5 : ob_dv ob_lc k_Timetable_init 5 6 1 (.iload_n 1) 1 := ⟨by decide +kernel, rfl, rfl⟩
theorem d_Timetable_init_6 : ob_dc k_Timetable_init 6 (.newarray .int) 2 8 := ⟨by decide +kernel, rfl⟩
theorem d_Timetable_init_8 : ob_dc k_Timetable_init 8 (.putfield 9) 3 11 := ⟨by decide +kernel, rfl⟩
theorem d_Timetable_init_11 : ob_dv ob_ac k_Timetable_init 11 12 0 (.aload_n 0) 1 := ⟨by decide +kernel, rfl, rfl⟩
theorem d_Timetable_init_12 : ob_dv ob_lc k_Timetable_init 12 13 1 (.iload_n 1) 1 := ⟨by decide +kernel, rfl, rfl⟩
theorem d_Timetable_init_13 : ob_dc k_Timetable_init 13 (.anewarray 15) 3 16 := ⟨by decide +kernel, rfl⟩
theorem d_Timetable_init_16 : ob_dc k_Timetable_init 16 (.putfield 17) 3 19 := ⟨by decide +kernel, rfl⟩
theorem d_Timetable_init_19 : ob_dk k_Timetable_init 19 20 (0 : Int32) (.iconst 0) 1 := ⟨by decide +kernel, rfl, show Int32.ofInt 0 = (0 : Int32) by decide +kernel⟩
theorem d_Timetable_init_20 : ob_dv (ob_sc k_Timetable_init.2.2.2.1) k_Timetable_init 20 21 2 (.istore_n 2) 1 := ⟨by decide +kernel, rfl, ⟨rfl, by decide +kernel⟩⟩
theorem d_Timetable_init_21 : ob_dv ob_lc k_Timetable_init 21 22 2 (.iload_n 2) 1 := ⟨by decide +kernel, rfl, rfl⟩
theorem d_Timetable_init_22 : ob_dv ob_lc k_Timetable_init 22 23 1 (.iload_n 1) 1 := ⟨by decide +kernel, rfl, rfl⟩
theorem d_Timetable_init_48 : ob_dc k_Timetable_init 48 (.return_) 1 49 := ⟨by decide +kernel, rfl⟩
theorem d_Timetable_init_26 : ob_dv ob_ac k_Timetable_init 26 27 0 (.aload_n 0) 1 := ⟨by decide +kernel, rfl, rfl⟩
theorem d_Timetable_init_27 : ob_dc k_Timetable_init 27 (.getfield 17) 3 30 := ⟨by decide +kernel, rfl⟩
theorem d_Timetable_init_30 : ob_dv ob_lc k_Timetable_init 30 31 2 (.iload_n 2) 1 := ⟨by decide +kernel, rfl, rfl⟩
theorem d_Timetable_init_31 : ob_dc k_Timetable_init 31 (.new 15) 3 34 := ⟨by decide +kernel, rfl⟩
theorem d_Timetable_init_34 : ob_dc k_Timetable_init 34 (.dup) 1 35 := ⟨by decide +kernel, rfl⟩
theorem d_Timetable_init_35 : ob_dk k_Timetable_init 35 38 (252 : Int32) (.sipush 252) 3 := ⟨by decide +kernel, rfl, show (Int16.ofInt 252).toInt32 = (252 : Int32) by decide +kernel⟩
theorem d_Timetable_init_38 : ob_dc k_Timetable_init 38 (.invokespecial 21) 3 41 := ⟨by decide +kernel, rfl⟩
theorem d_Timetable_init_41 : ob_dc k_Timetable_init 41 (.aastore) 1 42 := ⟨by decide +kernel, rfl⟩
theorem d_Timetable_init_42 : ob_di k_Timetable_init 42 45 2 1 (1 : Int32) := ⟨by decide +kernel, rfl, by decide +kernel, by decide +kernel⟩
theorem d_Timetable_init_45 : ob_db k_Timetable_init 45 (.goto (-24)) (-24) 48 21 := ⟨by decide +kernel, rfl, by decide⟩
theorem d_Timetable_init_23 : ob_db k_Timetable_init 23 (.if_icmp .ge 25) 25 26 48 := ⟨by decide +kernel, rfl, by decide⟩
theorem c_Timetable_init_21 : ob_id k_Timetable_init k_Row_init 21 1 := ⟨cw_Row_init, yd_Row_init, w_147, w_32, w_2, ⟨by decide, by decide⟩, rfl, rfl⟩
def f_Timetable_init_L21 : Nat → Nat → Int32 → Int32 → ob_S → ob_D → Option (ob_S × ob_D)
  | 0, _, _, _, _, _ => none
  | n + 1, v0, v1, v2, S, D => (if v1 ≤ v2 then some (S, D) else ob_gt (D.2.1 v0 1 ≠ 0) <| ob_lt (ob_new S 2 0 2) fun S23 => ob_lt (ob_z D S.2.2.1) fun D24 => ob_bd (f_Row_init (S.2.2.1) (252 : Int32) S23 D24) fun S30 D31 => ob_gt (ob_in v2 (S30.2.1 (D.2.1 v0 1))) <| ob_lt (ob_pR D31 (D.2.1 v0 1) v2.toNatClampNeg (S.2.2.1)) fun D37 => f_Timetable_init_L21 n v0 v1 (v2 + (1 : Int32)) S30 D37)
theorem e_Timetable_init_L21 {T : ob_S} {D' : ob_D} : ∀ (n : Nat) (v0 : Nat) (v1 : Int32) (v2 : Int32) (S : ob_S) (D : ob_D), f_Timetable_init_L21 n v0 v1 v2 S D = some (T, D') → ob_ext S T := by
  intro n
  induction n with
  | zero =>
    intro v0 v1 v2 S D h
    have h : none = some (T, D') := h
    cases h
  | succ n ih =>
    intro v0 v1 v2 S D h
    rw [f_Timetable_init_L21] at h
    by_cases hc : v1 ≤ v2
    · replace h := ob_ift hc h
      obtain ⟨he1, he2⟩ := ob_pe h
      have x_S : ob_ext S T := ob_ext_eq he1
      exact x_S
    · replace h := ob_iff hc h
      obtain ⟨hg19, h⟩ := ob_gt_e h
      obtain ⟨S23, hS25, h⟩ := ob_lt_x h
      obtain ⟨D24, hD26, h⟩ := ob_lt_x h
      obtain ⟨S30, D31, h32, h⟩ := ob_bd_e h
      obtain ⟨hg36, h⟩ := ob_gt_e h
      obtain ⟨D37, hD38, h⟩ := ob_lt_x h
      have x_S30 : ob_ext S30 T := ih v0 v1 (v2 + (1 : Int32)) S30 D37 h
      have x_S23 : ob_ext S23 T := (e_Row_init h32).tr x_S30
      have x_S : ob_ext S T := (ob_ext_new hS25).tr x_S23
      exact x_S
theorem v_Timetable_init_L21 {l : Launch} {E : ob_E} {T : ob_S} {D' : ob_D} : ∀ (n : Nat) (v0 : Nat) (v1 : Int32) (v2 : Int32) (S : ob_S) (D : ob_D), S.1 v0 = 6 → f_Timetable_init_L21 n v0 v1 v2 S D = some (T, D') → ob_V l E k_Timetable_init 21 [(0, .ref v0), (1, .int v1), (2, .int v2)] [] S D none T D' := by
  intro n
  induction n with
  | zero =>
    intro v0 v1 v2 S D hp_v0 h
    have h : none = some (T, D') := h
    cases h
  | succ n ih =>
    have ex := fun v0 v1 v2 S D => @e_Timetable_init_L21 T D' n v0 v1 v2 S D
    intro v0 v1 v2 S D hp_v0 h
    rw [f_Timetable_init_L21] at h
    refine ob_withH fun H0 hH0 => ?_
    have kd_v0 := ob_kdH hH0 hp_v0
    refine ob_iload d_Timetable_init_21 rfl ?_
    refine ob_iload d_Timetable_init_22 rfl ?_
    refine ob_icmp_ge d_Timetable_init_23 (fun hc => ?_) (fun hc => ?_)
    · replace h := ob_ift hc h
      obtain ⟨he1, he2⟩ := ob_pe h
      have x_S : ob_ext S T := ob_ext_eq he1
      exact ob_vee he1 he2 (ob_vret d_Timetable_init_48 rfl)
    · replace h := ob_iff hc h
      obtain ⟨hg19, h⟩ := ob_gt_e h
      obtain ⟨S23, hS25, h⟩ := ob_lt_x h
      obtain ⟨D24, hD26, h⟩ := ob_lt_x h
      obtain ⟨S30, D31, h32, h⟩ := ob_bd_e h
      obtain ⟨hg36, h⟩ := ob_gt_e h
      obtain ⟨D37, hD38, h⟩ := ob_lt_x h
      have x_S30 : ob_ext S30 T := ex v0 v1 (v2 + (1 : Int32)) S30 D37 h
      have x_S23 : ob_ext S23 T := (e_Row_init h32).tr x_S30
      have x_S : ob_ext S T := (ob_ext_new hS25).tr x_S23
      refine ob_aload d_Timetable_init_26 rfl ?_
      refine ob_getR d_Timetable_init_27 F_5_1 l_Timetable_17 kd_v0.1 hg19 (fun hk20 => ?_)
      refine ob_withH fun H21 hH21 => ?_
      have hk22 := ob_kdH hH21 hk20
      refine ob_iload d_Timetable_init_30 rfl ?_
      refine ob_newO d_Timetable_init_31 N_1 w_146 hS25 hD26 x_S23 ?_
      have hk27 := ob_kd_new hS25 kd_v0
      have hk28 := ob_kd_new hS25 hk22
      have hk29 : ob_kd S23 S.2.2.1 2 := ob_kd_this hS25 (by decide)
      refine ob_dup d_Timetable_init_34 rfl ?_
      refine ob_push d_Timetable_init_35 ?_
      refine ob_callI (As := [.int (252 : Int32)]) (rest := [.ref (S.2.2.1), .int v2, .ref (D.2.1 v0 1)]) d_Timetable_init_38 c_Timetable_init_21 rfl rfl (Nat.le_of_ble_eq_true rfl) (c_Row_init hk29.1 h32) (ob_ext_m (e_Row_init h32)) (ob_ext_m x_S30) ?_
      have hk33 := ob_kd_ext (e_Row_init h32) hk27
      have hk34 := ob_kd_ext (e_Row_init h32) hk29
      have hk35 := ob_kd_ext (e_Row_init h32) hk28
      refine ob_xI hD38 (ob_aast d_Timetable_init_41 hk35.1 hk34.1 hg36) ?_
      refine ob_iinc (lo2 := [(0, .ref v0), (1, .int v1), (2, .int (v2 + (1 : Int32)))]) d_Timetable_init_42 rfl rfl ?_
      refine ob_goto d_Timetable_init_45 ?_
      exact ih v0 v1 (v2 + (1 : Int32)) S30 D37 hk33.1 h
def f_Timetable_init (v0 : Nat) (v1 : Int32) (S : ob_S) (D : ob_D) : Option (ob_S × ob_D) :=
  ob_gt (¬ v1 < 0 ∧ v1.toNatClampNeg ≤ 67108864) <| ob_lt (ob_new S 20 v1.toNatClampNeg v1.toNatClampNeg) fun S1 => ob_lt (ob_z D S.2.2.1) fun D2 => ob_lt (ob_pR D2 v0 0 (S.2.2.1)) fun D8 => ob_gt (¬ v1 < 0 ∧ v1.toNatClampNeg ≤ 67108864) <| ob_lt (ob_new S1 24 v1.toNatClampNeg v1.toNatClampNeg) fun S10 => ob_lt (ob_z D8 S1.2.2.1) fun D11 => ob_lt (ob_pR D11 v0 1 (S1.2.2.1)) fun D17 => f_Timetable_init_L21 ob_FU v0 v1 (0 : Int32) S10 D17
theorem e_Timetable_init {v0 : Nat} {v1 : Int32} {S T : ob_S} {D D' : ob_D} (h : f_Timetable_init v0 v1 S D = some (T, D')) : ob_ext S T := by
  rw [f_Timetable_init] at h
  obtain ⟨hg5, h⟩ := ob_gt_e h
  obtain ⟨S1, hS3, h⟩ := ob_lt_x h
  obtain ⟨D2, hD4, h⟩ := ob_lt_x h
  obtain ⟨D8, hD9, h⟩ := ob_lt_x h
  obtain ⟨hg14, h⟩ := ob_gt_e h
  obtain ⟨S10, hS12, h⟩ := ob_lt_x h
  obtain ⟨D11, hD13, h⟩ := ob_lt_x h
  obtain ⟨D17, hD18, h⟩ := ob_lt_x h
  have x_S10 : ob_ext S10 T := e_Timetable_init_L21 ob_FU v0 v1 (0 : Int32) S10 D17 h
  have x_S1 : ob_ext S1 T := (ob_ext_new hS12).tr x_S10
  have x_S : ob_ext S T := (ob_ext_new hS3).tr x_S1
  exact x_S
theorem c_Timetable_init {l : Launch} {E : ob_E} {S T : ob_S} {D D' : ob_D} {v0 : Nat} {v1 : Int32} (hp_v0 : S.1 v0 = 6) (h : f_Timetable_init v0 v1 S D = some (T, D')) : ob_M l E k_Timetable_init [.ref v0, .int v1] S D none T D' := by
  have xx := e_Timetable_init h
  refine ob_ofV (lo := [(0, .ref v0), (1, .int v1)]) (by decide) rfl (Nat.le_of_ble_eq_true rfl) rfl xx.1 xx.2.1 ?_
  rw [f_Timetable_init] at h
  refine ob_withH fun H0 hH0 => ?_
  have kd_v0 := ob_kdH hH0 hp_v0
  obtain ⟨hg5, h⟩ := ob_gt_e h
  obtain ⟨S1, hS3, h⟩ := ob_lt_x h
  obtain ⟨D2, hD4, h⟩ := ob_lt_x h
  obtain ⟨D8, hD9, h⟩ := ob_lt_x h
  obtain ⟨hg14, h⟩ := ob_gt_e h
  obtain ⟨S10, hS12, h⟩ := ob_lt_x h
  obtain ⟨D11, hD13, h⟩ := ob_lt_x h
  obtain ⟨D17, hD18, h⟩ := ob_lt_x h
  have x_S10 : ob_ext S10 T := e_Timetable_init_L21 ob_FU v0 v1 (0 : Int32) S10 D17 h
  have x_S1 : ob_ext S1 T := (ob_ext_new hS12).tr x_S10
  have x_S : ob_ext S T := (ob_ext_new hS3).tr x_S1
  refine ob_aload d_Timetable_init_0 rfl ?_
  refine ob_objI d_Timetable_init_1 w_145 w_27 w_28 (by decide) (Nat.le_of_ble_eq_true rfl) ?_
  refine ob_aload d_Timetable_init_4 rfl ?_
  refine ob_iload d_Timetable_init_5 rfl ?_
  refine ob_newIx d_Timetable_init_6 w_52 hg5 hS3 hD4 x_S1 ?_
  have hk6 := ob_kd_new hS3 kd_v0
  have hk7 : ob_kd S1 S.2.2.1 20 := ob_kd_this hS3 (by decide)
  refine ob_xI hD9 (ob_putFR d_Timetable_init_8 F_5_0 w_148 ⟨rfl, rfl⟩ (fty := (.array (.int))) (by decide) rfl rfl hk6.1 hk7.1) ?_
  refine ob_aload d_Timetable_init_11 rfl ?_
  refine ob_iload d_Timetable_init_12 rfl ?_
  refine ob_newRx d_Timetable_init_13 w_146 hg14 hS12 hD13 x_S10 ?_
  have hk15 := ob_kd_new hS12 hk6
  have hk16 : ob_kd S10 S1.2.2.1 24 := ob_kd_this hS12 (by decide)
  refine ob_xI hD18 (ob_putFR d_Timetable_init_16 F_5_1 w_150 ⟨rfl, rfl⟩ (fty := (.array (.object "OrbitBox$Row"))) (by decide) rfl rfl hk15.1 hk16.1) ?_
  refine ob_push d_Timetable_init_19 ?_
  refine ob_istore (lo2 := [(0, .ref v0), (1, .int v1), (2, .int (0 : Int32))]) d_Timetable_init_20 rfl ?_
  exact v_Timetable_init_L21 ob_FU v0 v1 (0 : Int32) S10 D17 hk15.1 h
-- OrbitBox$Events.<init>()V
theorem d_Events_init_0 : ob_dv ob_ac k_Events_init 0 1 0 (.aload_n 0) 1 := ⟨by decide +kernel, rfl, rfl⟩
theorem d_Events_init_1 : ob_dc k_Events_init 1 (.invokespecial 3) 3 4 := ⟨by decide +kernel, rfl⟩
theorem d_Events_init_4 : ob_dv ob_ac k_Events_init 4 5 0 (.aload_n 0) 1 := ⟨by decide +kernel, rfl, rfl⟩
theorem d_Events_init_5 : ob_dc k_Events_init 5 (.new 9) 3 8 := ⟨by decide +kernel, rfl⟩
theorem d_Events_init_8 : ob_dc k_Events_init 8 (.dup) 1 9 := ⟨by decide +kernel, rfl⟩
theorem d_Events_init_9 : ob_dk k_Events_init 9 12 (128 : Int32) (.sipush 128) 3 := ⟨by decide +kernel, rfl, show (Int16.ofInt 128).toInt32 = (128 : Int32) by decide +kernel⟩
theorem d_Events_init_12 : ob_dc k_Events_init 12 (.invokespecial 13) 3 15 := ⟨by decide +kernel, rfl⟩
theorem d_Events_init_15 : ob_dc k_Events_init 15 (.putfield 16) 3 18 := ⟨by decide +kernel, rfl⟩
theorem d_Events_init_18 : ob_dv ob_ac k_Events_init 18 19 0 (.aload_n 0) 1 := ⟨by decide +kernel, rfl, rfl⟩
theorem d_Events_init_19 : ob_dk k_Events_init 19 21 (32 : Int32) (.bipush 32) 2 := ⟨by decide +kernel, rfl, show (Int8.ofInt 32).toInt32 = (32 : Int32) by decide +kernel⟩
theorem d_Events_init_21 : ob_dc k_Events_init 21 (.newarray .boolean) 2 23 := ⟨by decide +kernel, rfl⟩
theorem d_Events_init_23 : ob_dc k_Events_init 23 (.putfield 20) 3 26 := ⟨by decide +kernel, rfl⟩
theorem d_Events_init_26 : ob_dv ob_ac k_Events_init 26 27 0 (.aload_n 0) 1 := ⟨by decide +kernel, rfl, rfl⟩
theorem d_Events_init_27 : ob_dk k_Events_init 27 29 (32 : Int32) (.bipush 32) 2 := ⟨by decide +kernel, rfl, show (Int8.ofInt 32).toInt32 = (32 : Int32) by decide +kernel⟩
theorem d_Events_init_29 : ob_dc k_Events_init 29 (.newarray .boolean) 2 31 := ⟨by decide +kernel, rfl⟩
theorem d_Events_init_31 : ob_dc k_Events_init 31 (.putfield 24) 3 34 := ⟨by decide +kernel, rfl⟩
theorem d_Events_init_34 : ob_dv ob_ac k_Events_init 34 35 0 (.aload_n 0) 1 := ⟨by decide +kernel, rfl, rfl⟩
theorem d_Events_init_35 : ob_dk k_Events_init 35 37 (32 : Int32) (.bipush 32) 2 := ⟨by decide +kernel, rfl, show (Int8.ofInt 32).toInt32 = (32 : Int32) by decide +kernel⟩
theorem d_Events_init_37 : ob_dc k_Events_init 37 (.newarray .boolean) 2 39 := ⟨by decide +kernel, rfl⟩
theorem d_Events_init_39 : ob_dc k_Events_init 39 (.putfield 27) 3 42 := ⟨by decide +kernel, rfl⟩
theorem d_Events_init_42 : ob_dv ob_ac k_Events_init 42 43 0 (.aload_n 0) 1 := ⟨by decide +kernel, rfl, rfl⟩
theorem d_Events_init_43 : ob_dk k_Events_init 43 45 (32 : Int32) (.bipush 32) 2 := ⟨by decide +kernel, rfl, show (Int8.ofInt 32).toInt32 = (32 : Int32) by decide +kernel⟩
theorem d_Events_init_45 : ob_dc k_Events_init 45 (.anewarray 30) 3 48 := ⟨by decide +kernel, rfl⟩
theorem d_Events_init_48 : ob_dc k_Events_init 48 (.putfield 32) 3 51 := ⟨by decide +kernel, rfl⟩
theorem d_Events_init_51 : ob_dk k_Events_init 51 52 (0 : Int32) (.iconst 0) 1 := ⟨by decide +kernel, rfl, show Int32.ofInt 0 = (0 : Int32) by decide +kernel⟩
theorem d_Events_init_52 : ob_dv (ob_sc k_Events_init.2.2.2.1) k_Events_init 52 53 1 (.istore_n 1) 1 := ⟨by decide +kernel, rfl, ⟨rfl, by decide +kernel⟩⟩
theorem d_Events_init_53 : ob_dv ob_lc k_Events_init 53 54 1 (.iload_n 1) 1 := ⟨by decide +kernel, rfl, rfl⟩
theorem d_Events_init_54 : ob_dk k_Events_init 54 56 (32 : Int32) (.bipush 32) 2 := ⟨by decide +kernel, rfl, show (Int8.ofInt 32).toInt32 = (32 : Int32) by decide +kernel⟩
theorem d_Events_init_81 : ob_dc k_Events_init 81 (.return_) 1 82 := ⟨by decide +kernel, rfl⟩
theorem d_Events_init_59 : ob_dv ob_ac k_Events_init 59 60 0 (.aload_n 0) 1 := ⟨by decide +kernel, rfl, rfl⟩
theorem d_Events_init_60 : ob_dc k_Events_init 60 (.getfield 32) 3 63 := ⟨by decide +kernel, rfl⟩
theorem d_Events_init_63 : ob_dv ob_lc k_Events_init 63 64 1 (.iload_n 1) 1 := ⟨by decide +kernel, rfl, rfl⟩
theorem d_Events_init_64 : ob_dc k_Events_init 64 (.new 30) 3 67 := ⟨by decide +kernel, rfl⟩
theorem d_Events_init_67 : ob_dc k_Events_init 67 (.dup) 1 68 := ⟨by decide +kernel, rfl⟩
theorem d_Events_init_68 : ob_dk k_Events_init 68 71 (252 : Int32) (.sipush 252) 3 := ⟨by decide +kernel, rfl, show (Int16.ofInt 252).toInt32 = (252 : Int32) by decide +kernel⟩
theorem d_Events_init_71 : ob_dc k_Events_init 71 (.invokespecial 36) 3 74 := ⟨by decide +kernel, rfl⟩
theorem d_Events_init_74 : ob_dc k_Events_init 74 (.aastore) 1 75 := ⟨by decide +kernel, rfl⟩
theorem d_Events_init_75 : ob_di k_Events_init 75 78 1 1 (1 : Int32) := ⟨by decide +kernel, rfl, by decide +kernel, by decide +kernel⟩
theorem d_Events_init_78 : ob_db k_Events_init 78 (.goto (-25)) (-25) 81 53 := ⟨by decide +kernel, rfl, by decide⟩
theorem d_Events_init_56 : ob_db k_Events_init 56 (.if_icmp .ge 25) 25 59 81 := ⟨by decide +kernel, rfl, by decide⟩
theorem c_Events_init_13 : ob_id k_Events_init k_Ring_init 13 1 := ⟨cw_Ring_init, yd_Ring_init, w_174, w_175, w_8, ⟨by decide, by decide⟩, rfl, rfl⟩
theorem c_Events_init_36 : ob_id k_Events_init k_Row_init 36 1 := ⟨cw_Row_init, yd_Row_init, w_196, w_32, w_2, ⟨by decide, by decide⟩, rfl, rfl⟩
def f_Events_init_L53 : Nat → Nat → Int32 → ob_S → ob_D → Option (ob_S × ob_D)
  | 0, _, _, _, _ => none
  | n + 1, v0, v1, S, D => (if (32 : Int32) ≤ v1 then some (S, D) else ob_gt (D.2.1 v0 4 ≠ 0) <| ob_lt (ob_new S 2 0 2) fun S54 => ob_lt (ob_z D S.2.2.1) fun D55 => ob_bd (f_Row_init (S.2.2.1) (252 : Int32) S54 D55) fun S61 D62 => ob_gt (ob_in v1 (S61.2.1 (D.2.1 v0 4))) <| ob_lt (ob_pR D62 (D.2.1 v0 4) v1.toNatClampNeg (S.2.2.1)) fun D68 => f_Events_init_L53 n v0 (v1 + (1 : Int32)) S61 D68)
theorem e_Events_init_L53 {T : ob_S} {D' : ob_D} : ∀ (n : Nat) (v0 : Nat) (v1 : Int32) (S : ob_S) (D : ob_D), f_Events_init_L53 n v0 v1 S D = some (T, D') → ob_ext S T := by
  intro n
  induction n with
  | zero =>
    intro v0 v1 S D h
    have h : none = some (T, D') := h
    cases h
  | succ n ih =>
    intro v0 v1 S D h
    rw [f_Events_init_L53] at h
    by_cases hc : (32 : Int32) ≤ v1
    · replace h := ob_ift hc h
      obtain ⟨he1, he2⟩ := ob_pe h
      have x_S : ob_ext S T := ob_ext_eq he1
      exact x_S
    · replace h := ob_iff hc h
      obtain ⟨hg50, h⟩ := ob_gt_e h
      obtain ⟨S54, hS56, h⟩ := ob_lt_x h
      obtain ⟨D55, hD57, h⟩ := ob_lt_x h
      obtain ⟨S61, D62, h63, h⟩ := ob_bd_e h
      obtain ⟨hg67, h⟩ := ob_gt_e h
      obtain ⟨D68, hD69, h⟩ := ob_lt_x h
      have x_S61 : ob_ext S61 T := ih v0 (v1 + (1 : Int32)) S61 D68 h
      have x_S54 : ob_ext S54 T := (e_Row_init h63).tr x_S61
      have x_S : ob_ext S T := (ob_ext_new hS56).tr x_S54
      exact x_S
theorem v_Events_init_L53 {l : Launch} {E : ob_E} {T : ob_S} {D' : ob_D} : ∀ (n : Nat) (v0 : Nat) (v1 : Int32) (S : ob_S) (D : ob_D), S.1 v0 = 7 → f_Events_init_L53 n v0 v1 S D = some (T, D') → ob_V l E k_Events_init 53 [(0, .ref v0), (1, .int v1)] [] S D none T D' := by
  intro n
  induction n with
  | zero =>
    intro v0 v1 S D hp_v0 h
    have h : none = some (T, D') := h
    cases h
  | succ n ih =>
    have ex := fun v0 v1 S D => @e_Events_init_L53 T D' n v0 v1 S D
    intro v0 v1 S D hp_v0 h
    rw [f_Events_init_L53] at h
    refine ob_withH fun H0 hH0 => ?_
    have kd_v0 := ob_kdH hH0 hp_v0
    refine ob_iload d_Events_init_53 rfl ?_
    refine ob_push d_Events_init_54 ?_
    refine ob_icmp_ge d_Events_init_56 (fun hc => ?_) (fun hc => ?_)
    · replace h := ob_ift hc h
      obtain ⟨he1, he2⟩ := ob_pe h
      have x_S : ob_ext S T := ob_ext_eq he1
      exact ob_vee he1 he2 (ob_vret d_Events_init_81 rfl)
    · replace h := ob_iff hc h
      obtain ⟨hg50, h⟩ := ob_gt_e h
      obtain ⟨S54, hS56, h⟩ := ob_lt_x h
      obtain ⟨D55, hD57, h⟩ := ob_lt_x h
      obtain ⟨S61, D62, h63, h⟩ := ob_bd_e h
      obtain ⟨hg67, h⟩ := ob_gt_e h
      obtain ⟨D68, hD69, h⟩ := ob_lt_x h
      have x_S61 : ob_ext S61 T := ex v0 (v1 + (1 : Int32)) S61 D68 h
      have x_S54 : ob_ext S54 T := (e_Row_init h63).tr x_S61
      have x_S : ob_ext S T := (ob_ext_new hS56).tr x_S54
      refine ob_aload d_Events_init_59 rfl ?_
      refine ob_getR d_Events_init_60 F_6_4 l_Events_32 kd_v0.1 hg50 (fun hk51 => ?_)
      refine ob_withH fun H52 hH52 => ?_
      have hk53 := ob_kdH hH52 hk51
      refine ob_iload d_Events_init_63 rfl ?_
      refine ob_newO d_Events_init_64 N_1 w_195 hS56 hD57 x_S54 ?_
      have hk58 := ob_kd_new hS56 kd_v0
      have hk59 := ob_kd_new hS56 hk53
      have hk60 : ob_kd S54 S.2.2.1 2 := ob_kd_this hS56 (by decide)
      refine ob_dup d_Events_init_67 rfl ?_
      refine ob_push d_Events_init_68 ?_
      refine ob_callI (As := [.int (252 : Int32)]) (rest := [.ref (S.2.2.1), .int v1, .ref (D.2.1 v0 4)]) d_Events_init_71 c_Events_init_36 rfl rfl (Nat.le_of_ble_eq_true rfl) (c_Row_init hk60.1 h63) (ob_ext_m (e_Row_init h63)) (ob_ext_m x_S61) ?_
      have hk64 := ob_kd_ext (e_Row_init h63) hk58
      have hk65 := ob_kd_ext (e_Row_init h63) hk60
      have hk66 := ob_kd_ext (e_Row_init h63) hk59
      refine ob_xI hD69 (ob_aast d_Events_init_74 hk66.1 hk65.1 hg67) ?_
      refine ob_iinc (lo2 := [(0, .ref v0), (1, .int (v1 + (1 : Int32)))]) d_Events_init_75 rfl rfl ?_
      refine ob_goto d_Events_init_78 ?_
      exact ih v0 (v1 + (1 : Int32)) S61 D68 hk64.1 h
def f_Events_init (v0 : Nat) (S : ob_S) (D : ob_D) : Option (ob_S × ob_D) :=
  ob_lt (ob_new S 3 0 3) fun S1 => ob_lt (ob_z D S.2.2.1) fun D2 => ob_bd (f_Ring_init (S.2.2.1) (128 : Int32) S1 D2) fun S7 D8 => ob_lt (ob_pR D8 v0 0 (S.2.2.1)) fun D12 => ob_gt (¬ (32 : Int32) < 0 ∧ (32 : Int32).toNatClampNeg ≤ 67108864) <| ob_lt (ob_new S7 22 (32 : Int32).toNatClampNeg (32 : Int32).toNatClampNeg) fun S14 => ob_lt (ob_z D12 S7.2.2.1) fun D15 => ob_lt (ob_pR D15 v0 1 (S7.2.2.1)) fun D21 => ob_gt (¬ (32 : Int32) < 0 ∧ (32 : Int32).toNatClampNeg ≤ 67108864) <| ob_lt (ob_new S14 22 (32 : Int32).toNatClampNeg (32 : Int32).toNatClampNeg) fun S23 => ob_lt (ob_z D21 S14.2.2.1) fun D24 => ob_lt (ob_pR D24 v0 2 (S14.2.2.1)) fun D30 => ob_gt (¬ (32 : Int32) < 0 ∧ (32 : Int32).toNatClampNeg ≤ 67108864) <| ob_lt (ob_new S23 22 (32 : Int32).toNatClampNeg (32 : Int32).toNatClampNeg) fun S32 => ob_lt (ob_z D30 S23.2.2.1) fun D33 => ob_lt (ob_pR D33 v0 3 (S23.2.2.1)) fun D39 => ob_gt (¬ (32 : Int32) < 0 ∧ (32 : Int32).toNatClampNeg ≤ 67108864) <| ob_lt (ob_new S32 24 (32 : Int32).toNatClampNeg (32 : Int32).toNatClampNeg) fun S41 => ob_lt (ob_z D39 S32.2.2.1) fun D42 => ob_lt (ob_pR D42 v0 4 (S32.2.2.1)) fun D48 => f_Events_init_L53 ob_FU v0 (0 : Int32) S41 D48
theorem e_Events_init {v0 : Nat} {S T : ob_S} {D D' : ob_D} (h : f_Events_init v0 S D = some (T, D')) : ob_ext S T := by
  rw [f_Events_init] at h
  obtain ⟨S1, hS3, h⟩ := ob_lt_x h
  obtain ⟨D2, hD4, h⟩ := ob_lt_x h
  obtain ⟨S7, D8, h9, h⟩ := ob_bd_e h
  obtain ⟨D12, hD13, h⟩ := ob_lt_x h
  obtain ⟨hg18, h⟩ := ob_gt_e h
  obtain ⟨S14, hS16, h⟩ := ob_lt_x h
  obtain ⟨D15, hD17, h⟩ := ob_lt_x h
  obtain ⟨D21, hD22, h⟩ := ob_lt_x h
  obtain ⟨hg27, h⟩ := ob_gt_e h
  obtain ⟨S23, hS25, h⟩ := ob_lt_x h
  obtain ⟨D24, hD26, h⟩ := ob_lt_x h
  obtain ⟨D30, hD31, h⟩ := ob_lt_x h
  obtain ⟨hg36, h⟩ := ob_gt_e h
  obtain ⟨S32, hS34, h⟩ := ob_lt_x h
  obtain ⟨D33, hD35, h⟩ := ob_lt_x h
  obtain ⟨D39, hD40, h⟩ := ob_lt_x h
  obtain ⟨hg45, h⟩ := ob_gt_e h
  obtain ⟨S41, hS43, h⟩ := ob_lt_x h
  obtain ⟨D42, hD44, h⟩ := ob_lt_x h
  obtain ⟨D48, hD49, h⟩ := ob_lt_x h
  have x_S41 : ob_ext S41 T := e_Events_init_L53 ob_FU v0 (0 : Int32) S41 D48 h
  have x_S32 : ob_ext S32 T := (ob_ext_new hS43).tr x_S41
  have x_S23 : ob_ext S23 T := (ob_ext_new hS34).tr x_S32
  have x_S14 : ob_ext S14 T := (ob_ext_new hS25).tr x_S23
  have x_S7 : ob_ext S7 T := (ob_ext_new hS16).tr x_S14
  have x_S1 : ob_ext S1 T := (e_Ring_init h9).tr x_S7
  have x_S : ob_ext S T := (ob_ext_new hS3).tr x_S1
  exact x_S
theorem c_Events_init {l : Launch} {E : ob_E} {S T : ob_S} {D D' : ob_D} {v0 : Nat} (hp_v0 : S.1 v0 = 7) (h : f_Events_init v0 S D = some (T, D')) : ob_M l E k_Events_init [.ref v0] S D none T D' := by
  have xx := e_Events_init h
  refine ob_ofV (lo := [(0, .ref v0)]) (by decide) rfl (Nat.le_of_ble_eq_true rfl) rfl xx.1 xx.2.1 ?_
  rw [f_Events_init] at h
  refine ob_withH fun H0 hH0 => ?_
  have kd_v0 := ob_kdH hH0 hp_v0
  obtain ⟨S1, hS3, h⟩ := ob_lt_x h
  obtain ⟨D2, hD4, h⟩ := ob_lt_x h
  obtain ⟨S7, D8, h9, h⟩ := ob_bd_e h
  obtain ⟨D12, hD13, h⟩ := ob_lt_x h
  obtain ⟨hg18, h⟩ := ob_gt_e h
  obtain ⟨S14, hS16, h⟩ := ob_lt_x h
  obtain ⟨D15, hD17, h⟩ := ob_lt_x h
  obtain ⟨D21, hD22, h⟩ := ob_lt_x h
  obtain ⟨hg27, h⟩ := ob_gt_e h
  obtain ⟨S23, hS25, h⟩ := ob_lt_x h
  obtain ⟨D24, hD26, h⟩ := ob_lt_x h
  obtain ⟨D30, hD31, h⟩ := ob_lt_x h
  obtain ⟨hg36, h⟩ := ob_gt_e h
  obtain ⟨S32, hS34, h⟩ := ob_lt_x h
  obtain ⟨D33, hD35, h⟩ := ob_lt_x h
  obtain ⟨D39, hD40, h⟩ := ob_lt_x h
  obtain ⟨hg45, h⟩ := ob_gt_e h
  obtain ⟨S41, hS43, h⟩ := ob_lt_x h
  obtain ⟨D42, hD44, h⟩ := ob_lt_x h
  obtain ⟨D48, hD49, h⟩ := ob_lt_x h
  have x_S41 : ob_ext S41 T := e_Events_init_L53 ob_FU v0 (0 : Int32) S41 D48 h
  have x_S32 : ob_ext S32 T := (ob_ext_new hS43).tr x_S41
  have x_S23 : ob_ext S23 T := (ob_ext_new hS34).tr x_S32
  have x_S14 : ob_ext S14 T := (ob_ext_new hS25).tr x_S23
  have x_S7 : ob_ext S7 T := (ob_ext_new hS16).tr x_S14
  have x_S1 : ob_ext S1 T := (e_Ring_init h9).tr x_S7
  have x_S : ob_ext S T := (ob_ext_new hS3).tr x_S1
  refine ob_aload d_Events_init_0 rfl ?_
  refine ob_objI d_Events_init_1 w_171 w_27 w_28 (by decide) (Nat.le_of_ble_eq_true rfl) ?_
  refine ob_aload d_Events_init_4 rfl ?_
  refine ob_newO d_Events_init_5 N_2 w_172 hS3 hD4 x_S1 ?_
  have hk5 := ob_kd_new hS3 kd_v0
  have hk6 : ob_kd S1 S.2.2.1 3 := ob_kd_this hS3 (by decide)
  refine ob_dup d_Events_init_8 rfl ?_
  refine ob_push d_Events_init_9 ?_
  refine ob_callI (As := [.int (128 : Int32)]) (rest := [.ref (S.2.2.1), .ref v0]) d_Events_init_12 c_Events_init_13 rfl rfl (Nat.le_of_ble_eq_true rfl) (c_Ring_init hk6.1 h9) (ob_ext_m (e_Ring_init h9)) (ob_ext_m x_S7) ?_
  have hk10 := ob_kd_ext (e_Ring_init h9) hk5
  have hk11 := ob_kd_ext (e_Ring_init h9) hk6
  refine ob_xI hD13 (ob_putFR d_Events_init_15 F_6_0 w_197 ⟨rfl, rfl⟩ (fty := (.object "OrbitBox$Ring")) (by decide) rfl rfl hk10.1 hk11.1) ?_
  refine ob_aload d_Events_init_18 rfl ?_
  refine ob_push d_Events_init_19 ?_
  refine ob_newZx d_Events_init_21 w_222 hg18 hS16 hD17 x_S14 ?_
  have hk19 := ob_kd_new hS16 hk10
  have hk20 : ob_kd S14 S7.2.2.1 22 := ob_kd_this hS16 (by decide)
  refine ob_xI hD22 (ob_putFR d_Events_init_23 F_6_1 w_199 ⟨rfl, rfl⟩ (fty := (.array (.boolean))) (by decide) rfl rfl hk19.1 hk20.1) ?_
  refine ob_aload d_Events_init_26 rfl ?_
  refine ob_push d_Events_init_27 ?_
  refine ob_newZx d_Events_init_29 w_222 hg27 hS25 hD26 x_S23 ?_
  have hk28 := ob_kd_new hS25 hk19
  have hk29 : ob_kd S23 S14.2.2.1 22 := ob_kd_this hS25 (by decide)
  refine ob_xI hD31 (ob_putFR d_Events_init_31 F_6_2 w_201 ⟨rfl, rfl⟩ (fty := (.array (.boolean))) (by decide) rfl rfl hk28.1 hk29.1) ?_
  refine ob_aload d_Events_init_34 rfl ?_
  refine ob_push d_Events_init_35 ?_
  refine ob_newZx d_Events_init_37 w_222 hg36 hS34 hD35 x_S32 ?_
  have hk37 := ob_kd_new hS34 hk28
  have hk38 : ob_kd S32 S23.2.2.1 22 := ob_kd_this hS34 (by decide)
  refine ob_xI hD40 (ob_putFR d_Events_init_39 F_6_3 w_203 ⟨rfl, rfl⟩ (fty := (.array (.boolean))) (by decide) rfl rfl hk37.1 hk38.1) ?_
  refine ob_aload d_Events_init_42 rfl ?_
  refine ob_push d_Events_init_43 ?_
  refine ob_newRx d_Events_init_45 w_195 hg45 hS43 hD44 x_S41 ?_
  have hk46 := ob_kd_new hS43 hk37
  have hk47 : ob_kd S41 S32.2.2.1 24 := ob_kd_this hS43 (by decide)
  refine ob_xI hD49 (ob_putFR d_Events_init_48 F_6_4 w_205 ⟨rfl, rfl⟩ (fty := (.array (.object "OrbitBox$Row"))) (by decide) rfl rfl hk46.1 hk47.1) ?_
  refine ob_push d_Events_init_51 ?_
  refine ob_istore (lo2 := [(0, .ref v0), (1, .int (0 : Int32))]) d_Events_init_52 rfl ?_
  exact v_Events_init_L53 ob_FU v0 (0 : Int32) S41 D48 hk46.1 h
-- OrbitBox$Timetable.isDue(I)Z
theorem d_Timetable_isDue_21 : ob_dk k_Timetable_isDue 21 22 (0 : Int32) (.iconst 0) 1 := ⟨by decide +kernel, rfl, show Int32.ofInt 0 = (0 : Int32) by decide +kernel⟩
theorem d_Timetable_isDue_22 : ob_dc k_Timetable_isDue 22 (.ireturn) 1 23 := ⟨by decide +kernel, rfl⟩
theorem d_Timetable_isDue_11 : ob_dk k_Timetable_isDue 11 12 (0 : Int32) (.iconst 0) 1 := ⟨by decide +kernel, rfl, show Int32.ofInt 0 = (0 : Int32) by decide +kernel⟩
theorem d_Timetable_isDue_17 : ob_dk k_Timetable_isDue 17 18 (1 : Int32) (.iconst 1) 1 := ⟨by decide +kernel, rfl, show Int32.ofInt 1 = (1 : Int32) by decide +kernel⟩
theorem d_Timetable_isDue_18 : ob_db k_Timetable_isDue 18 (.goto 4) 4 21 22 := ⟨by decide +kernel, rfl, by decide⟩
theorem d_Timetable_isDue_14 : ob_db k_Timetable_isDue 14 (.if_icmp .gt 7) 7 17 21 := ⟨by decide +kernel, rfl, by decide⟩
theorem d_Timetable_isDue_13 : ob_dv ob_lc k_Timetable_isDue 13 14 1 (.iload_n 1) 1 := ⟨by decide +kernel, rfl, rfl⟩
theorem d_Timetable_isDue_12 : ob_dc k_Timetable_isDue 12 (.iaload) 1 13 := ⟨by decide +kernel, rfl⟩
theorem d_Timetable_isDue_8 : ob_dc k_Timetable_isDue 8 (.getfield 9) 3 11 := ⟨by decide +kernel, rfl⟩
theorem d_Timetable_isDue_7 : ob_dv ob_ac k_Timetable_isDue 7 8 0 (.aload_n 0) 1 := ⟨by decide +kernel, rfl, rfl⟩
theorem d_Timetable_isDue_4 : ob_db k_Timetable_isDue 4 (.ifCond .le 17) 17 7 21 := ⟨by decide +kernel, rfl, by decide⟩
theorem d_Timetable_isDue_1 : ob_dc k_Timetable_isDue 1 (.getfield 24) 3 4 := ⟨by decide +kernel, rfl⟩
theorem d_Timetable_isDue_0 : ob_dv ob_ac k_Timetable_isDue 0 1 0 (.aload_n 0) 1 := ⟨by decide +kernel, rfl, rfl⟩
def f_Timetable_isDue (S : ob_S) (v0 : Nat) (v1 : Int32) (D : ob_D) : Option (Int32 × ob_D) :=
  (if (D.1 v0 2) ≤ 0 then some ((0 : Int32), D) else if D.2.1 v0 0 ≠ 0 then if ob_in (0 : Int32) (S.2.1 (D.2.1 v0 0)) then (if v1 < (D.1 (D.2.1 v0 0) (0 : Int32).toNatClampNeg) then some ((0 : Int32), D) else some ((1 : Int32), D)) else none else none)
theorem c_Timetable_isDue {l : Launch} {E : ob_E} {S : ob_S} {D : ob_D} {v0 : Nat} {v1 : Int32} {r : Int32} {D' : ob_D} (hp_v0 : S.1 v0 = 6) (h : f_Timetable_isDue S v0 v1 D = some (r, D')) : ob_M l E k_Timetable_isDue [.ref v0, .int v1] S D (some (.int r)) S D' := by
  refine ob_ofV (lo := [(0, .ref v0), (1, .int v1)]) (by decide) rfl (Nat.le_of_ble_eq_true rfl) rfl (Nat.le_refl _) (Nat.le_refl _) ?_
  rw [f_Timetable_isDue] at h
  refine ob_aload d_Timetable_isDue_0 rfl ?_
  refine ob_getI d_Timetable_isDue_1 F_5_2 l_Timetable_24 hp_v0 ?_
  refine ob_if_le d_Timetable_isDue_4 (fun hc => ?_) (fun hc => ?_)
  · replace h := ob_ift hc h
    refine ob_push d_Timetable_isDue_21 ?_
    exact ob_ie h (ob_iret d_Timetable_isDue_22 rfl rfl)
  · replace h := ob_iff hc h
    refine ob_aload d_Timetable_isDue_7 rfl ?_
    obtain ⟨hg2, h⟩ := ob_gd h
    refine ob_getR d_Timetable_isDue_8 F_5_0 l_Timetable_9 hp_v0 hg2 (fun hk1 => ?_)
    refine ob_push d_Timetable_isDue_11 ?_
    obtain ⟨hg3, h⟩ := ob_gd h
    refine ob_iald d_Timetable_isDue_12 hk1 hg3 ?_
    refine ob_iload d_Timetable_isDue_13 rfl ?_
    refine ob_icmp_gt d_Timetable_isDue_14 (fun hc => ?_) (fun hc => ?_)
    · replace h := ob_ift hc h
      refine ob_push d_Timetable_isDue_21 ?_
      exact ob_ie h (ob_iret d_Timetable_isDue_22 rfl rfl)
    · replace h := ob_iff hc h
      refine ob_push d_Timetable_isDue_17 ?_
      refine ob_goto d_Timetable_isDue_18 ?_
      exact ob_ie h (ob_iret d_Timetable_isDue_22 rfl rfl)
-- OrbitBox$Timetable.remove(I)V
theorem d_Timetable_remove_10 : ob_dk k_Timetable_remove 10 11 (1 : Int32) (.iconst 1) 1 := ⟨by decide +kernel, rfl, show Int32.ofInt 1 = (1 : Int32) by decide +kernel⟩
theorem d_Timetable_remove_58 : ob_dk k_Timetable_remove 58 59 (1 : Int32) (.iconst 1) 1 := ⟨by decide +kernel, rfl, show Int32.ofInt 1 = (1 : Int32) by decide +kernel⟩
theorem d_Timetable_remove_73 : ob_dc k_Timetable_remove 73 (.return_) 1 74 := ⟨by decide +kernel, rfl⟩
theorem d_Timetable_remove_72 : ob_dc k_Timetable_remove 72 (.aastore) 1 73 := ⟨by decide +kernel, rfl⟩
theorem d_Timetable_remove_71 : ob_dv ob_ac k_Timetable_remove 71 72 2 (.aload_n 2) 1 := ⟨by decide +kernel, rfl, rfl⟩
theorem d_Timetable_remove_68 : ob_dc k_Timetable_remove 68 (.getfield 24) 3 71 := ⟨by decide +kernel, rfl⟩
theorem d_Timetable_remove_67 : ob_dv ob_ac k_Timetable_remove 67 68 0 (.aload_n 0) 1 := ⟨by decide +kernel, rfl, rfl⟩
theorem d_Timetable_remove_64 : ob_dc k_Timetable_remove 64 (.getfield 17) 3 67 := ⟨by decide +kernel, rfl⟩
theorem d_Timetable_remove_63 : ob_dv ob_ac k_Timetable_remove 63 64 0 (.aload_n 0) 1 := ⟨by decide +kernel, rfl, rfl⟩
theorem d_Timetable_remove_60 : ob_dc k_Timetable_remove 60 (.putfield 24) 3 63 := ⟨by decide +kernel, rfl⟩
theorem d_Timetable_remove_59 : ob_dc k_Timetable_remove 59 (.isub) 1 60 := ⟨by decide +kernel, rfl⟩
theorem d_Timetable_remove_55 : ob_dc k_Timetable_remove 55 (.getfield 24) 3 58 := ⟨by decide +kernel, rfl⟩
theorem d_Timetable_remove_54 : ob_dc k_Timetable_remove 54 (.dup) 1 55 := ⟨by decide +kernel, rfl⟩
theorem d_Timetable_remove_53 : ob_dv ob_ac k_Timetable_remove 53 54 0 (.aload_n 0) 1 := ⟨by decide +kernel, rfl, rfl⟩
theorem d_Timetable_remove_29 : ob_dk k_Timetable_remove 29 30 (1 : Int32) (.iconst 1) 1 := ⟨by decide +kernel, rfl, show Int32.ofInt 1 = (1 : Int32) by decide +kernel⟩
theorem d_Timetable_remove_43 : ob_dk k_Timetable_remove 43 44 (1 : Int32) (.iconst 1) 1 := ⟨by decide +kernel, rfl, show Int32.ofInt 1 = (1 : Int32) by decide +kernel⟩
theorem d_Timetable_remove_47 : ob_di k_Timetable_remove 47 50 3 1 (1 : Int32) := ⟨by decide +kernel, rfl, by decide +kernel, by decide +kernel⟩
theorem d_Timetable_remove_50 : ob_db k_Timetable_remove 50 (.goto (-41)) (-41) 53 9 := ⟨by decide +kernel, rfl, by decide⟩
theorem d_Timetable_remove_46 : ob_dc k_Timetable_remove 46 (.aastore) 1 47 := ⟨by decide +kernel, rfl⟩
theorem d_Timetable_remove_45 : ob_dc k_Timetable_remove 45 (.aaload) 1 46 := ⟨by decide +kernel, rfl⟩
theorem d_Timetable_remove_44 : ob_dc k_Timetable_remove 44 (.iadd) 1 45 := ⟨by decide +kernel, rfl⟩
theorem d_Timetable_remove_42 : ob_dv ob_lc k_Timetable_remove 42 43 3 (.iload_n 3) 1 := ⟨by decide +kernel, rfl, rfl⟩
theorem d_Timetable_remove_39 : ob_dc k_Timetable_remove 39 (.getfield 17) 3 42 := ⟨by decide +kernel, rfl⟩
theorem d_Timetable_remove_38 : ob_dv ob_ac k_Timetable_remove 38 39 0 (.aload_n 0) 1 := ⟨by decide +kernel, rfl, rfl⟩
theorem d_Timetable_remove_37 : ob_dv ob_lc k_Timetable_remove 37 38 3 (.iload_n 3) 1 := ⟨by decide +kernel, rfl, rfl⟩
theorem d_Timetable_remove_34 : ob_dc k_Timetable_remove 34 (.getfield 17) 3 37 := ⟨by decide +kernel, rfl⟩
theorem d_Timetable_remove_33 : ob_dv ob_ac k_Timetable_remove 33 34 0 (.aload_n 0) 1 := ⟨by decide +kernel, rfl, rfl⟩
theorem d_Timetable_remove_32 : ob_dc k_Timetable_remove 32 (.iastore) 1 33 := ⟨by decide +kernel, rfl⟩
theorem d_Timetable_remove_31 : ob_dc k_Timetable_remove 31 (.iaload) 1 32 := ⟨by decide +kernel, rfl⟩
theorem d_Timetable_remove_30 : ob_dc k_Timetable_remove 30 (.iadd) 1 31 := ⟨by decide +kernel, rfl⟩
theorem d_Timetable_remove_28 : ob_dv ob_lc k_Timetable_remove 28 29 3 (.iload_n 3) 1 := ⟨by decide +kernel, rfl, rfl⟩
theorem d_Timetable_remove_25 : ob_dc k_Timetable_remove 25 (.getfield 9) 3 28 := ⟨by decide +kernel, rfl⟩
theorem d_Timetable_remove_24 : ob_dv ob_ac k_Timetable_remove 24 25 0 (.aload_n 0) 1 := ⟨by decide +kernel, rfl, rfl⟩
theorem d_Timetable_remove_23 : ob_dv ob_lc k_Timetable_remove 23 24 3 (.iload_n 3) 1 := ⟨by decide +kernel, rfl, rfl⟩
theorem d_Timetable_remove_20 : ob_dc k_Timetable_remove 20 (.getfield 9) 3 23 := ⟨by decide +kernel, rfl⟩
theorem d_Timetable_remove_19 : ob_dv ob_ac k_Timetable_remove 19 20 0 (.aload_n 0) 1 := ⟨by decide +kernel, rfl, rfl⟩
theorem d_Timetable_remove_16 : ob_db k_Timetable_remove 16 (.if_icmp .ge 37) 37 19 53 := ⟨by decide +kernel, rfl, by decide⟩
theorem d_Timetable_remove_13 : ob_dc k_Timetable_remove 13 (.getfield 24) 3 16 := ⟨by decide +kernel, rfl⟩
theorem d_Timetable_remove_12 : ob_dv ob_ac k_Timetable_remove 12 13 0 (.aload_n 0) 1 := ⟨by decide +kernel, rfl, rfl⟩
theorem d_Timetable_remove_11 : ob_dc k_Timetable_remove 11 (.iadd) 1 12 := ⟨by decide +kernel, rfl⟩
theorem d_Timetable_remove_9 : ob_dv ob_lc k_Timetable_remove 9 10 3 (.iload_n 3) 1 := ⟨by decide +kernel, rfl, rfl⟩
theorem d_Timetable_remove_8 : ob_dv (ob_sc k_Timetable_remove.2.2.2.1) k_Timetable_remove 8 9 3 (.istore_n 3) 1 := ⟨by decide +kernel, rfl, ⟨rfl, by decide +kernel⟩⟩
theorem d_Timetable_remove_7 : ob_dv ob_lc k_Timetable_remove 7 8 1 (.iload_n 1) 1 := ⟨by decide +kernel, rfl, rfl⟩
theorem d_Timetable_remove_6 : ob_dv (ob_bc k_Timetable_remove.2.2.2.1) k_Timetable_remove 6 7 2 (.astore_n 2) 1 := ⟨by decide +kernel, rfl, ⟨rfl, by decide +kernel⟩⟩
theorem d_Timetable_remove_5 : ob_dc k_Timetable_remove 5 (.aaload) 1 6 := ⟨by decide +kernel, rfl⟩
theorem d_Timetable_remove_4 : ob_dv ob_lc k_Timetable_remove 4 5 1 (.iload_n 1) 1 := ⟨by decide +kernel, rfl, rfl⟩
theorem d_Timetable_remove_1 : ob_dc k_Timetable_remove 1 (.getfield 17) 3 4 := ⟨by decide +kernel, rfl⟩
theorem d_Timetable_remove_0 : ob_dv ob_ac k_Timetable_remove 0 1 0 (.aload_n 0) 1 := ⟨by decide +kernel, rfl, rfl⟩
def f_Timetable_remove_L9 (S : ob_S) : Nat → Nat → Nat → Int32 → ob_D → Option (ob_D)
  | 0, _, _, _, _ => none
  | n + 1, v0, v2, v3, D => (if (D.1 v0 2) ≤ (v3 + (1 : Int32)) then ob_lt (ob_pI D v0 2 ((D.1 v0 2) - (1 : Int32))) fun D6 => if D6.2.1 v0 1 ≠ 0 then if ob_in (D6.1 v0 2) (S.2.1 (D6.2.1 v0 1)) then ob_lt (ob_pR D6 (D6.2.1 v0 1) (D6.1 v0 2).toNatClampNeg v2) fun D10 => some D10 else none else none else if D.2.1 v0 0 ≠ 0 then if D.2.1 v0 0 ≠ 0 then if ob_in (v3 + (1 : Int32)) (S.2.1 (D.2.1 v0 0)) then if ob_in v3 (S.2.1 (D.2.1 v0 0)) then ob_lt (ob_pI D (D.2.1 v0 0) v3.toNatClampNeg (D.1 (D.2.1 v0 0) (v3 + (1 : Int32)).toNatClampNeg)) fun D17 => if D17.2.1 v0 1 ≠ 0 then if D17.2.1 v0 1 ≠ 0 then if ob_in (v3 + (1 : Int32)) (S.2.1 (D17.2.1 v0 1)) then if D17.2.1 (D17.2.1 v0 1) (v3 + (1 : Int32)).toNatClampNeg ≠ 0 then if ob_in v3 (S.2.1 (D17.2.1 v0 1)) then ob_lt (ob_pR D17 (D17.2.1 v0 1) v3.toNatClampNeg (D17.2.1 (D17.2.1 v0 1) (v3 + (1 : Int32)).toNatClampNeg)) fun D26 => f_Timetable_remove_L9 S n v0 v2 (v3 + (1 : Int32)) D26 else none else none else none else none else none else none else none else none else none)
theorem v_Timetable_remove_L9 {l : Launch} {E : ob_E} {S : ob_S} {D' : ob_D} : ∀ (n : Nat), ∀ (v0 : Nat) (v2 : Nat) (v3 : Int32) (D : ob_D), S.1 v0 = 6 → S.1 v2 = 2 → f_Timetable_remove_L9 S n v0 v2 v3 D = some D' → ob_V l E k_Timetable_remove 9 [(0, .ref v0), (2, .ref v2), (3, .int v3)] [] S D none S D' := by
  intro n
  induction n with
  | zero =>
    intro v0 v2 v3 D hp_v0 hp_v2 h
    have h : none = some D' := h
    cases h
  | succ n ih =>
    intro v0 v2 v3 D hp_v0 hp_v2 h
    rw [f_Timetable_remove_L9] at h
    refine ob_iload d_Timetable_remove_9 rfl ?_
    refine ob_push d_Timetable_remove_10 ?_
    refine ob_iadd d_Timetable_remove_11 ?_
    refine ob_aload d_Timetable_remove_12 rfl ?_
    refine ob_getI d_Timetable_remove_13 F_5_2 l_Timetable_24 hp_v0 ?_
    refine ob_icmp_ge d_Timetable_remove_16 (fun hc => ?_) (fun hc => ?_)
    · replace h := ob_ift hc h
      refine ob_aload d_Timetable_remove_53 rfl ?_
      refine ob_dup d_Timetable_remove_54 rfl ?_
      refine ob_getI d_Timetable_remove_55 F_5_2 l_Timetable_24 hp_v0 ?_
      refine ob_push d_Timetable_remove_58 ?_
      refine ob_isub d_Timetable_remove_59 ?_
      replace h := ob_lt_e h
      refine ob_putI d_Timetable_remove_60 F_5_2 l_Timetable_24 hp_v0 ?_
      refine ob_aload d_Timetable_remove_63 rfl ?_
      obtain ⟨hg8, h⟩ := ob_gd h
      refine ob_getR d_Timetable_remove_64 F_5_1 l_Timetable_17 hp_v0 hg8 (fun hk7 => ?_)
      refine ob_aload d_Timetable_remove_67 rfl ?_
      refine ob_getI d_Timetable_remove_68 F_5_2 l_Timetable_24 hp_v0 ?_
      refine ob_aload d_Timetable_remove_71 rfl ?_
      obtain ⟨hg9, h⟩ := ob_gd h
      replace h := ob_lt_e h
      refine ob_aast d_Timetable_remove_72 hk7 hp_v2 hg9 ?_
      exact ob_ve h (ob_vret d_Timetable_remove_73 rfl)
    · replace h := ob_iff hc h
      refine ob_aload d_Timetable_remove_19 rfl ?_
      obtain ⟨hg12, h⟩ := ob_gd h
      refine ob_getR d_Timetable_remove_20 F_5_0 l_Timetable_9 hp_v0 hg12 (fun hk11 => ?_)
      refine ob_iload d_Timetable_remove_23 rfl ?_
      refine ob_aload d_Timetable_remove_24 rfl ?_
      obtain ⟨hg14, h⟩ := ob_gd h
      refine ob_getR d_Timetable_remove_25 F_5_0 l_Timetable_9 hp_v0 hg14 (fun hk13 => ?_)
      refine ob_iload d_Timetable_remove_28 rfl ?_
      refine ob_push d_Timetable_remove_29 ?_
      refine ob_iadd d_Timetable_remove_30 ?_
      obtain ⟨hg15, h⟩ := ob_gd h
      refine ob_iald d_Timetable_remove_31 hk13 hg15 ?_
      obtain ⟨hg16, h⟩ := ob_gd h
      replace h := ob_lt_e h
      refine ob_iast d_Timetable_remove_32 hk11 hg16 ?_
      refine ob_aload d_Timetable_remove_33 rfl ?_
      obtain ⟨hg19, h⟩ := ob_gd h
      refine ob_getR d_Timetable_remove_34 F_5_1 l_Timetable_17 hp_v0 hg19 (fun hk18 => ?_)
      refine ob_iload d_Timetable_remove_37 rfl ?_
      refine ob_aload d_Timetable_remove_38 rfl ?_
      obtain ⟨hg21, h⟩ := ob_gd h
      refine ob_getR d_Timetable_remove_39 F_5_1 l_Timetable_17 hp_v0 hg21 (fun hk20 => ?_)
      refine ob_iload d_Timetable_remove_42 rfl ?_
      refine ob_push d_Timetable_remove_43 ?_
      refine ob_iadd d_Timetable_remove_44 ?_
      obtain ⟨hg22, h⟩ := ob_gd h
      obtain ⟨hz23, h⟩ := ob_gd h
      refine ob_aald (j := 4) (t := 1) d_Timetable_remove_45 hk20 (by decide) rfl rfl rfl hg22 hz23 rfl (fun hk24 => ?_)
      obtain ⟨hg25, h⟩ := ob_gd h
      replace h := ob_lt_e h
      refine ob_aast d_Timetable_remove_46 hk18 hk24 hg25 ?_
      refine ob_iinc (lo2 := [(0, .ref v0), (2, .ref v2), (3, .int (v3 + (1 : Int32)))]) d_Timetable_remove_47 rfl rfl ?_
      refine ob_goto d_Timetable_remove_50 ?_
      exact ih v0 v2 (v3 + (1 : Int32)) (ob_pR (ob_pI D (D.2.1 v0 0) v3.toNatClampNeg (D.1 (D.2.1 v0 0) (v3 + (1 : Int32)).toNatClampNeg)) ((ob_pI D (D.2.1 v0 0) v3.toNatClampNeg (D.1 (D.2.1 v0 0) (v3 + (1 : Int32)).toNatClampNeg)).2.1 v0 1) v3.toNatClampNeg ((ob_pI D (D.2.1 v0 0) v3.toNatClampNeg (D.1 (D.2.1 v0 0) (v3 + (1 : Int32)).toNatClampNeg)).2.1 ((ob_pI D (D.2.1 v0 0) v3.toNatClampNeg (D.1 (D.2.1 v0 0) (v3 + (1 : Int32)).toNatClampNeg)).2.1 v0 1) (v3 + (1 : Int32)).toNatClampNeg)) hp_v0 hp_v2 h
def f_Timetable_remove (S : ob_S) (v0 : Nat) (v1 : Int32) (D : ob_D) : Option (ob_D) :=
  if D.2.1 v0 1 ≠ 0 then if ob_in v1 (S.2.1 (D.2.1 v0 1)) then if D.2.1 (D.2.1 v0 1) v1.toNatClampNeg ≠ 0 then f_Timetable_remove_L9 S ob_FU v0 (D.2.1 (D.2.1 v0 1) v1.toNatClampNeg) v1 D else none else none else none
theorem c_Timetable_remove {l : Launch} {E : ob_E} {S : ob_S} {D : ob_D} {v0 : Nat} {v1 : Int32} {D' : ob_D} (hp_v0 : S.1 v0 = 6) (h : f_Timetable_remove S v0 v1 D = some D') : ob_M l E k_Timetable_remove [.ref v0, .int v1] S D none S D' := by
  refine ob_ofV (lo := [(0, .ref v0), (1, .int v1)]) (by decide) rfl (Nat.le_of_ble_eq_true rfl) rfl (Nat.le_refl _) (Nat.le_refl _) ?_
  rw [f_Timetable_remove] at h
  refine ob_aload d_Timetable_remove_0 rfl ?_
  obtain ⟨hg2, h⟩ := ob_gd h
  refine ob_getR d_Timetable_remove_1 F_5_1 l_Timetable_17 hp_v0 hg2 (fun hk1 => ?_)
  refine ob_iload d_Timetable_remove_4 rfl ?_
  obtain ⟨hg3, h⟩ := ob_gd h
  obtain ⟨hz4, h⟩ := ob_gd h
  refine ob_aald (j := 4) (t := 1) d_Timetable_remove_5 hk1 (by decide) rfl rfl rfl hg3 hz4 rfl (fun hk5 => ?_)
  refine ob_astore (lo2 := [(0, .ref v0), (1, .int v1), (2, .ref (D.2.1 (D.2.1 v0 1) v1.toNatClampNeg))]) d_Timetable_remove_6 rfl ?_
  refine ob_iload d_Timetable_remove_7 rfl ?_
  refine ob_istore (lo2 := [(0, .ref v0), (1, .int v1), (2, .ref (D.2.1 (D.2.1 v0 1) v1.toNatClampNeg)), (3, .int v1)]) d_Timetable_remove_8 rfl ?_
  refine ob_sub (lo2 := [(0, .ref v0), (2, .ref (D.2.1 (D.2.1 v0 1) v1.toNatClampNeg)), (3, .int v1)]) [0, 2, 3] rfl ?_
  exact v_Timetable_remove_L9 ob_FU v0 (D.2.1 (D.2.1 v0 1) v1.toNatClampNeg) v1 D hp_v0 hk5 h
-- OrbitBox$Timetable.takeFirst(LOrbitBox$Row;)V
theorem d_Timetable_takeFirst_32 : ob_dc k_Timetable_takeFirst 32 (.return_) 1 33 := ⟨by decide +kernel, rfl⟩
theorem d_Timetable_takeFirst_12 : ob_dk k_Timetable_takeFirst 12 13 (0 : Int32) (.iconst 0) 1 := ⟨by decide +kernel, rfl, show Int32.ofInt 0 = (0 : Int32) by decide +kernel⟩
theorem d_Timetable_takeFirst_14 : ob_dk k_Timetable_takeFirst 14 15 (0 : Int32) (.iconst 0) 1 := ⟨by decide +kernel, rfl, show Int32.ofInt 0 = (0 : Int32) by decide +kernel⟩
theorem d_Timetable_takeFirst_19 : ob_dk k_Timetable_takeFirst 19 20 (0 : Int32) (.iconst 0) 1 := ⟨by decide +kernel, rfl, show Int32.ofInt 0 = (0 : Int32) by decide +kernel⟩
theorem d_Timetable_takeFirst_28 : ob_dk k_Timetable_takeFirst 28 29 (0 : Int32) (.iconst 0) 1 := ⟨by decide +kernel, rfl, show Int32.ofInt 0 = (0 : Int32) by decide +kernel⟩
theorem d_Timetable_takeFirst_29 : ob_dc k_Timetable_takeFirst 29 (.invokevirtual 43) 3 32 := ⟨by decide +kernel, rfl⟩
theorem d_Timetable_takeFirst_27 : ob_dv ob_ac k_Timetable_takeFirst 27 28 0 (.aload_n 0) 1 := ⟨by decide +kernel, rfl, rfl⟩
theorem d_Timetable_takeFirst_24 : ob_dc k_Timetable_takeFirst 24 (.invokevirtual 36) 3 27 := ⟨by decide +kernel, rfl⟩
theorem d_Timetable_takeFirst_21 : ob_dc k_Timetable_takeFirst 21 (.getfield 40) 3 24 := ⟨by decide +kernel, rfl⟩
theorem d_Timetable_takeFirst_20 : ob_dc k_Timetable_takeFirst 20 (.aaload) 1 21 := ⟨by decide +kernel, rfl⟩
theorem d_Timetable_takeFirst_16 : ob_dc k_Timetable_takeFirst 16 (.getfield 17) 3 19 := ⟨by decide +kernel, rfl⟩
theorem d_Timetable_takeFirst_15 : ob_dv ob_ac k_Timetable_takeFirst 15 16 0 (.aload_n 0) 1 := ⟨by decide +kernel, rfl, rfl⟩
theorem d_Timetable_takeFirst_13 : ob_dc k_Timetable_takeFirst 13 (.aaload) 1 14 := ⟨by decide +kernel, rfl⟩
theorem d_Timetable_takeFirst_9 : ob_dc k_Timetable_takeFirst 9 (.getfield 17) 3 12 := ⟨by decide +kernel, rfl⟩
theorem d_Timetable_takeFirst_8 : ob_dv ob_ac k_Timetable_takeFirst 8 9 0 (.aload_n 0) 1 := ⟨by decide +kernel, rfl, rfl⟩
theorem d_Timetable_takeFirst_7 : ob_dv ob_ac k_Timetable_takeFirst 7 8 1 (.aload_n 1) 1 := ⟨by decide +kernel, rfl, rfl⟩
theorem d_Timetable_takeFirst_4 : ob_db k_Timetable_takeFirst 4 (.ifCond .le 28) 28 7 32 := ⟨by decide +kernel, rfl, by decide⟩
theorem d_Timetable_takeFirst_1 : ob_dc k_Timetable_takeFirst 1 (.getfield 24) 3 4 := ⟨by decide +kernel, rfl⟩
theorem d_Timetable_takeFirst_0 : ob_dv ob_ac k_Timetable_takeFirst 0 1 0 (.aload_n 0) 1 := ⟨by decide +kernel, rfl, rfl⟩
theorem c_Timetable_takeFirst_43 : ob_vd k_Timetable_takeFirst k_Timetable_remove 43 1 5 := ⟨cw_Timetable_remove, yd_Timetable_remove, w_581, w_583, wp_9, w_5, ⟨_, _, rfl⟩, by decide, by decide⟩
theorem c_Timetable_takeFirst_36 : ob_vd k_Timetable_takeFirst k_Row_become 36 3 1 := ⟨cw_Row_become, yd_Row_become, w_580, w_545, w_546, w_2, ⟨_, _, rfl⟩, by decide, by decide⟩
def f_Timetable_takeFirst (S : ob_S) (v0 : Nat) (v1 : Nat) (D : ob_D) : Option (ob_D) :=
  (if (D.1 v0 2) ≤ 0 then some D else if D.2.1 v0 1 ≠ 0 then if ob_in (0 : Int32) (S.2.1 (D.2.1 v0 1)) then if D.2.1 (D.2.1 v0 1) (0 : Int32).toNatClampNeg ≠ 0 then if D.2.1 v0 1 ≠ 0 then if ob_in (0 : Int32) (S.2.1 (D.2.1 v0 1)) then if D.2.1 (D.2.1 v0 1) (0 : Int32).toNatClampNeg ≠ 0 then ob_bv (f_Row_become S v1 (D.2.1 (D.2.1 v0 1) (0 : Int32).toNatClampNeg) (0 : Int32) (D.1 (D.2.1 (D.2.1 v0 1) (0 : Int32).toNatClampNeg) 1) D) fun D11 => ob_bv (f_Timetable_remove S v0 (0 : Int32) D11) fun D13 => some D13 else none else none else none else none else none else none)
theorem c_Timetable_takeFirst {l : Launch} {E : ob_E} {S : ob_S} {D : ob_D} {v0 : Nat} {v1 : Nat} {D' : ob_D} (hp_v0 : S.1 v0 = 6) (hp_v1 : S.1 v1 = 2) (h : f_Timetable_takeFirst S v0 v1 D = some D') : ob_M l E k_Timetable_takeFirst [.ref v0, .ref v1] S D none S D' := by
  refine ob_ofV (lo := [(0, .ref v0), (1, .ref v1)]) (by decide) rfl (Nat.le_of_ble_eq_true rfl) rfl (Nat.le_refl _) (Nat.le_refl _) ?_
  rw [f_Timetable_takeFirst] at h
  refine ob_aload d_Timetable_takeFirst_0 rfl ?_
  refine ob_getI d_Timetable_takeFirst_1 F_5_2 l_Timetable_24 hp_v0 ?_
  refine ob_if_le d_Timetable_takeFirst_4 (fun hc => ?_) (fun hc => ?_)
  · replace h := ob_ift hc h
    exact ob_ve h (ob_vret d_Timetable_takeFirst_32 rfl)
  · replace h := ob_iff hc h
    refine ob_aload d_Timetable_takeFirst_7 rfl ?_
    refine ob_aload d_Timetable_takeFirst_8 rfl ?_
    obtain ⟨hg2, h⟩ := ob_gd h
    refine ob_getR d_Timetable_takeFirst_9 F_5_1 l_Timetable_17 hp_v0 hg2 (fun hk1 => ?_)
    refine ob_push d_Timetable_takeFirst_12 ?_
    obtain ⟨hg3, h⟩ := ob_gd h
    obtain ⟨hz4, h⟩ := ob_gd h
    refine ob_aald (j := 4) (t := 1) d_Timetable_takeFirst_13 hk1 (by decide) rfl rfl rfl hg3 hz4 rfl (fun hk5 => ?_)
    refine ob_push d_Timetable_takeFirst_14 ?_
    refine ob_aload d_Timetable_takeFirst_15 rfl ?_
    obtain ⟨hg7, h⟩ := ob_gd h
    refine ob_getR d_Timetable_takeFirst_16 F_5_1 l_Timetable_17 hp_v0 hg7 (fun hk6 => ?_)
    refine ob_push d_Timetable_takeFirst_19 ?_
    obtain ⟨hg8, h⟩ := ob_gd h
    obtain ⟨hz9, h⟩ := ob_gd h
    refine ob_aald (j := 4) (t := 1) d_Timetable_takeFirst_20 hk6 (by decide) rfl rfl rfl hg8 hz9 rfl (fun hk10 => ?_)
    refine ob_getI d_Timetable_takeFirst_21 F_1_1 l_Timetable_40 hk10 ?_
    obtain ⟨D11, h12, h⟩ := ob_bv_e h
    refine ob_callVv (As := [.ref (D.2.1 (D.2.1 v0 1) (0 : Int32).toNatClampNeg), .int (0 : Int32), .int (D.1 (D.2.1 (D.2.1 v0 1) (0 : Int32).toNatClampNeg) 1)]) (rest := []) d_Timetable_takeFirst_24 c_Timetable_takeFirst_36 hp_v1 rfl rfl (Nat.le_of_ble_eq_true rfl) (c_Row_become hp_v1 hk5 h12) ⟨Nat.le_refl _, Nat.le_refl _⟩ ⟨Nat.le_refl _, Nat.le_refl _⟩ ?_
    refine ob_aload d_Timetable_takeFirst_27 rfl ?_
    refine ob_push d_Timetable_takeFirst_28 ?_
    obtain ⟨D13, h14, h⟩ := ob_bv_e h
    refine ob_callVv (As := [.int (0 : Int32)]) (rest := []) d_Timetable_takeFirst_29 c_Timetable_takeFirst_43 hp_v0 rfl rfl (Nat.le_of_ble_eq_true rfl) (c_Timetable_remove hp_v0 h14) ⟨Nat.le_refl _, Nat.le_refl _⟩ ⟨Nat.le_refl _, Nat.le_refl _⟩ ?_
    exact ob_ve h (ob_vret d_Timetable_takeFirst_32 rfl)
-- OrbitBox$Events.isThere(I)Z
theorem d_Events_isThere_14 : ob_dk k_Events_isThere 14 15 (0 : Int32) (.iconst 0) 1 := ⟨by decide +kernel, rfl, show Int32.ofInt 0 = (0 : Int32) by decide +kernel⟩
theorem d_Events_isThere_15 : ob_dc k_Events_isThere 15 (.ireturn) 1 16 := ⟨by decide +kernel, rfl⟩
theorem d_Events_isThere_5 : ob_dk k_Events_isThere 5 7 (32 : Int32) (.bipush 32) 2 := ⟨by decide +kernel, rfl, show (Int8.ofInt 32).toInt32 = (32 : Int32) by decide +kernel⟩
theorem d_Events_isThere_10 : ob_dk k_Events_isThere 10 11 (1 : Int32) (.iconst 1) 1 := ⟨by decide +kernel, rfl, show Int32.ofInt 1 = (1 : Int32) by decide +kernel⟩
theorem d_Events_isThere_11 : ob_db k_Events_isThere 11 (.goto 4) 4 14 15 := ⟨by decide +kernel, rfl, by decide⟩
theorem d_Events_isThere_7 : ob_db k_Events_isThere 7 (.if_icmp .ge 7) 7 10 14 := ⟨by decide +kernel, rfl, by decide⟩
theorem d_Events_isThere_4 : ob_dv ob_lc k_Events_isThere 4 5 0 (.iload_n 0) 1 := ⟨by decide +kernel, rfl, rfl⟩
theorem d_Events_isThere_1 : ob_db k_Events_isThere 1 (.ifCond .lt 13) 13 4 14 := ⟨by decide +kernel, rfl, by decide⟩
theorem d_Events_isThere_0 : ob_dv ob_lc k_Events_isThere 0 1 0 (.iload_n 0) 1 := ⟨by decide +kernel, rfl, rfl⟩
def f_Events_isThere (S : ob_S) (v0 : Int32) (D : ob_D) : Option (Int32 × ob_D) :=
  (if v0 < 0 then some ((0 : Int32), D) else (if (32 : Int32) ≤ v0 then some ((0 : Int32), D) else some ((1 : Int32), D)))
theorem c_Events_isThere {l : Launch} {E : ob_E} {S : ob_S} {D : ob_D} {v0 : Int32} {r : Int32} {D' : ob_D}  (h : f_Events_isThere S v0 D = some (r, D')) : ob_M l E k_Events_isThere [.int v0] S D (some (.int r)) S D' := by
  refine ob_ofV (lo := [(0, .int v0)]) (by decide) rfl (Nat.le_of_ble_eq_true rfl) rfl (Nat.le_refl _) (Nat.le_refl _) ?_
  rw [f_Events_isThere] at h
  refine ob_iload d_Events_isThere_0 rfl ?_
  refine ob_if_lt d_Events_isThere_1 (fun hc => ?_) (fun hc => ?_)
  · replace h := ob_ift hc h
    refine ob_push d_Events_isThere_14 ?_
    exact ob_ie h (ob_iret d_Events_isThere_15 rfl rfl)
  · replace h := ob_iff hc h
    refine ob_iload d_Events_isThere_4 rfl ?_
    refine ob_push d_Events_isThere_5 ?_
    refine ob_icmp_ge d_Events_isThere_7 (fun hc => ?_) (fun hc => ?_)
    · replace h := ob_ift hc h
      refine ob_push d_Events_isThere_14 ?_
      exact ob_ie h (ob_iret d_Events_isThere_15 rfl rfl)
    · replace h := ob_iff hc h
      refine ob_push d_Events_isThere_10 ?_
      refine ob_goto d_Events_isThere_11 ?_
      exact ob_ie h (ob_iret d_Events_isThere_15 rfl rfl)
-- OrbitBox$Timetable.isFull()Z
theorem d_Timetable_isFull_16 : ob_dk k_Timetable_isFull 16 17 (0 : Int32) (.iconst 0) 1 := ⟨by decide +kernel, rfl, show Int32.ofInt 0 = (0 : Int32) by decide +kernel⟩
theorem d_Timetable_isFull_17 : ob_dc k_Timetable_isFull 17 (.ireturn) 1 18 := ⟨by decide +kernel, rfl⟩
theorem d_Timetable_isFull_12 : ob_dk k_Timetable_isFull 12 13 (1 : Int32) (.iconst 1) 1 := ⟨by decide +kernel, rfl, show Int32.ofInt 1 = (1 : Int32) by decide +kernel⟩
theorem d_Timetable_isFull_13 : ob_db k_Timetable_isFull 13 (.goto 4) 4 16 17 := ⟨by decide +kernel, rfl, by decide⟩
theorem d_Timetable_isFull_9 : ob_db k_Timetable_isFull 9 (.if_icmp .lt 7) 7 12 16 := ⟨by decide +kernel, rfl, by decide⟩
theorem d_Timetable_isFull_8 : ob_dc k_Timetable_isFull 8 (.arraylength) 1 9 := ⟨by decide +kernel, rfl⟩
theorem d_Timetable_isFull_5 : ob_dc k_Timetable_isFull 5 (.getfield 9) 3 8 := ⟨by decide +kernel, rfl⟩
theorem d_Timetable_isFull_4 : ob_dv ob_ac k_Timetable_isFull 4 5 0 (.aload_n 0) 1 := ⟨by decide +kernel, rfl, rfl⟩
theorem d_Timetable_isFull_1 : ob_dc k_Timetable_isFull 1 (.getfield 24) 3 4 := ⟨by decide +kernel, rfl⟩
theorem d_Timetable_isFull_0 : ob_dv ob_ac k_Timetable_isFull 0 1 0 (.aload_n 0) 1 := ⟨by decide +kernel, rfl, rfl⟩
def f_Timetable_isFull (S : ob_S) (v0 : Nat) (D : ob_D) : Option (Int32 × ob_D) :=
  if D.2.1 v0 0 ≠ 0 then (if (D.1 v0 2) < (Int32.ofNat (S.2.1 (D.2.1 v0 0))) then some ((0 : Int32), D) else some ((1 : Int32), D)) else none
theorem c_Timetable_isFull {l : Launch} {E : ob_E} {S : ob_S} {D : ob_D} {v0 : Nat} {r : Int32} {D' : ob_D} (hp_v0 : S.1 v0 = 6) (h : f_Timetable_isFull S v0 D = some (r, D')) : ob_M l E k_Timetable_isFull [.ref v0] S D (some (.int r)) S D' := by
  refine ob_ofV (lo := [(0, .ref v0)]) (by decide) rfl (Nat.le_of_ble_eq_true rfl) rfl (Nat.le_refl _) (Nat.le_refl _) ?_
  rw [f_Timetable_isFull] at h
  refine ob_aload d_Timetable_isFull_0 rfl ?_
  refine ob_getI d_Timetable_isFull_1 F_5_2 l_Timetable_24 hp_v0 ?_
  refine ob_aload d_Timetable_isFull_4 rfl ?_
  obtain ⟨hg2, h⟩ := ob_gd h
  refine ob_getR d_Timetable_isFull_5 F_5_0 l_Timetable_9 hp_v0 hg2 (fun hk1 => ?_)
  refine ob_alen (i := 0) d_Timetable_isFull_8 hk1 (by decide) ?_
  refine ob_icmp_lt d_Timetable_isFull_9 (fun hc => ?_) (fun hc => ?_)
  · replace h := ob_ift hc h
    refine ob_push d_Timetable_isFull_16 ?_
    exact ob_ie h (ob_iret d_Timetable_isFull_17 rfl rfl)
  · replace h := ob_iff hc h
    refine ob_push d_Timetable_isFull_12 ?_
    refine ob_goto d_Timetable_isFull_13 ?_
    exact ob_ie h (ob_iret d_Timetable_isFull_17 rfl rfl)
-- OrbitBox$Timetable.numberOf(I)I
theorem d_Timetable_numberOf_6 : ob_dk k_Timetable_numberOf 6 7 (2 : Int32) (.iconst 2) 1 := ⟨by decide +kernel, rfl, show Int32.ofInt 2 = (2 : Int32) by decide +kernel⟩
theorem d_Timetable_numberOf_7 : ob_dk k_Timetable_numberOf 7 8 (2 : Int32) (.iconst 2) 1 := ⟨by decide +kernel, rfl, show Int32.ofInt 2 = (2 : Int32) by decide +kernel⟩
theorem d_Timetable_numberOf_11 : ob_dk k_Timetable_numberOf 11 14 (16383 : Int32) (.sipush 16383) 3 := ⟨by decide +kernel, rfl, show (Int16.ofInt 16383).toInt32 = (16383 : Int32) by decide +kernel⟩
theorem d_Timetable_numberOf_15 : ob_dc k_Timetable_numberOf 15 (.ireturn) 1 16 := ⟨by decide +kernel, rfl⟩
theorem d_Timetable_numberOf_14 : ob_dc k_Timetable_numberOf 14 (.iand) 1 15 := ⟨by decide +kernel, rfl⟩
theorem d_Timetable_numberOf_8 : ob_dc k_Timetable_numberOf 8 (.invokevirtual 28) 3 11 := ⟨by decide +kernel, rfl⟩
theorem d_Timetable_numberOf_5 : ob_dc k_Timetable_numberOf 5 (.aaload) 1 6 := ⟨by decide +kernel, rfl⟩
theorem d_Timetable_numberOf_4 : ob_dv ob_lc k_Timetable_numberOf 4 5 1 (.iload_n 1) 1 := ⟨by decide +kernel, rfl, rfl⟩
theorem d_Timetable_numberOf_1 : ob_dc k_Timetable_numberOf 1 (.getfield 17) 3 4 := ⟨by decide +kernel, rfl⟩
theorem d_Timetable_numberOf_0 : ob_dv ob_ac k_Timetable_numberOf 0 1 0 (.aload_n 0) 1 := ⟨by decide +kernel, rfl, rfl⟩
theorem c_Timetable_numberOf_28 : ob_vd k_Timetable_numberOf k_Row_number 28 2 1 := ⟨cw_Row_number, yd_Row_number, w_718, w_479, w_480, w_2, ⟨_, _, rfl⟩, by decide, by decide⟩
def f_Timetable_numberOf (S : ob_S) (v0 : Nat) (v1 : Int32) (D : ob_D) : Option (Int32 × ob_D) :=
  if D.2.1 v0 1 ≠ 0 then if ob_in v1 (S.2.1 (D.2.1 v0 1)) then if D.2.1 (D.2.1 v0 1) v1.toNatClampNeg ≠ 0 then ob_bd (f_Row_number S (D.2.1 (D.2.1 v0 1) v1.toNatClampNeg) (2 : Int32) (2 : Int32) D) fun x8 D6 => some (x8 &&& (16383 : Int32), D6) else none else none else none
theorem c_Timetable_numberOf {l : Launch} {E : ob_E} {S : ob_S} {D : ob_D} {v0 : Nat} {v1 : Int32} {r : Int32} {D' : ob_D} (hp_v0 : S.1 v0 = 6) (h : f_Timetable_numberOf S v0 v1 D = some (r, D')) : ob_M l E k_Timetable_numberOf [.ref v0, .int v1] S D (some (.int r)) S D' := by
  refine ob_ofV (lo := [(0, .ref v0), (1, .int v1)]) (by decide) rfl (Nat.le_of_ble_eq_true rfl) rfl (Nat.le_refl _) (Nat.le_refl _) ?_
  rw [f_Timetable_numberOf] at h
  refine ob_aload d_Timetable_numberOf_0 rfl ?_
  obtain ⟨hg2, h⟩ := ob_gd h
  refine ob_getR d_Timetable_numberOf_1 F_5_1 l_Timetable_17 hp_v0 hg2 (fun hk1 => ?_)
  refine ob_iload d_Timetable_numberOf_4 rfl ?_
  obtain ⟨hg3, h⟩ := ob_gd h
  obtain ⟨hz4, h⟩ := ob_gd h
  refine ob_aald (j := 4) (t := 1) d_Timetable_numberOf_5 hk1 (by decide) rfl rfl rfl hg3 hz4 rfl (fun hk5 => ?_)
  refine ob_push d_Timetable_numberOf_6 ?_
  refine ob_push d_Timetable_numberOf_7 ?_
  obtain ⟨x8, D6, h7, h⟩ := ob_bd_e h
  refine ob_callVi (As := [.int (2 : Int32), .int (2 : Int32)]) (rest := []) d_Timetable_numberOf_8 c_Timetable_numberOf_28 hk5 rfl rfl (Nat.le_of_ble_eq_true rfl) (c_Row_number hk5 h7) ⟨Nat.le_refl _, Nat.le_refl _⟩ ⟨Nat.le_refl _, Nat.le_refl _⟩ ?_
  refine ob_push d_Timetable_numberOf_11 ?_
  refine ob_iand d_Timetable_numberOf_14 ?_
  exact ob_ie h (ob_iret d_Timetable_numberOf_15 rfl rfl)
-- OrbitBox$Timetable.has(I)Z
theorem d_Timetable_has_0 : ob_dk k_Timetable_has 0 1 (0 : Int32) (.iconst 0) 1 := ⟨by decide +kernel, rfl, show Int32.ofInt 0 = (0 : Int32) by decide +kernel⟩
theorem d_Timetable_has_27 : ob_dk k_Timetable_has 27 28 (0 : Int32) (.iconst 0) 1 := ⟨by decide +kernel, rfl, show Int32.ofInt 0 = (0 : Int32) by decide +kernel⟩
theorem d_Timetable_has_28 : ob_dc k_Timetable_has 28 (.ireturn) 1 29 := ⟨by decide +kernel, rfl⟩
theorem d_Timetable_has_21 : ob_di k_Timetable_has 21 24 2 1 (1 : Int32) := ⟨by decide +kernel, rfl, by decide +kernel, by decide +kernel⟩
theorem d_Timetable_has_24 : ob_db k_Timetable_has 24 (.goto (-22)) (-22) 27 2 := ⟨by decide +kernel, rfl, by decide⟩
theorem d_Timetable_has_19 : ob_dk k_Timetable_has 19 20 (1 : Int32) (.iconst 1) 1 := ⟨by decide +kernel, rfl, show Int32.ofInt 1 = (1 : Int32) by decide +kernel⟩
theorem d_Timetable_has_20 : ob_dc k_Timetable_has 20 (.ireturn) 1 21 := ⟨by decide +kernel, rfl⟩
theorem d_Timetable_has_16 : ob_db k_Timetable_has 16 (.if_icmp .ne 5) 5 19 21 := ⟨by decide +kernel, rfl, by decide⟩
theorem d_Timetable_has_15 : ob_dv ob_lc k_Timetable_has 15 16 1 (.iload_n 1) 1 := ⟨by decide +kernel, rfl, rfl⟩
theorem d_Timetable_has_12 : ob_dc k_Timetable_has 12 (.invokevirtual 46) 3 15 := ⟨by decide +kernel, rfl⟩
theorem d_Timetable_has_11 : ob_dv ob_lc k_Timetable_has 11 12 2 (.iload_n 2) 1 := ⟨by decide +kernel, rfl, rfl⟩
theorem d_Timetable_has_10 : ob_dv ob_ac k_Timetable_has 10 11 0 (.aload_n 0) 1 := ⟨by decide +kernel, rfl, rfl⟩
theorem d_Timetable_has_7 : ob_db k_Timetable_has 7 (.if_icmp .ge 20) 20 10 27 := ⟨by decide +kernel, rfl, by decide⟩
theorem d_Timetable_has_4 : ob_dc k_Timetable_has 4 (.getfield 24) 3 7 := ⟨by decide +kernel, rfl⟩
theorem d_Timetable_has_3 : ob_dv ob_ac k_Timetable_has 3 4 0 (.aload_n 0) 1 := ⟨by decide +kernel, rfl, rfl⟩
theorem d_Timetable_has_2 : ob_dv ob_lc k_Timetable_has 2 3 2 (.iload_n 2) 1 := ⟨by decide +kernel, rfl, rfl⟩
theorem d_Timetable_has_1 : ob_dv (ob_sc k_Timetable_has.2.2.2.1) k_Timetable_has 1 2 2 (.istore_n 2) 1 := ⟨by decide +kernel, rfl, ⟨rfl, by decide +kernel⟩⟩
theorem c_Timetable_has_46 : ob_vd k_Timetable_has k_Timetable_numberOf 46 1 5 := ⟨cw_Timetable_numberOf, yd_Timetable_numberOf, w_714, w_715, w_716, w_5, ⟨_, _, rfl⟩, by decide, by decide⟩
def f_Timetable_has_L2 (S : ob_S) : Nat → Nat → Int32 → Int32 → ob_D → Option (Int32 × ob_D)
  | 0, _, _, _, _ => none
  | n + 1, v0, v1, v2, D => (if (D.1 v0 2) ≤ v2 then some ((0 : Int32), D) else ob_bd (f_Timetable_numberOf S v0 v2 D) fun x3 D1 => (if x3 = v1 then some ((1 : Int32), D1) else f_Timetable_has_L2 S n v0 v1 (v2 + (1 : Int32)) D1))
theorem v_Timetable_has_L2 {l : Launch} {E : ob_E} {S : ob_S} {r : Int32} {D' : ob_D} : ∀ (n : Nat), ∀ (v0 : Nat) (v1 : Int32) (v2 : Int32) (D : ob_D), S.1 v0 = 6 → f_Timetable_has_L2 S n v0 v1 v2 D = some (r, D') → ob_V l E k_Timetable_has 2 [(0, .ref v0), (1, .int v1), (2, .int v2)] [] S D (some (.int r)) S D' := by
  intro n
  induction n with
  | zero =>
    intro v0 v1 v2 D hp_v0 h
    have h : none = some (r, D') := h
    cases h
  | succ n ih =>
    intro v0 v1 v2 D hp_v0 h
    rw [f_Timetable_has_L2] at h
    refine ob_iload d_Timetable_has_2 rfl ?_
    refine ob_aload d_Timetable_has_3 rfl ?_
    refine ob_getI d_Timetable_has_4 F_5_2 l_Timetable_24 hp_v0 ?_
    refine ob_icmp_ge d_Timetable_has_7 (fun hc => ?_) (fun hc => ?_)
    · replace h := ob_ift hc h
      refine ob_push d_Timetable_has_27 ?_
      exact ob_ie h (ob_iret d_Timetable_has_28 rfl rfl)
    · replace h := ob_iff hc h
      refine ob_aload d_Timetable_has_10 rfl ?_
      refine ob_iload d_Timetable_has_11 rfl ?_
      obtain ⟨x3, D1, h2, h⟩ := ob_bd_e h
      refine ob_callVi (As := [.int v2]) (rest := []) d_Timetable_has_12 c_Timetable_has_46 hp_v0 rfl rfl (Nat.le_of_ble_eq_true rfl) (c_Timetable_numberOf hp_v0 h2) ⟨Nat.le_refl _, Nat.le_refl _⟩ ⟨Nat.le_refl _, Nat.le_refl _⟩ ?_
      refine ob_iload d_Timetable_has_15 rfl ?_
      refine ob_icmp_ne d_Timetable_has_16 (fun hc => ?_) (fun hc => ?_)
      · replace h := ob_iff hc h
        refine ob_iinc (lo2 := [(0, .ref v0), (1, .int v1), (2, .int (v2 + (1 : Int32)))]) d_Timetable_has_21 rfl rfl ?_
        refine ob_goto d_Timetable_has_24 ?_
        exact ih v0 v1 (v2 + (1 : Int32)) D1 hp_v0 h
      · replace h := ob_ift hc h
        refine ob_push d_Timetable_has_19 ?_
        exact ob_ie h (ob_iret d_Timetable_has_20 rfl rfl)
def f_Timetable_has (S : ob_S) (v0 : Nat) (v1 : Int32) (D : ob_D) : Option (Int32 × ob_D) :=
  f_Timetable_has_L2 S ob_FU v0 v1 (0 : Int32) D
theorem c_Timetable_has {l : Launch} {E : ob_E} {S : ob_S} {D : ob_D} {v0 : Nat} {v1 : Int32} {r : Int32} {D' : ob_D} (hp_v0 : S.1 v0 = 6) (h : f_Timetable_has S v0 v1 D = some (r, D')) : ob_M l E k_Timetable_has [.ref v0, .int v1] S D (some (.int r)) S D' := by
  refine ob_ofV (lo := [(0, .ref v0), (1, .int v1)]) (by decide) rfl (Nat.le_of_ble_eq_true rfl) rfl (Nat.le_refl _) (Nat.le_refl _) ?_
  rw [f_Timetable_has] at h
  refine ob_push d_Timetable_has_0 ?_
  refine ob_istore (lo2 := [(0, .ref v0), (1, .int v1), (2, .int (0 : Int32))]) d_Timetable_has_1 rfl ?_
  exact v_Timetable_has_L2 ob_FU v0 v1 (0 : Int32) D hp_v0 h
-- OrbitBox$Timetable.canShift(II)Z
theorem d_Timetable_canShift_0 : ob_dk k_Timetable_canShift 0 1 (0 : Int32) (.iconst 0) 1 := ⟨by decide +kernel, rfl, show Int32.ofInt 0 = (0 : Int32) by decide +kernel⟩
theorem d_Timetable_canShift_48 : ob_dk k_Timetable_canShift 48 49 (1 : Int32) (.iconst 1) 1 := ⟨by decide +kernel, rfl, show Int32.ofInt 1 = (1 : Int32) by decide +kernel⟩
theorem d_Timetable_canShift_49 : ob_dc k_Timetable_canShift 49 (.ireturn) 1 50 := ⟨by decide +kernel, rfl⟩
theorem d_Timetable_canShift_40 : ob_dk k_Timetable_canShift 40 41 (0 : Int32) (.iconst 0) 1 := ⟨by decide +kernel, rfl, show Int32.ofInt 0 = (0 : Int32) by decide +kernel⟩
theorem d_Timetable_canShift_41 : ob_dc k_Timetable_canShift 41 (.ireturn) 1 42 := ⟨by decide +kernel, rfl⟩
theorem d_Timetable_canShift_42 : ob_di k_Timetable_canShift 42 45 3 1 (1 : Int32) := ⟨by decide +kernel, rfl, by decide +kernel, by decide +kernel⟩
theorem d_Timetable_canShift_45 : ob_db k_Timetable_canShift 45 (.goto (-43)) (-43) 48 2 := ⟨by decide +kernel, rfl, by decide⟩
theorem d_Timetable_canShift_37 : ob_db k_Timetable_canShift 37 (.ifCond .eq 5) 5 40 42 := ⟨by decide +kernel, rfl, by decide⟩
theorem d_Timetable_canShift_36 : ob_dc k_Timetable_canShift 36 (.lcmp) 1 37 := ⟨by decide +kernel, rfl⟩
theorem d_Timetable_canShift_35 : ob_dc k_Timetable_canShift 35 (.i2l) 1 36 := ⟨by decide +kernel, rfl⟩
theorem d_Timetable_canShift_34 : ob_dc k_Timetable_canShift 34 (.l2i) 1 35 := ⟨by decide +kernel, rfl⟩
theorem d_Timetable_canShift_32 : ob_dv ob_jc k_Timetable_canShift 32 34 4 (.lload 4) 2 := ⟨by decide +kernel, rfl, rfl⟩
theorem d_Timetable_canShift_30 : ob_dv ob_jc k_Timetable_canShift 30 32 4 (.lload 4) 2 := ⟨by decide +kernel, rfl, rfl⟩
theorem d_Timetable_canShift_27 : ob_db k_Timetable_canShift 27 (.ifCond .le 13) 13 30 40 := ⟨by decide +kernel, rfl, by decide⟩
theorem d_Timetable_canShift_26 : ob_dc k_Timetable_canShift 26 (.lcmp) 1 27 := ⟨by decide +kernel, rfl⟩
theorem d_Timetable_canShift_25 : ob_dc k_Timetable_canShift 25 (.i2l) 1 26 := ⟨by decide +kernel, rfl⟩
theorem d_Timetable_canShift_24 : ob_dv ob_lc k_Timetable_canShift 24 25 2 (.iload_n 2) 1 := ⟨by decide +kernel, rfl, rfl⟩
theorem d_Timetable_canShift_22 : ob_dv ob_jc k_Timetable_canShift 22 24 4 (.lload 4) 2 := ⟨by decide +kernel, rfl, rfl⟩
theorem d_Timetable_canShift_20 : ob_dv (ob_uc k_Timetable_canShift.2.2.2.1) k_Timetable_canShift 20 22 4 (.lstore 4) 2 := ⟨by decide +kernel, rfl, ⟨rfl, by decide +kernel⟩⟩
theorem d_Timetable_canShift_19 : ob_dc k_Timetable_canShift 19 (.ladd) 1 20 := ⟨by decide +kernel, rfl⟩
theorem d_Timetable_canShift_18 : ob_dc k_Timetable_canShift 18 (.i2l) 1 19 := ⟨by decide +kernel, rfl⟩
theorem d_Timetable_canShift_17 : ob_dv ob_lc k_Timetable_canShift 17 18 1 (.iload_n 1) 1 := ⟨by decide +kernel, rfl, rfl⟩
theorem d_Timetable_canShift_16 : ob_dc k_Timetable_canShift 16 (.i2l) 1 17 := ⟨by decide +kernel, rfl⟩
theorem d_Timetable_canShift_15 : ob_dc k_Timetable_canShift 15 (.iaload) 1 16 := ⟨by decide +kernel, rfl⟩
theorem d_Timetable_canShift_14 : ob_dv ob_lc k_Timetable_canShift 14 15 3 (.iload_n 3) 1 := ⟨by decide +kernel, rfl, rfl⟩
theorem d_Timetable_canShift_11 : ob_dc k_Timetable_canShift 11 (.getfield 9) 3 14 := ⟨by decide +kernel, rfl⟩
theorem d_Timetable_canShift_10 : ob_dv ob_ac k_Timetable_canShift 10 11 0 (.aload_n 0) 1 := ⟨by decide +kernel, rfl, rfl⟩
theorem d_Timetable_canShift_7 : ob_db k_Timetable_canShift 7 (.if_icmp .ge 41) 41 10 48 := ⟨by decide +kernel, rfl, by decide⟩
theorem d_Timetable_canShift_4 : ob_dc k_Timetable_canShift 4 (.getfield 24) 3 7 := ⟨by decide +kernel, rfl⟩
theorem d_Timetable_canShift_3 : ob_dv ob_ac k_Timetable_canShift 3 4 0 (.aload_n 0) 1 := ⟨by decide +kernel, rfl, rfl⟩
theorem d_Timetable_canShift_2 : ob_dv ob_lc k_Timetable_canShift 2 3 3 (.iload_n 3) 1 := ⟨by decide +kernel, rfl, rfl⟩
theorem d_Timetable_canShift_1 : ob_dv (ob_sc k_Timetable_canShift.2.2.2.1) k_Timetable_canShift 1 2 3 (.istore_n 3) 1 := ⟨by decide +kernel, rfl, ⟨rfl, by decide +kernel⟩⟩
def f_Timetable_canShift_L2 (S : ob_S) : Nat → Nat → Int32 → Int32 → Int32 → ob_D → Option (Int32 × ob_D)
  | 0, _, _, _, _, _ => none
  | n + 1, v0, v1, v2, v3, D => (if (D.1 v0 2) ≤ v3 then some ((1 : Int32), D) else if D.2.1 v0 0 ≠ 0 then if ob_in v3 (S.2.1 (D.2.1 v0 0)) then (if (lg_cmp (((D.1 (D.2.1 v0 0) v3.toNatClampNeg).toInt64) + (v1.toInt64)) (v2.toInt64)) ≤ 0 then some ((0 : Int32), D) else (if (lg_cmp (((D.1 (D.2.1 v0 0) v3.toNatClampNeg).toInt64) + (v1.toInt64)) (((((D.1 (D.2.1 v0 0) v3.toNatClampNeg).toInt64) + (v1.toInt64)).toInt32).toInt64)) = 0 then f_Timetable_canShift_L2 S n v0 v1 v2 (v3 + (1 : Int32)) D else some ((0 : Int32), D))) else none else none)
theorem v_Timetable_canShift_L2 {l : Launch} {E : ob_E} {S : ob_S} {r : Int32} {D' : ob_D} : ∀ (n : Nat), ∀ (v0 : Nat) (v1 : Int32) (v2 : Int32) (v3 : Int32) (D : ob_D), S.1 v0 = 6 → f_Timetable_canShift_L2 S n v0 v1 v2 v3 D = some (r, D') → ob_V l E k_Timetable_canShift 2 [(0, .ref v0), (1, .int v1), (2, .int v2), (3, .int v3)] [] S D (some (.int r)) S D' := by
  intro n
  induction n with
  | zero =>
    intro v0 v1 v2 v3 D hp_v0 h
    have h : none = some (r, D') := h
    cases h
  | succ n ih =>
    intro v0 v1 v2 v3 D hp_v0 h
    rw [f_Timetable_canShift_L2] at h
    refine ob_iload d_Timetable_canShift_2 rfl ?_
    refine ob_aload d_Timetable_canShift_3 rfl ?_
    refine ob_getI d_Timetable_canShift_4 F_5_2 l_Timetable_24 hp_v0 ?_
    refine ob_icmp_ge d_Timetable_canShift_7 (fun hc => ?_) (fun hc => ?_)
    · replace h := ob_ift hc h
      refine ob_push d_Timetable_canShift_48 ?_
      exact ob_ie h (ob_iret d_Timetable_canShift_49 rfl rfl)
    · replace h := ob_iff hc h
      refine ob_aload d_Timetable_canShift_10 rfl ?_
      obtain ⟨hg2, h⟩ := ob_gd h
      refine ob_getR d_Timetable_canShift_11 F_5_0 l_Timetable_9 hp_v0 hg2 (fun hk1 => ?_)
      refine ob_iload d_Timetable_canShift_14 rfl ?_
      obtain ⟨hg3, h⟩ := ob_gd h
      refine ob_iald d_Timetable_canShift_15 hk1 hg3 ?_
      refine ob_i2l d_Timetable_canShift_16 ?_
      refine ob_iload d_Timetable_canShift_17 rfl ?_
      refine ob_i2l d_Timetable_canShift_18 ?_
      refine ob_ladd d_Timetable_canShift_19 ?_
      refine ob_lstore (lo2 := [(0, .ref v0), (1, .int v1), (2, .int v2), (3, .int v3), (4, .long (((D.1 (D.2.1 v0 0) v3.toNatClampNeg).toInt64) + (v1.toInt64)))]) d_Timetable_canShift_20 rfl ?_
      refine ob_lload d_Timetable_canShift_22 rfl ?_
      refine ob_iload d_Timetable_canShift_24 rfl ?_
      refine ob_i2l d_Timetable_canShift_25 ?_
      refine ob_lcmp d_Timetable_canShift_26 ?_
      refine ob_if_le d_Timetable_canShift_27 (fun hc => ?_) (fun hc => ?_)
      · replace h := ob_ift hc h
        refine ob_push d_Timetable_canShift_40 ?_
        exact ob_ie h (ob_iret d_Timetable_canShift_41 rfl rfl)
      · replace h := ob_iff hc h
        refine ob_lload d_Timetable_canShift_30 rfl ?_
        refine ob_lload d_Timetable_canShift_32 rfl ?_
        refine ob_l2i d_Timetable_canShift_34 ?_
        refine ob_i2l d_Timetable_canShift_35 ?_
        refine ob_lcmp d_Timetable_canShift_36 ?_
        refine ob_if_eq d_Timetable_canShift_37 (fun hc => ?_) (fun hc => ?_)
        · replace h := ob_ift hc h
          refine ob_iinc (lo2 := [(0, .ref v0), (1, .int v1), (2, .int v2), (3, .int (v3 + (1 : Int32))), (4, .long (((D.1 (D.2.1 v0 0) v3.toNatClampNeg).toInt64) + (v1.toInt64)))]) d_Timetable_canShift_42 rfl rfl ?_
          refine ob_goto d_Timetable_canShift_45 ?_
          refine ob_sub (lo2 := [(0, .ref v0), (1, .int v1), (2, .int v2), (3, .int (v3 + (1 : Int32)))]) [0, 1, 2, 3] rfl ?_
          exact ih v0 v1 v2 (v3 + (1 : Int32)) D hp_v0 h
        · replace h := ob_iff hc h
          refine ob_push d_Timetable_canShift_40 ?_
          exact ob_ie h (ob_iret d_Timetable_canShift_41 rfl rfl)
def f_Timetable_canShift (S : ob_S) (v0 : Nat) (v1 : Int32) (v2 : Int32) (D : ob_D) : Option (Int32 × ob_D) :=
  f_Timetable_canShift_L2 S ob_FU v0 v1 v2 (0 : Int32) D
theorem c_Timetable_canShift {l : Launch} {E : ob_E} {S : ob_S} {D : ob_D} {v0 : Nat} {v1 : Int32} {v2 : Int32} {r : Int32} {D' : ob_D} (hp_v0 : S.1 v0 = 6) (h : f_Timetable_canShift S v0 v1 v2 D = some (r, D')) : ob_M l E k_Timetable_canShift [.ref v0, .int v1, .int v2] S D (some (.int r)) S D' := by
  refine ob_ofV (lo := [(0, .ref v0), (1, .int v1), (2, .int v2)]) (by decide) rfl (Nat.le_of_ble_eq_true rfl) rfl (Nat.le_refl _) (Nat.le_refl _) ?_
  rw [f_Timetable_canShift] at h
  refine ob_push d_Timetable_canShift_0 ?_
  refine ob_istore (lo2 := [(0, .ref v0), (1, .int v1), (2, .int v2), (3, .int (0 : Int32))]) d_Timetable_canShift_1 rfl ?_
  exact v_Timetable_canShift_L2 ob_FU v0 v1 v2 (0 : Int32) D hp_v0 h
-- OrbitBox$Events.raise(II)V
theorem d_Events_raise_4 : ob_dk k_Events_raise 4 5 (2 : Int32) (.iconst 2) 1 := ⟨by decide +kernel, rfl, show Int32.ofInt 2 = (2 : Int32) by decide +kernel⟩
theorem d_Events_raise_35 : ob_dk k_Events_raise 35 36 (1 : Int32) (.iconst 1) 1 := ⟨by decide +kernel, rfl, show Int32.ofInt 1 = (1 : Int32) by decide +kernel⟩
theorem d_Events_raise_40 : ob_dc k_Events_raise 40 (.return_) 1 41 := ⟨by decide +kernel, rfl⟩
theorem d_Events_raise_37 : ob_dc k_Events_raise 37 (.putfield 48) 3 40 := ⟨by decide +kernel, rfl⟩
theorem d_Events_raise_36 : ob_dc k_Events_raise 36 (.iadd) 1 37 := ⟨by decide +kernel, rfl⟩
theorem d_Events_raise_32 : ob_dc k_Events_raise 32 (.getfield 48) 3 35 := ⟨by decide +kernel, rfl⟩
theorem d_Events_raise_31 : ob_dc k_Events_raise 31 (.dup) 1 32 := ⟨by decide +kernel, rfl⟩
theorem d_Events_raise_30 : ob_dv ob_ac k_Events_raise 30 31 0 (.aload_n 0) 1 := ⟨by decide +kernel, rfl, rfl⟩
theorem d_Events_raise_27 : ob_db k_Events_raise 27 (.goto 13) 13 30 40 := ⟨by decide +kernel, rfl, by decide⟩
theorem d_Events_raise_24 : ob_dc k_Events_raise 24 (.invokevirtual 45) 3 27 := ⟨by decide +kernel, rfl⟩
theorem d_Events_raise_23 : ob_dv ob_lc k_Events_raise 23 24 2 (.iload_n 2) 1 := ⟨by decide +kernel, rfl, rfl⟩
theorem d_Events_raise_20 : ob_dc k_Events_raise 20 (.getfield 16) 3 23 := ⟨by decide +kernel, rfl⟩
theorem d_Events_raise_19 : ob_dv ob_ac k_Events_raise 19 20 0 (.aload_n 0) 1 := ⟨by decide +kernel, rfl, rfl⟩
theorem d_Events_raise_16 : ob_dc k_Events_raise 16 (.invokevirtual 45) 3 19 := ⟨by decide +kernel, rfl⟩
theorem d_Events_raise_15 : ob_dv ob_lc k_Events_raise 15 16 1 (.iload_n 1) 1 := ⟨by decide +kernel, rfl, rfl⟩
theorem d_Events_raise_12 : ob_dc k_Events_raise 12 (.getfield 16) 3 15 := ⟨by decide +kernel, rfl⟩
theorem d_Events_raise_11 : ob_dv ob_ac k_Events_raise 11 12 0 (.aload_n 0) 1 := ⟨by decide +kernel, rfl, rfl⟩
theorem d_Events_raise_8 : ob_db k_Events_raise 8 (.ifCond .eq 22) 22 11 30 := ⟨by decide +kernel, rfl, by decide⟩
theorem d_Events_raise_5 : ob_dc k_Events_raise 5 (.invokevirtual 41) 3 8 := ⟨by decide +kernel, rfl⟩
theorem d_Events_raise_1 : ob_dc k_Events_raise 1 (.getfield 16) 3 4 := ⟨by decide +kernel, rfl⟩
theorem d_Events_raise_0 : ob_dv ob_ac k_Events_raise 0 1 0 (.aload_n 0) 1 := ⟨by decide +kernel, rfl, rfl⟩
theorem c_Events_raise_45 : ob_vd k_Events_raise k_Ring_put 45 1 2 := ⟨cw_Ring_put, yd_Ring_put, w_801, w_631, w_632, w_8, ⟨_, _, rfl⟩, by decide, by decide⟩
theorem c_Events_raise_41 : ob_vd k_Events_raise k_Ring_hasRoom 41 1 2 := ⟨cw_Ring_hasRoom, yd_Ring_hasRoom, w_800, w_627, w_628, w_8, ⟨_, _, rfl⟩, by decide, by decide⟩
def f_Events_raise (S : ob_S) (v0 : Nat) (v1 : Int32) (v2 : Int32) (D : ob_D) : Option (ob_D) :=
  if D.2.1 v0 0 ≠ 0 then ob_bd (f_Ring_hasRoom S (D.2.1 v0 0) (2 : Int32) D) fun x5 D3 => (if x5 = 0 then ob_lt (ob_pI D3 v0 5 ((D3.1 v0 5) + (1 : Int32))) fun D6 => some D6 else if D3.2.1 v0 0 ≠ 0 then ob_bv (f_Ring_put S (D3.2.1 v0 0) v1 D3) fun D9 => if D9.2.1 v0 0 ≠ 0 then ob_bv (f_Ring_put S (D9.2.1 v0 0) v2 D9) fun D13 => some D13 else none else none) else none
theorem c_Events_raise {l : Launch} {E : ob_E} {S : ob_S} {D : ob_D} {v0 : Nat} {v1 : Int32} {v2 : Int32} {D' : ob_D} (hp_v0 : S.1 v0 = 7) (h : f_Events_raise S v0 v1 v2 D = some D') : ob_M l E k_Events_raise [.ref v0, .int v1, .int v2] S D none S D' := by
  refine ob_ofV (lo := [(0, .ref v0), (1, .int v1), (2, .int v2)]) (by decide) rfl (Nat.le_of_ble_eq_true rfl) rfl (Nat.le_refl _) (Nat.le_refl _) ?_
  rw [f_Events_raise] at h
  refine ob_aload d_Events_raise_0 rfl ?_
  obtain ⟨hg2, h⟩ := ob_gd h
  refine ob_getR d_Events_raise_1 F_6_0 l_Events_16 hp_v0 hg2 (fun hk1 => ?_)
  refine ob_push d_Events_raise_4 ?_
  obtain ⟨x5, D3, h4, h⟩ := ob_bd_e h
  refine ob_callVi (As := [.int (2 : Int32)]) (rest := []) d_Events_raise_5 c_Events_raise_41 hk1 rfl rfl (Nat.le_of_ble_eq_true rfl) (c_Ring_hasRoom hk1 h4) ⟨Nat.le_refl _, Nat.le_refl _⟩ ⟨Nat.le_refl _, Nat.le_refl _⟩ ?_
  refine ob_if_eq d_Events_raise_8 (fun hc => ?_) (fun hc => ?_)
  · replace h := ob_ift hc h
    refine ob_aload d_Events_raise_30 rfl ?_
    refine ob_dup d_Events_raise_31 rfl ?_
    refine ob_getI d_Events_raise_32 F_6_5 l_Events_48 hp_v0 ?_
    refine ob_push d_Events_raise_35 ?_
    refine ob_iadd d_Events_raise_36 ?_
    replace h := ob_lt_e h
    refine ob_putI d_Events_raise_37 F_6_5 l_Events_48 hp_v0 ?_
    exact ob_ve h (ob_vret d_Events_raise_40 rfl)
  · replace h := ob_iff hc h
    refine ob_aload d_Events_raise_11 rfl ?_
    obtain ⟨hg8, h⟩ := ob_gd h
    refine ob_getR d_Events_raise_12 F_6_0 l_Events_16 hp_v0 hg8 (fun hk7 => ?_)
    refine ob_iload d_Events_raise_15 rfl ?_
    obtain ⟨D9, h10, h⟩ := ob_bv_e h
    refine ob_callVv (As := [.int v1]) (rest := []) d_Events_raise_16 c_Events_raise_45 hk7 rfl rfl (Nat.le_of_ble_eq_true rfl) (c_Ring_put hk7 h10) ⟨Nat.le_refl _, Nat.le_refl _⟩ ⟨Nat.le_refl _, Nat.le_refl _⟩ ?_
    refine ob_aload d_Events_raise_19 rfl ?_
    obtain ⟨hg12, h⟩ := ob_gd h
    refine ob_getR d_Events_raise_20 F_6_0 l_Events_16 hp_v0 hg12 (fun hk11 => ?_)
    refine ob_iload d_Events_raise_23 rfl ?_
    obtain ⟨D13, h14, h⟩ := ob_bv_e h
    refine ob_callVv (As := [.int v2]) (rest := []) d_Events_raise_24 c_Events_raise_45 hk11 rfl rfl (Nat.le_of_ble_eq_true rfl) (c_Ring_put hk11 h14) ⟨Nat.le_refl _, Nat.le_refl _⟩ ⟨Nat.le_refl _, Nat.le_refl _⟩ ?_
    refine ob_goto d_Events_raise_27 ?_
    exact ob_ve h (ob_vret d_Events_raise_40 rfl)
-- OrbitBox$Timetable.add(ILOrbitBox$Row;II)V
theorem d_Timetable_add_112 : ob_dk k_Timetable_add 112 113 (1 : Int32) (.iconst 1) 1 := ⟨by decide +kernel, rfl, show Int32.ofInt 1 = (1 : Int32) by decide +kernel⟩
theorem d_Timetable_add_117 : ob_dc k_Timetable_add 117 (.return_) 1 118 := ⟨by decide +kernel, rfl⟩
theorem d_Timetable_add_114 : ob_dc k_Timetable_add 114 (.putfield 24) 3 117 := ⟨by decide +kernel, rfl⟩
theorem d_Timetable_add_113 : ob_dc k_Timetable_add 113 (.iadd) 1 114 := ⟨by decide +kernel, rfl⟩
theorem d_Timetable_add_109 : ob_dc k_Timetable_add 109 (.getfield 24) 3 112 := ⟨by decide +kernel, rfl⟩
theorem d_Timetable_add_108 : ob_dc k_Timetable_add 108 (.dup) 1 109 := ⟨by decide +kernel, rfl⟩
theorem d_Timetable_add_107 : ob_dv ob_ac k_Timetable_add 107 108 0 (.aload_n 0) 1 := ⟨by decide +kernel, rfl, rfl⟩
theorem d_Timetable_add_106 : ob_dc k_Timetable_add 106 (.iastore) 1 107 := ⟨by decide +kernel, rfl⟩
theorem d_Timetable_add_105 : ob_dv ob_lc k_Timetable_add 105 106 1 (.iload_n 1) 1 := ⟨by decide +kernel, rfl, rfl⟩
theorem d_Timetable_add_103 : ob_dv ob_lc k_Timetable_add 103 105 6 (.iload 6) 2 := ⟨by decide +kernel, rfl, rfl⟩
theorem d_Timetable_add_100 : ob_dc k_Timetable_add 100 (.getfield 9) 3 103 := ⟨by decide +kernel, rfl⟩
theorem d_Timetable_add_99 : ob_dv ob_ac k_Timetable_add 99 100 0 (.aload_n 0) 1 := ⟨by decide +kernel, rfl, rfl⟩
theorem d_Timetable_add_98 : ob_dc k_Timetable_add 98 (.aastore) 1 99 := ⟨by decide +kernel, rfl⟩
theorem d_Timetable_add_96 : ob_dv ob_ac k_Timetable_add 96 98 5 (.aload 5) 2 := ⟨by decide +kernel, rfl, rfl⟩
theorem d_Timetable_add_94 : ob_dv ob_lc k_Timetable_add 94 96 6 (.iload 6) 2 := ⟨by decide +kernel, rfl, rfl⟩
theorem d_Timetable_add_91 : ob_dc k_Timetable_add 91 (.getfield 17) 3 94 := ⟨by decide +kernel, rfl⟩
theorem d_Timetable_add_90 : ob_dv ob_ac k_Timetable_add 90 91 0 (.aload_n 0) 1 := ⟨by decide +kernel, rfl, rfl⟩
theorem d_Timetable_add_87 : ob_dc k_Timetable_add 87 (.invokevirtual 36) 3 90 := ⟨by decide +kernel, rfl⟩
theorem d_Timetable_add_85 : ob_dv ob_lc k_Timetable_add 85 87 4 (.iload 4) 2 := ⟨by decide +kernel, rfl, rfl⟩
theorem d_Timetable_add_84 : ob_dv ob_lc k_Timetable_add 84 85 3 (.iload_n 3) 1 := ⟨by decide +kernel, rfl, rfl⟩
theorem d_Timetable_add_83 : ob_dv ob_ac k_Timetable_add 83 84 2 (.aload_n 2) 1 := ⟨by decide +kernel, rfl, rfl⟩
theorem d_Timetable_add_81 : ob_dv ob_ac k_Timetable_add 81 83 5 (.aload 5) 2 := ⟨by decide +kernel, rfl, rfl⟩
theorem d_Timetable_add_36 : ob_dk k_Timetable_add 36 37 (1 : Int32) (.iconst 1) 1 := ⟨by decide +kernel, rfl, show Int32.ofInt 1 = (1 : Int32) by decide +kernel⟩
theorem d_Timetable_add_55 : ob_dk k_Timetable_add 55 56 (1 : Int32) (.iconst 1) 1 := ⟨by decide +kernel, rfl, show Int32.ofInt 1 = (1 : Int32) by decide +kernel⟩
theorem d_Timetable_add_71 : ob_dk k_Timetable_add 71 72 (1 : Int32) (.iconst 1) 1 := ⟨by decide +kernel, rfl, show Int32.ofInt 1 = (1 : Int32) by decide +kernel⟩
theorem d_Timetable_add_75 : ob_di k_Timetable_add 75 78 6 (-1) (-1 : Int32) := ⟨by decide +kernel, rfl, by decide +kernel, by decide +kernel⟩
theorem d_Timetable_add_78 : ob_db k_Timetable_add 78 (.goto (-53)) (-53) 81 25 := ⟨by decide +kernel, rfl, by decide⟩
theorem d_Timetable_add_74 : ob_dc k_Timetable_add 74 (.aastore) 1 75 := ⟨by decide +kernel, rfl⟩
theorem d_Timetable_add_73 : ob_dc k_Timetable_add 73 (.aaload) 1 74 := ⟨by decide +kernel, rfl⟩
theorem d_Timetable_add_72 : ob_dc k_Timetable_add 72 (.isub) 1 73 := ⟨by decide +kernel, rfl⟩
theorem d_Timetable_add_69 : ob_dv ob_lc k_Timetable_add 69 71 6 (.iload 6) 2 := ⟨by decide +kernel, rfl, rfl⟩
theorem d_Timetable_add_66 : ob_dc k_Timetable_add 66 (.getfield 17) 3 69 := ⟨by decide +kernel, rfl⟩
theorem d_Timetable_add_65 : ob_dv ob_ac k_Timetable_add 65 66 0 (.aload_n 0) 1 := ⟨by decide +kernel, rfl, rfl⟩
theorem d_Timetable_add_63 : ob_dv ob_lc k_Timetable_add 63 65 6 (.iload 6) 2 := ⟨by decide +kernel, rfl, rfl⟩
theorem d_Timetable_add_60 : ob_dc k_Timetable_add 60 (.getfield 17) 3 63 := ⟨by decide +kernel, rfl⟩
theorem d_Timetable_add_59 : ob_dv ob_ac k_Timetable_add 59 60 0 (.aload_n 0) 1 := ⟨by decide +kernel, rfl, rfl⟩
theorem d_Timetable_add_58 : ob_dc k_Timetable_add 58 (.iastore) 1 59 := ⟨by decide +kernel, rfl⟩
theorem d_Timetable_add_57 : ob_dc k_Timetable_add 57 (.iaload) 1 58 := ⟨by decide +kernel, rfl⟩
theorem d_Timetable_add_56 : ob_dc k_Timetable_add 56 (.isub) 1 57 := ⟨by decide +kernel, rfl⟩
theorem d_Timetable_add_53 : ob_dv ob_lc k_Timetable_add 53 55 6 (.iload 6) 2 := ⟨by decide +kernel, rfl, rfl⟩
theorem d_Timetable_add_50 : ob_dc k_Timetable_add 50 (.getfield 9) 3 53 := ⟨by decide +kernel, rfl⟩
theorem d_Timetable_add_49 : ob_dv ob_ac k_Timetable_add 49 50 0 (.aload_n 0) 1 := ⟨by decide +kernel, rfl, rfl⟩
theorem d_Timetable_add_47 : ob_dv ob_lc k_Timetable_add 47 49 6 (.iload 6) 2 := ⟨by decide +kernel, rfl, rfl⟩
theorem d_Timetable_add_44 : ob_dc k_Timetable_add 44 (.getfield 9) 3 47 := ⟨by decide +kernel, rfl⟩
theorem d_Timetable_add_43 : ob_dv ob_ac k_Timetable_add 43 44 0 (.aload_n 0) 1 := ⟨by decide +kernel, rfl, rfl⟩
theorem d_Timetable_add_40 : ob_db k_Timetable_add 40 (.if_icmp .le 41) 41 43 81 := ⟨by decide +kernel, rfl, by decide⟩
theorem d_Timetable_add_39 : ob_dv ob_lc k_Timetable_add 39 40 1 (.iload_n 1) 1 := ⟨by decide +kernel, rfl, rfl⟩
theorem d_Timetable_add_38 : ob_dc k_Timetable_add 38 (.iaload) 1 39 := ⟨by decide +kernel, rfl⟩
theorem d_Timetable_add_37 : ob_dc k_Timetable_add 37 (.isub) 1 38 := ⟨by decide +kernel, rfl⟩
theorem d_Timetable_add_34 : ob_dv ob_lc k_Timetable_add 34 36 6 (.iload 6) 2 := ⟨by decide +kernel, rfl, rfl⟩
theorem d_Timetable_add_31 : ob_dc k_Timetable_add 31 (.getfield 9) 3 34 := ⟨by decide +kernel, rfl⟩
theorem d_Timetable_add_30 : ob_dv ob_ac k_Timetable_add 30 31 0 (.aload_n 0) 1 := ⟨by decide +kernel, rfl, rfl⟩
theorem d_Timetable_add_27 : ob_db k_Timetable_add 27 (.ifCond .le 54) 54 30 81 := ⟨by decide +kernel, rfl, by decide⟩
theorem d_Timetable_add_25 : ob_dv ob_lc k_Timetable_add 25 27 6 (.iload 6) 2 := ⟨by decide +kernel, rfl, rfl⟩
theorem d_Timetable_add_23 : ob_dv (ob_sc k_Timetable_add.2.2.2.1) k_Timetable_add 23 25 6 (.istore 6) 2 := ⟨by decide +kernel, rfl, ⟨rfl, by decide +kernel⟩⟩
theorem d_Timetable_add_20 : ob_dc k_Timetable_add 20 (.getfield 24) 3 23 := ⟨by decide +kernel, rfl⟩
theorem d_Timetable_add_19 : ob_dv ob_ac k_Timetable_add 19 20 0 (.aload_n 0) 1 := ⟨by decide +kernel, rfl, rfl⟩
theorem d_Timetable_add_17 : ob_dv (ob_bc k_Timetable_add.2.2.2.1) k_Timetable_add 17 19 5 (.astore 5) 2 := ⟨by decide +kernel, rfl, ⟨rfl, by decide +kernel⟩⟩
theorem d_Timetable_add_16 : ob_dc k_Timetable_add 16 (.aaload) 1 17 := ⟨by decide +kernel, rfl⟩
theorem d_Timetable_add_13 : ob_dc k_Timetable_add 13 (.getfield 24) 3 16 := ⟨by decide +kernel, rfl⟩
theorem d_Timetable_add_12 : ob_dv ob_ac k_Timetable_add 12 13 0 (.aload_n 0) 1 := ⟨by decide +kernel, rfl, rfl⟩
theorem d_Timetable_add_9 : ob_dc k_Timetable_add 9 (.getfield 17) 3 12 := ⟨by decide +kernel, rfl⟩
theorem d_Timetable_add_8 : ob_dv ob_ac k_Timetable_add 8 9 0 (.aload_n 0) 1 := ⟨by decide +kernel, rfl, rfl⟩
theorem d_Timetable_add_7 : ob_dc k_Timetable_add 7 (.return_) 1 8 := ⟨by decide +kernel, rfl⟩
theorem d_Timetable_add_4 : ob_db k_Timetable_add 4 (.ifCond .eq 4) 4 7 8 := ⟨by decide +kernel, rfl, by decide⟩
theorem d_Timetable_add_1 : ob_dc k_Timetable_add 1 (.invokevirtual 32) 3 4 := ⟨by decide +kernel, rfl⟩
theorem d_Timetable_add_0 : ob_dv ob_ac k_Timetable_add 0 1 0 (.aload_n 0) 1 := ⟨by decide +kernel, rfl, rfl⟩
theorem c_Timetable_add_36 : ob_vd k_Timetable_add k_Row_become 36 3 1 := ⟨cw_Row_become, yd_Row_become, w_580, w_545, w_546, w_2, ⟨_, _, rfl⟩, by decide, by decide⟩
theorem c_Timetable_add_32 : ob_vd k_Timetable_add k_Timetable_isFull 32 0 5 := ⟨cw_Timetable_isFull, yd_Timetable_isFull, w_809, w_707, w_708, w_5, ⟨_, _, rfl⟩, by decide, by decide⟩
def f_Timetable_add_L81 (S : ob_S) (v0 : Nat) (v1 : Int32) (v2 : Nat) (v3 : Int32) (v4 : Int32) (v5 : Nat) (v6 : Int32) (D : ob_D) : Option (ob_D) :=
  ob_bv (f_Row_become S v5 v2 v3 v4 D) fun D9 => if D9.2.1 v0 1 ≠ 0 then if ob_in v6 (S.2.1 (D9.2.1 v0 1)) then ob_lt (ob_pR D9 (D9.2.1 v0 1) v6.toNatClampNeg v5) fun D14 => if D14.2.1 v0 0 ≠ 0 then if ob_in v6 (S.2.1 (D14.2.1 v0 0)) then ob_lt (ob_pI D14 (D14.2.1 v0 0) v6.toNatClampNeg v1) fun D18 => ob_lt (ob_pI D18 v0 2 ((D18.1 v0 2) + (1 : Int32))) fun D19 => some D19 else none else none else none else none
theorem v_Timetable_add_L81 {l : Launch} {E : ob_E} {S : ob_S} {D' : ob_D} : ∀ (v0 : Nat) (v1 : Int32) (v2 : Nat) (v3 : Int32) (v4 : Int32) (v5 : Nat) (v6 : Int32) (D : ob_D), S.1 v0 = 6 → S.1 v2 = 2 → S.1 v5 = 2 → f_Timetable_add_L81 S v0 v1 v2 v3 v4 v5 v6 D = some D' → ob_V l E k_Timetable_add 81 [(0, .ref v0), (1, .int v1), (2, .ref v2), (3, .int v3), (4, .int v4), (5, .ref v5), (6, .int v6)] [] S D none S D' := by
  intro v0 v1 v2 v3 v4 v5 v6 D hp_v0 hp_v2 hp_v5 h
  rw [f_Timetable_add_L81] at h
  refine ob_aload d_Timetable_add_81 rfl ?_
  refine ob_aload d_Timetable_add_83 rfl ?_
  refine ob_iload d_Timetable_add_84 rfl ?_
  refine ob_iload d_Timetable_add_85 rfl ?_
  obtain ⟨D9, h10, h⟩ := ob_bv_e h
  refine ob_callVv (As := [.ref v2, .int v3, .int v4]) (rest := []) d_Timetable_add_87 c_Timetable_add_36 hp_v5 rfl rfl (Nat.le_of_ble_eq_true rfl) (c_Row_become hp_v5 hp_v2 h10) ⟨Nat.le_refl _, Nat.le_refl _⟩ ⟨Nat.le_refl _, Nat.le_refl _⟩ ?_
  refine ob_aload d_Timetable_add_90 rfl ?_
  obtain ⟨hg12, h⟩ := ob_gd h
  refine ob_getR d_Timetable_add_91 F_5_1 l_Timetable_17 hp_v0 hg12 (fun hk11 => ?_)
  refine ob_iload d_Timetable_add_94 rfl ?_
  refine ob_aload d_Timetable_add_96 rfl ?_
  obtain ⟨hg13, h⟩ := ob_gd h
  replace h := ob_lt_e h
  refine ob_aast d_Timetable_add_98 hk11 hp_v5 hg13 ?_
  refine ob_aload d_Timetable_add_99 rfl ?_
  obtain ⟨hg16, h⟩ := ob_gd h
  refine ob_getR d_Timetable_add_100 F_5_0 l_Timetable_9 hp_v0 hg16 (fun hk15 => ?_)
  refine ob_iload d_Timetable_add_103 rfl ?_
  refine ob_iload d_Timetable_add_105 rfl ?_
  obtain ⟨hg17, h⟩ := ob_gd h
  replace h := ob_lt_e h
  refine ob_iast d_Timetable_add_106 hk15 hg17 ?_
  refine ob_aload d_Timetable_add_107 rfl ?_
  refine ob_dup d_Timetable_add_108 rfl ?_
  refine ob_getI d_Timetable_add_109 F_5_2 l_Timetable_24 hp_v0 ?_
  refine ob_push d_Timetable_add_112 ?_
  refine ob_iadd d_Timetable_add_113 ?_
  replace h := ob_lt_e h
  refine ob_putI d_Timetable_add_114 F_5_2 l_Timetable_24 hp_v0 ?_
  exact ob_ve h (ob_vret d_Timetable_add_117 rfl)
def f_Timetable_add_L25 (S : ob_S) : Nat → Nat → Int32 → Nat → Int32 → Int32 → Nat → Int32 → ob_D → Option (ob_D)
  | 0, _, _, _, _, _, _, _, _ => none
  | n + 1, v0, v1, v2, v3, v4, v5, v6, D => (if v6 ≤ 0 then f_Timetable_add_L81 S v0 v1 v2 v3 v4 v5 v6 D else if D.2.1 v0 0 ≠ 0 then if ob_in (v6 - (1 : Int32)) (S.2.1 (D.2.1 v0 0)) then (if (D.1 (D.2.1 v0 0) (v6 - (1 : Int32)).toNatClampNeg) ≤ v1 then f_Timetable_add_L81 S v0 v1 v2 v3 v4 v5 v6 D else if D.2.1 v0 0 ≠ 0 then if D.2.1 v0 0 ≠ 0 then if ob_in (v6 - (1 : Int32)) (S.2.1 (D.2.1 v0 0)) then if ob_in v6 (S.2.1 (D.2.1 v0 0)) then ob_lt (ob_pI D (D.2.1 v0 0) v6.toNatClampNeg (D.1 (D.2.1 v0 0) (v6 - (1 : Int32)).toNatClampNeg)) fun D29 => if D29.2.1 v0 1 ≠ 0 then if D29.2.1 v0 1 ≠ 0 then if ob_in (v6 - (1 : Int32)) (S.2.1 (D29.2.1 v0 1)) then if D29.2.1 (D29.2.1 v0 1) (v6 - (1 : Int32)).toNatClampNeg ≠ 0 then if ob_in v6 (S.2.1 (D29.2.1 v0 1)) then ob_lt (ob_pR D29 (D29.2.1 v0 1) v6.toNatClampNeg (D29.2.1 (D29.2.1 v0 1) (v6 - (1 : Int32)).toNatClampNeg)) fun D38 => f_Timetable_add_L25 S n v0 v1 v2 v3 v4 v5 (v6 + (-1 : Int32)) D38 else none else none else none else none else none else none else none else none else none) else none else none)
theorem v_Timetable_add_L25 {l : Launch} {E : ob_E} {S : ob_S} {D' : ob_D} : ∀ (n : Nat), ∀ (v0 : Nat) (v1 : Int32) (v2 : Nat) (v3 : Int32) (v4 : Int32) (v5 : Nat) (v6 : Int32) (D : ob_D), S.1 v0 = 6 → S.1 v2 = 2 → S.1 v5 = 2 → f_Timetable_add_L25 S n v0 v1 v2 v3 v4 v5 v6 D = some D' → ob_V l E k_Timetable_add 25 [(0, .ref v0), (1, .int v1), (2, .ref v2), (3, .int v3), (4, .int v4), (5, .ref v5), (6, .int v6)] [] S D none S D' := by
  intro n
  induction n with
  | zero =>
    intro v0 v1 v2 v3 v4 v5 v6 D hp_v0 hp_v2 hp_v5 h
    have h : none = some D' := h
    cases h
  | succ n ih =>
    intro v0 v1 v2 v3 v4 v5 v6 D hp_v0 hp_v2 hp_v5 h
    rw [f_Timetable_add_L25] at h
    refine ob_iload d_Timetable_add_25 rfl ?_
    refine ob_if_le d_Timetable_add_27 (fun hc => ?_) (fun hc => ?_)
    · replace h := ob_ift hc h
      exact v_Timetable_add_L81 v0 v1 v2 v3 v4 v5 v6 D hp_v0 hp_v2 hp_v5 h
    · replace h := ob_iff hc h
      refine ob_aload d_Timetable_add_30 rfl ?_
      obtain ⟨hg21, h⟩ := ob_gd h
      refine ob_getR d_Timetable_add_31 F_5_0 l_Timetable_9 hp_v0 hg21 (fun hk20 => ?_)
      refine ob_iload d_Timetable_add_34 rfl ?_
      refine ob_push d_Timetable_add_36 ?_
      refine ob_isub d_Timetable_add_37 ?_
      obtain ⟨hg22, h⟩ := ob_gd h
      refine ob_iald d_Timetable_add_38 hk20 hg22 ?_
      refine ob_iload d_Timetable_add_39 rfl ?_
      refine ob_icmp_le d_Timetable_add_40 (fun hc => ?_) (fun hc => ?_)
      · replace h := ob_ift hc h
        exact v_Timetable_add_L81 v0 v1 v2 v3 v4 v5 v6 D hp_v0 hp_v2 hp_v5 h
      · replace h := ob_iff hc h
        refine ob_aload d_Timetable_add_43 rfl ?_
        obtain ⟨hg24, h⟩ := ob_gd h
        refine ob_getR d_Timetable_add_44 F_5_0 l_Timetable_9 hp_v0 hg24 (fun hk23 => ?_)
        refine ob_iload d_Timetable_add_47 rfl ?_
        refine ob_aload d_Timetable_add_49 rfl ?_
        obtain ⟨hg26, h⟩ := ob_gd h
        refine ob_getR d_Timetable_add_50 F_5_0 l_Timetable_9 hp_v0 hg26 (fun hk25 => ?_)
        refine ob_iload d_Timetable_add_53 rfl ?_
        refine ob_push d_Timetable_add_55 ?_
        refine ob_isub d_Timetable_add_56 ?_
        obtain ⟨hg27, h⟩ := ob_gd h
        refine ob_iald d_Timetable_add_57 hk25 hg27 ?_
        obtain ⟨hg28, h⟩ := ob_gd h
        replace h := ob_lt_e h
        refine ob_iast d_Timetable_add_58 hk23 hg28 ?_
        refine ob_aload d_Timetable_add_59 rfl ?_
        obtain ⟨hg31, h⟩ := ob_gd h
        refine ob_getR d_Timetable_add_60 F_5_1 l_Timetable_17 hp_v0 hg31 (fun hk30 => ?_)
        refine ob_iload d_Timetable_add_63 rfl ?_
        refine ob_aload d_Timetable_add_65 rfl ?_
        obtain ⟨hg33, h⟩ := ob_gd h
        refine ob_getR d_Timetable_add_66 F_5_1 l_Timetable_17 hp_v0 hg33 (fun hk32 => ?_)
        refine ob_iload d_Timetable_add_69 rfl ?_
        refine ob_push d_Timetable_add_71 ?_
        refine ob_isub d_Timetable_add_72 ?_
        obtain ⟨hg34, h⟩ := ob_gd h
        obtain ⟨hz35, h⟩ := ob_gd h
        refine ob_aald (j := 4) (t := 1) d_Timetable_add_73 hk32 (by decide) rfl rfl rfl hg34 hz35 rfl (fun hk36 => ?_)
        obtain ⟨hg37, h⟩ := ob_gd h
        replace h := ob_lt_e h
        refine ob_aast d_Timetable_add_74 hk30 hk36 hg37 ?_
        refine ob_iinc (lo2 := [(0, .ref v0), (1, .int v1), (2, .ref v2), (3, .int v3), (4, .int v4), (5, .ref v5), (6, .int (v6 + (-1 : Int32)))]) d_Timetable_add_75 rfl rfl ?_
        refine ob_goto d_Timetable_add_78 ?_
        exact ih v0 v1 v2 v3 v4 v5 (v6 + (-1 : Int32)) (ob_pR (ob_pI D (D.2.1 v0 0) v6.toNatClampNeg (D.1 (D.2.1 v0 0) (v6 - (1 : Int32)).toNatClampNeg)) ((ob_pI D (D.2.1 v0 0) v6.toNatClampNeg (D.1 (D.2.1 v0 0) (v6 - (1 : Int32)).toNatClampNeg)).2.1 v0 1) v6.toNatClampNeg ((ob_pI D (D.2.1 v0 0) v6.toNatClampNeg (D.1 (D.2.1 v0 0) (v6 - (1 : Int32)).toNatClampNeg)).2.1 ((ob_pI D (D.2.1 v0 0) v6.toNatClampNeg (D.1 (D.2.1 v0 0) (v6 - (1 : Int32)).toNatClampNeg)).2.1 v0 1) (v6 - (1 : Int32)).toNatClampNeg)) hp_v0 hp_v2 hp_v5 h
def f_Timetable_add (S : ob_S) (v0 : Nat) (v1 : Int32) (v2 : Nat) (v3 : Int32) (v4 : Int32) (D : ob_D) : Option (ob_D) :=
  ob_bd (f_Timetable_isFull S v0 D) fun x3 D1 => (if x3 = 0 then if D1.2.1 v0 1 ≠ 0 then if ob_in (D1.1 v0 2) (S.2.1 (D1.2.1 v0 1)) then if D1.2.1 (D1.2.1 v0 1) (D1.1 v0 2).toNatClampNeg ≠ 0 then f_Timetable_add_L25 S ob_FU v0 v1 v2 v3 v4 (D1.2.1 (D1.2.1 v0 1) (D1.1 v0 2).toNatClampNeg) (D1.1 v0 2) D1 else none else none else none else some D1)
theorem c_Timetable_add {l : Launch} {E : ob_E} {S : ob_S} {D : ob_D} {v0 : Nat} {v1 : Int32} {v2 : Nat} {v3 : Int32} {v4 : Int32} {D' : ob_D} (hp_v0 : S.1 v0 = 6) (hp_v2 : S.1 v2 = 2) (h : f_Timetable_add S v0 v1 v2 v3 v4 D = some D') : ob_M l E k_Timetable_add [.ref v0, .int v1, .ref v2, .int v3, .int v4] S D none S D' := by
  refine ob_ofV (lo := [(0, .ref v0), (1, .int v1), (2, .ref v2), (3, .int v3), (4, .int v4)]) (by decide) rfl (Nat.le_of_ble_eq_true rfl) rfl (Nat.le_refl _) (Nat.le_refl _) ?_
  rw [f_Timetable_add] at h
  refine ob_aload d_Timetable_add_0 rfl ?_
  obtain ⟨x3, D1, h2, h⟩ := ob_bd_e h
  refine ob_callVi (As := []) (rest := []) d_Timetable_add_1 c_Timetable_add_32 hp_v0 rfl rfl (Nat.le_of_ble_eq_true rfl) (c_Timetable_isFull hp_v0 h2) ⟨Nat.le_refl _, Nat.le_refl _⟩ ⟨Nat.le_refl _, Nat.le_refl _⟩ ?_
  refine ob_if_eq d_Timetable_add_4 (fun hc => ?_) (fun hc => ?_)
  · replace h := ob_ift hc h
    refine ob_aload d_Timetable_add_8 rfl ?_
    obtain ⟨hg5, h⟩ := ob_gd h
    refine ob_getR d_Timetable_add_9 F_5_1 l_Timetable_17 hp_v0 hg5 (fun hk4 => ?_)
    refine ob_aload d_Timetable_add_12 rfl ?_
    refine ob_getI d_Timetable_add_13 F_5_2 l_Timetable_24 hp_v0 ?_
    obtain ⟨hg6, h⟩ := ob_gd h
    obtain ⟨hz7, h⟩ := ob_gd h
    refine ob_aald (j := 4) (t := 1) d_Timetable_add_16 hk4 (by decide) rfl rfl rfl hg6 hz7 rfl (fun hk8 => ?_)
    refine ob_astore (lo2 := [(0, .ref v0), (1, .int v1), (2, .ref v2), (3, .int v3), (4, .int v4), (5, .ref (D1.2.1 (D1.2.1 v0 1) (D1.1 v0 2).toNatClampNeg))]) d_Timetable_add_17 rfl ?_
    refine ob_aload d_Timetable_add_19 rfl ?_
    refine ob_getI d_Timetable_add_20 F_5_2 l_Timetable_24 hp_v0 ?_
    refine ob_istore (lo2 := [(0, .ref v0), (1, .int v1), (2, .ref v2), (3, .int v3), (4, .int v4), (5, .ref (D1.2.1 (D1.2.1 v0 1) (D1.1 v0 2).toNatClampNeg)), (6, .int (D1.1 v0 2))]) d_Timetable_add_23 rfl ?_
    exact v_Timetable_add_L25 ob_FU v0 v1 v2 v3 v4 (D1.2.1 (D1.2.1 v0 1) (D1.1 v0 2).toNatClampNeg) (D1.1 v0 2) D1 hp_v0 hp_v2 hk8 h
  · replace h := ob_iff hc h
    exact ob_ve h (ob_vret d_Timetable_add_7 rfl)
-- OrbitBox$Timetable.removeAll(I)V
theorem d_Timetable_removeAll_4 : ob_dk k_Timetable_removeAll 4 5 (1 : Int32) (.iconst 1) 1 := ⟨by decide +kernel, rfl, show Int32.ofInt 1 = (1 : Int32) by decide +kernel⟩
theorem d_Timetable_removeAll_31 : ob_dc k_Timetable_removeAll 31 (.return_) 1 32 := ⟨by decide +kernel, rfl⟩
theorem d_Timetable_removeAll_25 : ob_di k_Timetable_removeAll 25 28 2 (-1) (-1 : Int32) := ⟨by decide +kernel, rfl, by decide +kernel, by decide +kernel⟩
theorem d_Timetable_removeAll_28 : ob_db k_Timetable_removeAll 28 (.goto (-21)) (-21) 31 7 := ⟨by decide +kernel, rfl, by decide⟩
theorem d_Timetable_removeAll_22 : ob_dc k_Timetable_removeAll 22 (.invokevirtual 43) 3 25 := ⟨by decide +kernel, rfl⟩
theorem d_Timetable_removeAll_21 : ob_dv ob_lc k_Timetable_removeAll 21 22 2 (.iload_n 2) 1 := ⟨by decide +kernel, rfl, rfl⟩
theorem d_Timetable_removeAll_20 : ob_dv ob_ac k_Timetable_removeAll 20 21 0 (.aload_n 0) 1 := ⟨by decide +kernel, rfl, rfl⟩
theorem d_Timetable_removeAll_17 : ob_db k_Timetable_removeAll 17 (.if_icmp .ne 8) 8 20 25 := ⟨by decide +kernel, rfl, by decide⟩
theorem d_Timetable_removeAll_16 : ob_dv ob_lc k_Timetable_removeAll 16 17 1 (.iload_n 1) 1 := ⟨by decide +kernel, rfl, rfl⟩
theorem d_Timetable_removeAll_13 : ob_dc k_Timetable_removeAll 13 (.invokevirtual 46) 3 16 := ⟨by decide +kernel, rfl⟩
theorem d_Timetable_removeAll_12 : ob_dv ob_lc k_Timetable_removeAll 12 13 2 (.iload_n 2) 1 := ⟨by decide +kernel, rfl, rfl⟩
theorem d_Timetable_removeAll_11 : ob_dv ob_ac k_Timetable_removeAll 11 12 0 (.aload_n 0) 1 := ⟨by decide +kernel, rfl, rfl⟩
theorem d_Timetable_removeAll_8 : ob_db k_Timetable_removeAll 8 (.ifCond .lt 23) 23 11 31 := ⟨by decide +kernel, rfl, by decide⟩
theorem d_Timetable_removeAll_7 : ob_dv ob_lc k_Timetable_removeAll 7 8 2 (.iload_n 2) 1 := ⟨by decide +kernel, rfl, rfl⟩
theorem d_Timetable_removeAll_6 : ob_dv (ob_sc k_Timetable_removeAll.2.2.2.1) k_Timetable_removeAll 6 7 2 (.istore_n 2) 1 := ⟨by decide +kernel, rfl, ⟨rfl, by decide +kernel⟩⟩
theorem d_Timetable_removeAll_5 : ob_dc k_Timetable_removeAll 5 (.isub) 1 6 := ⟨by decide +kernel, rfl⟩
theorem d_Timetable_removeAll_1 : ob_dc k_Timetable_removeAll 1 (.getfield 24) 3 4 := ⟨by decide +kernel, rfl⟩
theorem d_Timetable_removeAll_0 : ob_dv ob_ac k_Timetable_removeAll 0 1 0 (.aload_n 0) 1 := ⟨by decide +kernel, rfl, rfl⟩
theorem c_Timetable_removeAll_43 : ob_vd k_Timetable_removeAll k_Timetable_remove 43 1 5 := ⟨cw_Timetable_remove, yd_Timetable_remove, w_581, w_583, wp_9, w_5, ⟨_, _, rfl⟩, by decide, by decide⟩
theorem c_Timetable_removeAll_46 : ob_vd k_Timetable_removeAll k_Timetable_numberOf 46 1 5 := ⟨cw_Timetable_numberOf, yd_Timetable_numberOf, w_714, w_715, w_716, w_5, ⟨_, _, rfl⟩, by decide, by decide⟩
def f_Timetable_removeAll_L7 (S : ob_S) : Nat → Nat → Int32 → Int32 → ob_D → Option (ob_D)
  | 0, _, _, _, _ => none
  | n + 1, v0, v1, v2, D => (if v2 < 0 then some D else ob_bd (f_Timetable_numberOf S v0 v2 D) fun x3 D1 => (if x3 = v1 then ob_bv (f_Timetable_remove S v0 v2 D1) fun D4 => f_Timetable_removeAll_L7 S n v0 v1 (v2 + (-1 : Int32)) D4 else f_Timetable_removeAll_L7 S n v0 v1 (v2 + (-1 : Int32)) D1))
theorem v_Timetable_removeAll_L7 {l : Launch} {E : ob_E} {S : ob_S} {D' : ob_D} : ∀ (n : Nat), ∀ (v0 : Nat) (v1 : Int32) (v2 : Int32) (D : ob_D), S.1 v0 = 6 → f_Timetable_removeAll_L7 S n v0 v1 v2 D = some D' → ob_V l E k_Timetable_removeAll 7 [(0, .ref v0), (1, .int v1), (2, .int v2)] [] S D none S D' := by
  intro n
  induction n with
  | zero =>
    intro v0 v1 v2 D hp_v0 h
    have h : none = some D' := h
    cases h
  | succ n ih =>
    intro v0 v1 v2 D hp_v0 h
    rw [f_Timetable_removeAll_L7] at h
    refine ob_iload d_Timetable_removeAll_7 rfl ?_
    refine ob_if_lt d_Timetable_removeAll_8 (fun hc => ?_) (fun hc => ?_)
    · replace h := ob_ift hc h
      exact ob_ve h (ob_vret d_Timetable_removeAll_31 rfl)
    · replace h := ob_iff hc h
      refine ob_aload d_Timetable_removeAll_11 rfl ?_
      refine ob_iload d_Timetable_removeAll_12 rfl ?_
      obtain ⟨x3, D1, h2, h⟩ := ob_bd_e h
      refine ob_callVi (As := [.int v2]) (rest := []) d_Timetable_removeAll_13 c_Timetable_removeAll_46 hp_v0 rfl rfl (Nat.le_of_ble_eq_true rfl) (c_Timetable_numberOf hp_v0 h2) ⟨Nat.le_refl _, Nat.le_refl _⟩ ⟨Nat.le_refl _, Nat.le_refl _⟩ ?_
      refine ob_iload d_Timetable_removeAll_16 rfl ?_
      refine ob_icmp_ne d_Timetable_removeAll_17 (fun hc => ?_) (fun hc => ?_)
      · replace h := ob_iff hc h
        refine ob_iinc (lo2 := [(0, .ref v0), (1, .int v1), (2, .int (v2 + (-1 : Int32)))]) d_Timetable_removeAll_25 rfl rfl ?_
        refine ob_goto d_Timetable_removeAll_28 ?_
        exact ih v0 v1 (v2 + (-1 : Int32)) D1 hp_v0 h
      · replace h := ob_ift hc h
        refine ob_aload d_Timetable_removeAll_20 rfl ?_
        refine ob_iload d_Timetable_removeAll_21 rfl ?_
        obtain ⟨D4, h5, h⟩ := ob_bv_e h
        refine ob_callVv (As := [.int v2]) (rest := []) d_Timetable_removeAll_22 c_Timetable_removeAll_43 hp_v0 rfl rfl (Nat.le_of_ble_eq_true rfl) (c_Timetable_remove hp_v0 h5) ⟨Nat.le_refl _, Nat.le_refl _⟩ ⟨Nat.le_refl _, Nat.le_refl _⟩ ?_
        refine ob_iinc (lo2 := [(0, .ref v0), (1, .int v1), (2, .int (v2 + (-1 : Int32)))]) d_Timetable_removeAll_25 rfl rfl ?_
        refine ob_goto d_Timetable_removeAll_28 ?_
        exact ih v0 v1 (v2 + (-1 : Int32)) D4 hp_v0 h
def f_Timetable_removeAll (S : ob_S) (v0 : Nat) (v1 : Int32) (D : ob_D) : Option (ob_D) :=
  f_Timetable_removeAll_L7 S ob_FU v0 v1 ((D.1 v0 2) - (1 : Int32)) D
theorem c_Timetable_removeAll {l : Launch} {E : ob_E} {S : ob_S} {D : ob_D} {v0 : Nat} {v1 : Int32} {D' : ob_D} (hp_v0 : S.1 v0 = 6) (h : f_Timetable_removeAll S v0 v1 D = some D') : ob_M l E k_Timetable_removeAll [.ref v0, .int v1] S D none S D' := by
  refine ob_ofV (lo := [(0, .ref v0), (1, .int v1)]) (by decide) rfl (Nat.le_of_ble_eq_true rfl) rfl (Nat.le_refl _) (Nat.le_refl _) ?_
  rw [f_Timetable_removeAll] at h
  refine ob_aload d_Timetable_removeAll_0 rfl ?_
  refine ob_getI d_Timetable_removeAll_1 F_5_2 l_Timetable_24 hp_v0 ?_
  refine ob_push d_Timetable_removeAll_4 ?_
  refine ob_isub d_Timetable_removeAll_5 ?_
  refine ob_istore (lo2 := [(0, .ref v0), (1, .int v1), (2, .int ((D.1 v0 2) - (1 : Int32)))]) d_Timetable_removeAll_6 rfl ?_
  exact v_Timetable_removeAll_L7 ob_FU v0 v1 ((D.1 v0 2) - (1 : Int32)) D hp_v0 h
-- OrbitBox$Timetable.shift(I)V
theorem d_Timetable_shift_0 : ob_dk k_Timetable_shift 0 1 (0 : Int32) (.iconst 0) 1 := ⟨by decide +kernel, rfl, show Int32.ofInt 0 = (0 : Int32) by decide +kernel⟩
theorem d_Timetable_shift_26 : ob_dc k_Timetable_shift 26 (.return_) 1 27 := ⟨by decide +kernel, rfl⟩
theorem d_Timetable_shift_20 : ob_di k_Timetable_shift 20 23 2 1 (1 : Int32) := ⟨by decide +kernel, rfl, by decide +kernel, by decide +kernel⟩
theorem d_Timetable_shift_23 : ob_db k_Timetable_shift 23 (.goto (-21)) (-21) 26 2 := ⟨by decide +kernel, rfl, by decide⟩
theorem d_Timetable_shift_19 : ob_dc k_Timetable_shift 19 (.iastore) 1 20 := ⟨by decide +kernel, rfl⟩
theorem d_Timetable_shift_18 : ob_dc k_Timetable_shift 18 (.iadd) 1 19 := ⟨by decide +kernel, rfl⟩
theorem d_Timetable_shift_17 : ob_dv ob_lc k_Timetable_shift 17 18 1 (.iload_n 1) 1 := ⟨by decide +kernel, rfl, rfl⟩
theorem d_Timetable_shift_16 : ob_dc k_Timetable_shift 16 (.iaload) 1 17 := ⟨by decide +kernel, rfl⟩
theorem d_Timetable_shift_15 : ob_dc k_Timetable_shift 15 (.dup2) 1 16 := ⟨by decide +kernel, rfl⟩
theorem d_Timetable_shift_14 : ob_dv ob_lc k_Timetable_shift 14 15 2 (.iload_n 2) 1 := ⟨by decide +kernel, rfl, rfl⟩
theorem d_Timetable_shift_11 : ob_dc k_Timetable_shift 11 (.getfield 9) 3 14 := ⟨by decide +kernel, rfl⟩
theorem d_Timetable_shift_10 : ob_dv ob_ac k_Timetable_shift 10 11 0 (.aload_n 0) 1 := ⟨by decide +kernel, rfl, rfl⟩
theorem d_Timetable_shift_7 : ob_db k_Timetable_shift 7 (.if_icmp .ge 19) 19 10 26 := ⟨by decide +kernel, rfl, by decide⟩
theorem d_Timetable_shift_4 : ob_dc k_Timetable_shift 4 (.getfield 24) 3 7 := ⟨by decide +kernel, rfl⟩
theorem d_Timetable_shift_3 : ob_dv ob_ac k_Timetable_shift 3 4 0 (.aload_n 0) 1 := ⟨by decide +kernel, rfl, rfl⟩
theorem d_Timetable_shift_2 : ob_dv ob_lc k_Timetable_shift 2 3 2 (.iload_n 2) 1 := ⟨by decide +kernel, rfl, rfl⟩
theorem d_Timetable_shift_1 : ob_dv (ob_sc k_Timetable_shift.2.2.2.1) k_Timetable_shift 1 2 2 (.istore_n 2) 1 := ⟨by decide +kernel, rfl, ⟨rfl, by decide +kernel⟩⟩
def f_Timetable_shift_L2 (S : ob_S) : Nat → Nat → Int32 → Int32 → ob_D → Option (ob_D)
  | 0, _, _, _, _ => none
  | n + 1, v0, v1, v2, D => (if (D.1 v0 2) ≤ v2 then some D else if D.2.1 v0 0 ≠ 0 then if ob_in v2 (S.2.1 (D.2.1 v0 0)) then if ob_in v2 (S.2.1 (D.2.1 v0 0)) then ob_lt (ob_pI D (D.2.1 v0 0) v2.toNatClampNeg ((D.1 (D.2.1 v0 0) v2.toNatClampNeg) + v1)) fun D5 => f_Timetable_shift_L2 S n v0 v1 (v2 + (1 : Int32)) D5 else none else none else none)
theorem v_Timetable_shift_L2 {l : Launch} {E : ob_E} {S : ob_S} {D' : ob_D} : ∀ (n : Nat), ∀ (v0 : Nat) (v1 : Int32) (v2 : Int32) (D : ob_D), S.1 v0 = 6 → f_Timetable_shift_L2 S n v0 v1 v2 D = some D' → ob_V l E k_Timetable_shift 2 [(0, .ref v0), (1, .int v1), (2, .int v2)] [] S D none S D' := by
  intro n
  induction n with
  | zero =>
    intro v0 v1 v2 D hp_v0 h
    have h : none = some D' := h
    cases h
  | succ n ih =>
    intro v0 v1 v2 D hp_v0 h
    rw [f_Timetable_shift_L2] at h
    refine ob_iload d_Timetable_shift_2 rfl ?_
    refine ob_aload d_Timetable_shift_3 rfl ?_
    refine ob_getI d_Timetable_shift_4 F_5_2 l_Timetable_24 hp_v0 ?_
    refine ob_icmp_ge d_Timetable_shift_7 (fun hc => ?_) (fun hc => ?_)
    · replace h := ob_ift hc h
      exact ob_ve h (ob_vret d_Timetable_shift_26 rfl)
    · replace h := ob_iff hc h
      refine ob_aload d_Timetable_shift_10 rfl ?_
      obtain ⟨hg2, h⟩ := ob_gd h
      refine ob_getR d_Timetable_shift_11 F_5_0 l_Timetable_9 hp_v0 hg2 (fun hk1 => ?_)
      refine ob_iload d_Timetable_shift_14 rfl ?_
      refine ob_dup2 d_Timetable_shift_15 rfl rfl ?_
      obtain ⟨hg3, h⟩ := ob_gd h
      refine ob_iald d_Timetable_shift_16 hk1 hg3 ?_
      refine ob_iload d_Timetable_shift_17 rfl ?_
      refine ob_iadd d_Timetable_shift_18 ?_
      obtain ⟨hg4, h⟩ := ob_gd h
      replace h := ob_lt_e h
      refine ob_iast d_Timetable_shift_19 hk1 hg4 ?_
      refine ob_iinc (lo2 := [(0, .ref v0), (1, .int v1), (2, .int (v2 + (1 : Int32)))]) d_Timetable_shift_20 rfl rfl ?_
      refine ob_goto d_Timetable_shift_23 ?_
      exact ih v0 v1 (v2 + (1 : Int32)) (ob_pI D (D.2.1 v0 0) v2.toNatClampNeg ((D.1 (D.2.1 v0 0) v2.toNatClampNeg) + v1)) hp_v0 h
def f_Timetable_shift (S : ob_S) (v0 : Nat) (v1 : Int32) (D : ob_D) : Option (ob_D) :=
  f_Timetable_shift_L2 S ob_FU v0 v1 (0 : Int32) D
theorem c_Timetable_shift {l : Launch} {E : ob_E} {S : ob_S} {D : ob_D} {v0 : Nat} {v1 : Int32} {D' : ob_D} (hp_v0 : S.1 v0 = 6) (h : f_Timetable_shift S v0 v1 D = some D') : ob_M l E k_Timetable_shift [.ref v0, .int v1] S D none S D' := by
  refine ob_ofV (lo := [(0, .ref v0), (1, .int v1)]) (by decide) rfl (Nat.le_of_ble_eq_true rfl) rfl (Nat.le_refl _) (Nat.le_refl _) ?_
  rw [f_Timetable_shift] at h
  refine ob_push d_Timetable_shift_0 ?_
  refine ob_istore (lo2 := [(0, .ref v0), (1, .int v1), (2, .int (0 : Int32))]) d_Timetable_shift_1 rfl ?_
  exact v_Timetable_shift_L2 ob_FU v0 v1 (0 : Int32) D hp_v0 h
-- OrbitBox$Timetable.tell(LOrbitBox$Row;)V
theorem d_Timetable_tell_4 : ob_dk k_Timetable_tell 4 6 (32 : Int32) (.bipush 32) 2 := ⟨by decide +kernel, rfl, show (Int8.ofInt 32).toInt32 = (32 : Int32) by decide +kernel⟩
theorem d_Timetable_tell_12 : ob_dk k_Timetable_tell 12 13 (1 : Int32) (.iconst 1) 1 := ⟨by decide +kernel, rfl, show Int32.ofInt 1 = (1 : Int32) by decide +kernel⟩
theorem d_Timetable_tell_16 : ob_dk k_Timetable_tell 16 17 (0 : Int32) (.iconst 0) 1 := ⟨by decide +kernel, rfl, show Int32.ofInt 0 = (0 : Int32) by decide +kernel⟩
theorem d_Timetable_tell_50 : ob_dc k_Timetable_tell 50 (.return_) 1 51 := ⟨by decide +kernel, rfl⟩
theorem d_Timetable_tell_30 : ob_dk k_Timetable_tell 30 31 (4 : Int32) (.iconst 4) 1 := ⟨by decide +kernel, rfl, show Int32.ofInt 4 = (4 : Int32) by decide +kernel⟩
theorem d_Timetable_tell_40 : ob_dk k_Timetable_tell 40 41 (2 : Int32) (.iconst 2) 1 := ⟨by decide +kernel, rfl, show Int32.ofInt 2 = (2 : Int32) by decide +kernel⟩
theorem d_Timetable_tell_44 : ob_di k_Timetable_tell 44 47 3 1 (1 : Int32) := ⟨by decide +kernel, rfl, by decide +kernel, by decide +kernel⟩
theorem d_Timetable_tell_47 : ob_db k_Timetable_tell 47 (.goto (-29)) (-29) 50 18 := ⟨by decide +kernel, rfl, by decide⟩
theorem d_Timetable_tell_41 : ob_dc k_Timetable_tell 41 (.invokevirtual 55) 3 44 := ⟨by decide +kernel, rfl⟩
theorem d_Timetable_tell_37 : ob_dc k_Timetable_tell 37 (.invokevirtual 46) 3 40 := ⟨by decide +kernel, rfl⟩
theorem d_Timetable_tell_36 : ob_dv ob_lc k_Timetable_tell 36 37 3 (.iload_n 3) 1 := ⟨by decide +kernel, rfl, rfl⟩
theorem d_Timetable_tell_35 : ob_dv ob_ac k_Timetable_tell 35 36 0 (.aload_n 0) 1 := ⟨by decide +kernel, rfl, rfl⟩
theorem d_Timetable_tell_34 : ob_dv ob_ac k_Timetable_tell 34 35 1 (.aload_n 1) 1 := ⟨by decide +kernel, rfl, rfl⟩
theorem d_Timetable_tell_31 : ob_dc k_Timetable_tell 31 (.invokevirtual 55) 3 34 := ⟨by decide +kernel, rfl⟩
theorem d_Timetable_tell_29 : ob_dc k_Timetable_tell 29 (.iaload) 1 30 := ⟨by decide +kernel, rfl⟩
theorem d_Timetable_tell_28 : ob_dv ob_lc k_Timetable_tell 28 29 3 (.iload_n 3) 1 := ⟨by decide +kernel, rfl, rfl⟩
theorem d_Timetable_tell_25 : ob_dc k_Timetable_tell 25 (.getfield 9) 3 28 := ⟨by decide +kernel, rfl⟩
theorem d_Timetable_tell_24 : ob_dv ob_ac k_Timetable_tell 24 25 0 (.aload_n 0) 1 := ⟨by decide +kernel, rfl, rfl⟩
theorem d_Timetable_tell_23 : ob_dv ob_ac k_Timetable_tell 23 24 1 (.aload_n 1) 1 := ⟨by decide +kernel, rfl, rfl⟩
theorem d_Timetable_tell_20 : ob_db k_Timetable_tell 20 (.if_icmp .ge 30) 30 23 50 := ⟨by decide +kernel, rfl, by decide⟩
theorem d_Timetable_tell_19 : ob_dv ob_lc k_Timetable_tell 19 20 2 (.iload_n 2) 1 := ⟨by decide +kernel, rfl, rfl⟩
theorem d_Timetable_tell_18 : ob_dv ob_lc k_Timetable_tell 18 19 3 (.iload_n 3) 1 := ⟨by decide +kernel, rfl, rfl⟩
theorem d_Timetable_tell_17 : ob_dv (ob_sc k_Timetable_tell.2.2.2.1) k_Timetable_tell 17 18 3 (.istore_n 3) 1 := ⟨by decide +kernel, rfl, ⟨rfl, by decide +kernel⟩⟩
theorem d_Timetable_tell_13 : ob_dc k_Timetable_tell 13 (.invokevirtual 55) 3 16 := ⟨by decide +kernel, rfl⟩
theorem d_Timetable_tell_11 : ob_dv ob_lc k_Timetable_tell 11 12 2 (.iload_n 2) 1 := ⟨by decide +kernel, rfl, rfl⟩
theorem d_Timetable_tell_10 : ob_dv ob_ac k_Timetable_tell 10 11 1 (.aload_n 1) 1 := ⟨by decide +kernel, rfl, rfl⟩
theorem d_Timetable_tell_9 : ob_dv (ob_sc k_Timetable_tell.2.2.2.1) k_Timetable_tell 9 10 2 (.istore_n 2) 1 := ⟨by decide +kernel, rfl, ⟨rfl, by decide +kernel⟩⟩
theorem d_Timetable_tell_6 : ob_dc k_Timetable_tell 6 (.invokestatic 50) 3 9 := ⟨by decide +kernel, rfl⟩
theorem d_Timetable_tell_1 : ob_dc k_Timetable_tell 1 (.getfield 24) 3 4 := ⟨by decide +kernel, rfl⟩
theorem d_Timetable_tell_0 : ob_dv ob_ac k_Timetable_tell 0 1 0 (.aload_n 0) 1 := ⟨by decide +kernel, rfl, rfl⟩
theorem c_Timetable_tell_55 : ob_vd k_Timetable_tell k_Row_add 55 2 1 := ⟨cw_Row_add, yd_Row_add, w_827, w_467, w_468, w_2, ⟨_, _, rfl⟩, by decide, by decide⟩
theorem c_Timetable_tell_46 : ob_vd k_Timetable_tell k_Timetable_numberOf 46 1 5 := ⟨cw_Timetable_numberOf, yd_Timetable_numberOf, w_714, w_715, w_716, w_5, ⟨_, _, rfl⟩, by decide, by decide⟩
def f_Timetable_tell_L18 (S : ob_S) : Nat → Nat → Nat → Int32 → Int32 → ob_D → Option (ob_D)
  | 0, _, _, _, _, _ => none
  | n + 1, v0, v1, v2, v3, D => (if v2 ≤ v3 then some D else if D.2.1 v0 0 ≠ 0 then if ob_in v3 (S.2.1 (D.2.1 v0 0)) then ob_bv (f_Row_add S v1 (D.1 (D.2.1 v0 0) v3.toNatClampNeg) (4 : Int32) D) fun D6 => ob_bd (f_Timetable_numberOf S v0 v3 D6) fun x10 D8 => ob_bv (f_Row_add S v1 x10 (2 : Int32) D8) fun D11 => f_Timetable_tell_L18 S n v0 v1 v2 (v3 + (1 : Int32)) D11 else none else none)
theorem v_Timetable_tell_L18 {l : Launch} {E : ob_E} {S : ob_S} {D' : ob_D} : ∀ (n : Nat), ∀ (v0 : Nat) (v1 : Nat) (v2 : Int32) (v3 : Int32) (D : ob_D), S.1 v0 = 6 → S.1 v1 = 2 → f_Timetable_tell_L18 S n v0 v1 v2 v3 D = some D' → ob_V l E k_Timetable_tell 18 [(0, .ref v0), (1, .ref v1), (2, .int v2), (3, .int v3)] [] S D none S D' := by
  intro n
  induction n with
  | zero =>
    intro v0 v1 v2 v3 D hp_v0 hp_v1 h
    have h : none = some D' := h
    cases h
  | succ n ih =>
    intro v0 v1 v2 v3 D hp_v0 hp_v1 h
    rw [f_Timetable_tell_L18] at h
    refine ob_iload d_Timetable_tell_18 rfl ?_
    refine ob_iload d_Timetable_tell_19 rfl ?_
    refine ob_icmp_ge d_Timetable_tell_20 (fun hc => ?_) (fun hc => ?_)
    · replace h := ob_ift hc h
      exact ob_ve h (ob_vret d_Timetable_tell_50 rfl)
    · replace h := ob_iff hc h
      refine ob_aload d_Timetable_tell_23 rfl ?_
      refine ob_aload d_Timetable_tell_24 rfl ?_
      obtain ⟨hg4, h⟩ := ob_gd h
      refine ob_getR d_Timetable_tell_25 F_5_0 l_Timetable_9 hp_v0 hg4 (fun hk3 => ?_)
      refine ob_iload d_Timetable_tell_28 rfl ?_
      obtain ⟨hg5, h⟩ := ob_gd h
      refine ob_iald d_Timetable_tell_29 hk3 hg5 ?_
      refine ob_push d_Timetable_tell_30 ?_
      obtain ⟨D6, h7, h⟩ := ob_bv_e h
      refine ob_callVv (As := [.int (D.1 (D.2.1 v0 0) v3.toNatClampNeg), .int (4 : Int32)]) (rest := []) d_Timetable_tell_31 c_Timetable_tell_55 hp_v1 rfl rfl (Nat.le_of_ble_eq_true rfl) (c_Row_add hp_v1 h7) ⟨Nat.le_refl _, Nat.le_refl _⟩ ⟨Nat.le_refl _, Nat.le_refl _⟩ ?_
      refine ob_aload d_Timetable_tell_34 rfl ?_
      refine ob_aload d_Timetable_tell_35 rfl ?_
      refine ob_iload d_Timetable_tell_36 rfl ?_
      obtain ⟨x10, D8, h9, h⟩ := ob_bd_e h
      refine ob_callVi (As := [.int v3]) (rest := [.ref v1]) d_Timetable_tell_37 c_Timetable_tell_46 hp_v0 rfl rfl (Nat.le_of_ble_eq_true rfl) (c_Timetable_numberOf hp_v0 h9) ⟨Nat.le_refl _, Nat.le_refl _⟩ ⟨Nat.le_refl _, Nat.le_refl _⟩ ?_
      refine ob_push d_Timetable_tell_40 ?_
      obtain ⟨D11, h12, h⟩ := ob_bv_e h
      refine ob_callVv (As := [.int x10, .int (2 : Int32)]) (rest := []) d_Timetable_tell_41 c_Timetable_tell_55 hp_v1 rfl rfl (Nat.le_of_ble_eq_true rfl) (c_Row_add hp_v1 h12) ⟨Nat.le_refl _, Nat.le_refl _⟩ ⟨Nat.le_refl _, Nat.le_refl _⟩ ?_
      refine ob_iinc (lo2 := [(0, .ref v0), (1, .ref v1), (2, .int v2), (3, .int (v3 + (1 : Int32)))]) d_Timetable_tell_44 rfl rfl ?_
      refine ob_goto d_Timetable_tell_47 ?_
      exact ih v0 v1 v2 (v3 + (1 : Int32)) D11 hp_v0 hp_v1 h
def f_Timetable_tell (S : ob_S) (v0 : Nat) (v1 : Nat) (D : ob_D) : Option (ob_D) :=
  ob_bv (f_Row_add S v1 (ob_mn (D.1 v0 2) (32 : Int32)) (1 : Int32) D) fun D1 => f_Timetable_tell_L18 S ob_FU v0 v1 (ob_mn (D.1 v0 2) (32 : Int32)) (0 : Int32) D1
theorem c_Timetable_tell {l : Launch} {E : ob_E} {S : ob_S} {D : ob_D} {v0 : Nat} {v1 : Nat} {D' : ob_D} (hp_v0 : S.1 v0 = 6) (hp_v1 : S.1 v1 = 2) (h : f_Timetable_tell S v0 v1 D = some D') : ob_M l E k_Timetable_tell [.ref v0, .ref v1] S D none S D' := by
  refine ob_ofV (lo := [(0, .ref v0), (1, .ref v1)]) (by decide) rfl (Nat.le_of_ble_eq_true rfl) rfl (Nat.le_refl _) (Nat.le_refl _) ?_
  rw [f_Timetable_tell] at h
  refine ob_aload d_Timetable_tell_0 rfl ?_
  refine ob_getI d_Timetable_tell_1 F_5_2 l_Timetable_24 hp_v0 ?_
  refine ob_push d_Timetable_tell_4 ?_
  refine ob_mmin d_Timetable_tell_6 w_826 w_137 w_6 w_138 (by decide) (Nat.le_of_ble_eq_true rfl) ⟨Nat.le_refl _, Nat.le_refl _⟩ ?_
  refine ob_istore (lo2 := [(0, .ref v0), (1, .ref v1), (2, .int (ob_mn (D.1 v0 2) (32 : Int32)))]) d_Timetable_tell_9 rfl ?_
  refine ob_aload d_Timetable_tell_10 rfl ?_
  refine ob_iload d_Timetable_tell_11 rfl ?_
  refine ob_push d_Timetable_tell_12 ?_
  obtain ⟨D1, h2, h⟩ := ob_bv_e h
  refine ob_callVv (As := [.int (ob_mn (D.1 v0 2) (32 : Int32)), .int (1 : Int32)]) (rest := []) d_Timetable_tell_13 c_Timetable_tell_55 hp_v1 rfl rfl (Nat.le_of_ble_eq_true rfl) (c_Row_add hp_v1 h2) ⟨Nat.le_refl _, Nat.le_refl _⟩ ⟨Nat.le_refl _, Nat.le_refl _⟩ ?_
  refine ob_push d_Timetable_tell_16 ?_
  refine ob_istore (lo2 := [(0, .ref v0), (1, .ref v1), (2, .int (ob_mn (D.1 v0 2) (32 : Int32))), (3, .int (0 : Int32))]) d_Timetable_tell_17 rfl ?_
  exact v_Timetable_tell_L18 ob_FU v0 v1 (ob_mn (D.1 v0 2) (32 : Int32)) (0 : Int32) D1 hp_v0 hp_v1 h
-- OrbitBox$Events.isTold(I)Z
theorem d_Events_isTold_20 : ob_dk k_Events_isTold 20 21 (0 : Int32) (.iconst 0) 1 := ⟨by decide +kernel, rfl, show Int32.ofInt 0 = (0 : Int32) by decide +kernel⟩
theorem d_Events_isTold_21 : ob_dc k_Events_isTold 21 (.ireturn) 1 22 := ⟨by decide +kernel, rfl⟩
theorem d_Events_isTold_16 : ob_dk k_Events_isTold 16 17 (1 : Int32) (.iconst 1) 1 := ⟨by decide +kernel, rfl, show Int32.ofInt 1 = (1 : Int32) by decide +kernel⟩
theorem d_Events_isTold_17 : ob_db k_Events_isTold 17 (.goto 4) 4 20 21 := ⟨by decide +kernel, rfl, by decide⟩
theorem d_Events_isTold_13 : ob_db k_Events_isTold 13 (.ifCond .ne 7) 7 16 20 := ⟨by decide +kernel, rfl, by decide⟩
theorem d_Events_isTold_12 : ob_dc k_Events_isTold 12 (.baload) 1 13 := ⟨by decide +kernel, rfl⟩
theorem d_Events_isTold_11 : ob_dv ob_lc k_Events_isTold 11 12 1 (.iload_n 1) 1 := ⟨by decide +kernel, rfl, rfl⟩
theorem d_Events_isTold_8 : ob_dc k_Events_isTold 8 (.getfield 20) 3 11 := ⟨by decide +kernel, rfl⟩
theorem d_Events_isTold_7 : ob_dv ob_ac k_Events_isTold 7 8 0 (.aload_n 0) 1 := ⟨by decide +kernel, rfl, rfl⟩
theorem d_Events_isTold_4 : ob_db k_Events_isTold 4 (.ifCond .eq 16) 16 7 20 := ⟨by decide +kernel, rfl, by decide⟩
theorem d_Events_isTold_1 : ob_dc k_Events_isTold 1 (.invokestatic 51) 3 4 := ⟨by decide +kernel, rfl⟩
theorem d_Events_isTold_0 : ob_dv ob_lc k_Events_isTold 0 1 1 (.iload_n 1) 1 := ⟨by decide +kernel, rfl, rfl⟩
theorem c_Events_isTold_51 : ob_sd k_Events_isTold k_Events_isThere 51 1 := ⟨cw_Events_isThere, yd_Events_isThere, w_901, w_688, w_7, by decide, by decide⟩
def f_Events_isTold (S : ob_S) (v0 : Nat) (v1 : Int32) (D : ob_D) : Option (Int32 × ob_D) :=
  ob_bd (f_Events_isThere S v1 D) fun x3 D1 => (if x3 = 0 then some ((0 : Int32), D1) else if D1.2.1 v0 1 ≠ 0 then if ob_in v1 (S.2.1 (D1.2.1 v0 1)) then (if (D1.1 (D1.2.1 v0 1) v1.toNatClampNeg) = 0 then some ((1 : Int32), D1) else some ((0 : Int32), D1)) else none else none)
theorem c_Events_isTold {l : Launch} {E : ob_E} {S : ob_S} {D : ob_D} {v0 : Nat} {v1 : Int32} {r : Int32} {D' : ob_D} (hp_v0 : S.1 v0 = 7) (h : f_Events_isTold S v0 v1 D = some (r, D')) : ob_M l E k_Events_isTold [.ref v0, .int v1] S D (some (.int r)) S D' := by
  refine ob_ofV (lo := [(0, .ref v0), (1, .int v1)]) (by decide) rfl (Nat.le_of_ble_eq_true rfl) rfl (Nat.le_refl _) (Nat.le_refl _) ?_
  rw [f_Events_isTold] at h
  refine ob_iload d_Events_isTold_0 rfl ?_
  obtain ⟨x3, D1, h2, h⟩ := ob_bd_e h
  refine ob_callSi (As := [.int v1]) (rest := []) d_Events_isTold_1 c_Events_isTold_51 rfl rfl (Nat.le_of_ble_eq_true rfl) (c_Events_isThere  h2) ⟨Nat.le_refl _, Nat.le_refl _⟩ ⟨Nat.le_refl _, Nat.le_refl _⟩ ?_
  refine ob_if_eq d_Events_isTold_4 (fun hc => ?_) (fun hc => ?_)
  · replace h := ob_ift hc h
    refine ob_push d_Events_isTold_20 ?_
    exact ob_ie h (ob_iret d_Events_isTold_21 rfl rfl)
  · replace h := ob_iff hc h
    refine ob_aload d_Events_isTold_7 rfl ?_
    obtain ⟨hg5, h⟩ := ob_gd h
    refine ob_getR d_Events_isTold_8 F_6_1 l_Events_20 hp_v0 hg5 (fun hk4 => ?_)
    refine ob_iload d_Events_isTold_11 rfl ?_
    obtain ⟨hg6, h⟩ := ob_gd h
    refine ob_zald d_Events_isTold_12 hk4 hg6 ?_
    refine ob_if_ne d_Events_isTold_13 (fun hc => ?_) (fun hc => ?_)
    · replace h := ob_iff hc h
      refine ob_push d_Events_isTold_20 ?_
      exact ob_ie h (ob_iret d_Events_isTold_21 rfl rfl)
    · replace h := ob_ift hc h
      refine ob_push d_Events_isTold_16 ?_
      refine ob_goto d_Events_isTold_17 ?_
      exact ob_ie h (ob_iret d_Events_isTold_21 rfl rfl)
-- OrbitBox$Events.takeAction(ILOrbitBox$Row;)Z
theorem d_Events_takeAction_25 : ob_dk k_Events_takeAction 25 26 (0 : Int32) (.iconst 0) 1 := ⟨by decide +kernel, rfl, show Int32.ofInt 0 = (0 : Int32) by decide +kernel⟩
theorem d_Events_takeAction_26 : ob_dc k_Events_takeAction 26 (.ireturn) 1 27 := ⟨by decide +kernel, rfl⟩
theorem d_Events_takeAction_34 : ob_dk k_Events_takeAction 34 35 (0 : Int32) (.iconst 0) 1 := ⟨by decide +kernel, rfl, show Int32.ofInt 0 = (0 : Int32) by decide +kernel⟩
theorem d_Events_takeAction_47 : ob_dk k_Events_takeAction 47 48 (1 : Int32) (.iconst 1) 1 := ⟨by decide +kernel, rfl, show Int32.ofInt 1 = (1 : Int32) by decide +kernel⟩
theorem d_Events_takeAction_48 : ob_dc k_Events_takeAction 48 (.ireturn) 1 49 := ⟨by decide +kernel, rfl⟩
theorem d_Events_takeAction_44 : ob_dc k_Events_takeAction 44 (.invokevirtual 57) 3 47 := ⟨by decide +kernel, rfl⟩
theorem d_Events_takeAction_41 : ob_dc k_Events_takeAction 41 (.getfield 54) 3 44 := ⟨by decide +kernel, rfl⟩
theorem d_Events_takeAction_40 : ob_dc k_Events_takeAction 40 (.aaload) 1 41 := ⟨by decide +kernel, rfl⟩
theorem d_Events_takeAction_39 : ob_dv ob_lc k_Events_takeAction 39 40 1 (.iload_n 1) 1 := ⟨by decide +kernel, rfl, rfl⟩
theorem d_Events_takeAction_36 : ob_dc k_Events_takeAction 36 (.getfield 32) 3 39 := ⟨by decide +kernel, rfl⟩
theorem d_Events_takeAction_35 : ob_dv ob_ac k_Events_takeAction 35 36 0 (.aload_n 0) 1 := ⟨by decide +kernel, rfl, rfl⟩
theorem d_Events_takeAction_33 : ob_dc k_Events_takeAction 33 (.aaload) 1 34 := ⟨by decide +kernel, rfl⟩
theorem d_Events_takeAction_32 : ob_dv ob_lc k_Events_takeAction 32 33 1 (.iload_n 1) 1 := ⟨by decide +kernel, rfl, rfl⟩
theorem d_Events_takeAction_29 : ob_dc k_Events_takeAction 29 (.getfield 32) 3 32 := ⟨by decide +kernel, rfl⟩
theorem d_Events_takeAction_28 : ob_dv ob_ac k_Events_takeAction 28 29 0 (.aload_n 0) 1 := ⟨by decide +kernel, rfl, rfl⟩
theorem d_Events_takeAction_27 : ob_dv ob_ac k_Events_takeAction 27 28 2 (.aload_n 2) 1 := ⟨by decide +kernel, rfl, rfl⟩
theorem d_Events_takeAction_22 : ob_db k_Events_takeAction 22 (.ifCond .ne 5) 5 25 27 := ⟨by decide +kernel, rfl, by decide⟩
theorem d_Events_takeAction_21 : ob_dc k_Events_takeAction 21 (.baload) 1 22 := ⟨by decide +kernel, rfl⟩
theorem d_Events_takeAction_20 : ob_dv ob_lc k_Events_takeAction 20 21 1 (.iload_n 1) 1 := ⟨by decide +kernel, rfl, rfl⟩
theorem d_Events_takeAction_17 : ob_dc k_Events_takeAction 17 (.getfield 27) 3 20 := ⟨by decide +kernel, rfl⟩
theorem d_Events_takeAction_16 : ob_dv ob_ac k_Events_takeAction 16 17 0 (.aload_n 0) 1 := ⟨by decide +kernel, rfl, rfl⟩
theorem d_Events_takeAction_13 : ob_db k_Events_takeAction 13 (.ifCond .eq 12) 12 16 25 := ⟨by decide +kernel, rfl, by decide⟩
theorem d_Events_takeAction_12 : ob_dc k_Events_takeAction 12 (.baload) 1 13 := ⟨by decide +kernel, rfl⟩
theorem d_Events_takeAction_11 : ob_dv ob_lc k_Events_takeAction 11 12 1 (.iload_n 1) 1 := ⟨by decide +kernel, rfl, rfl⟩
theorem d_Events_takeAction_8 : ob_dc k_Events_takeAction 8 (.getfield 24) 3 11 := ⟨by decide +kernel, rfl⟩
theorem d_Events_takeAction_7 : ob_dv ob_ac k_Events_takeAction 7 8 0 (.aload_n 0) 1 := ⟨by decide +kernel, rfl, rfl⟩
theorem d_Events_takeAction_4 : ob_db k_Events_takeAction 4 (.ifCond .eq 21) 21 7 25 := ⟨by decide +kernel, rfl, by decide⟩
theorem d_Events_takeAction_1 : ob_dc k_Events_takeAction 1 (.invokestatic 51) 3 4 := ⟨by decide +kernel, rfl⟩
theorem d_Events_takeAction_0 : ob_dv ob_lc k_Events_takeAction 0 1 1 (.iload_n 1) 1 := ⟨by decide +kernel, rfl, rfl⟩
theorem c_Events_takeAction_57 : ob_vd k_Events_takeAction k_Row_become 57 3 1 := ⟨cw_Row_become, yd_Row_become, w_910, w_545, w_546, w_2, ⟨_, _, rfl⟩, by decide, by decide⟩
theorem c_Events_takeAction_51 : ob_sd k_Events_takeAction k_Events_isThere 51 1 := ⟨cw_Events_isThere, yd_Events_isThere, w_901, w_688, w_7, by decide, by decide⟩
def f_Events_takeAction (S : ob_S) (v0 : Nat) (v1 : Int32) (v2 : Nat) (D : ob_D) : Option (Int32 × ob_D) :=
  ob_bd (f_Events_isThere S v1 D) fun x3 D1 => (if x3 = 0 then some ((0 : Int32), D1) else if D1.2.1 v0 2 ≠ 0 then if ob_in v1 (S.2.1 (D1.2.1 v0 2)) then (if (D1.1 (D1.2.1 v0 2) v1.toNatClampNeg) = 0 then some ((0 : Int32), D1) else if D1.2.1 v0 3 ≠ 0 then if ob_in v1 (S.2.1 (D1.2.1 v0 3)) then (if (D1.1 (D1.2.1 v0 3) v1.toNatClampNeg) = 0 then some ((0 : Int32), D1) else if D1.2.1 v0 4 ≠ 0 then if ob_in v1 (S.2.1 (D1.2.1 v0 4)) then if D1.2.1 (D1.2.1 v0 4) v1.toNatClampNeg ≠ 0 then if D1.2.1 v0 4 ≠ 0 then if ob_in v1 (S.2.1 (D1.2.1 v0 4)) then if D1.2.1 (D1.2.1 v0 4) v1.toNatClampNeg ≠ 0 then ob_bv (f_Row_become S v2 (D1.2.1 (D1.2.1 v0 4) v1.toNatClampNeg) (0 : Int32) (D1.1 (D1.2.1 (D1.2.1 v0 4) v1.toNatClampNeg) 1) D1) fun D20 => some ((1 : Int32), D20) else none else none else none else none else none else none) else none else none) else none else none)
theorem c_Events_takeAction {l : Launch} {E : ob_E} {S : ob_S} {D : ob_D} {v0 : Nat} {v1 : Int32} {v2 : Nat} {r : Int32} {D' : ob_D} (hp_v0 : S.1 v0 = 7) (hp_v2 : S.1 v2 = 2) (h : f_Events_takeAction S v0 v1 v2 D = some (r, D')) : ob_M l E k_Events_takeAction [.ref v0, .int v1, .ref v2] S D (some (.int r)) S D' := by
  refine ob_ofV (lo := [(0, .ref v0), (1, .int v1), (2, .ref v2)]) (by decide) rfl (Nat.le_of_ble_eq_true rfl) rfl (Nat.le_refl _) (Nat.le_refl _) ?_
  rw [f_Events_takeAction] at h
  refine ob_iload d_Events_takeAction_0 rfl ?_
  obtain ⟨x3, D1, h2, h⟩ := ob_bd_e h
  refine ob_callSi (As := [.int v1]) (rest := []) d_Events_takeAction_1 c_Events_takeAction_51 rfl rfl (Nat.le_of_ble_eq_true rfl) (c_Events_isThere  h2) ⟨Nat.le_refl _, Nat.le_refl _⟩ ⟨Nat.le_refl _, Nat.le_refl _⟩ ?_
  refine ob_if_eq d_Events_takeAction_4 (fun hc => ?_) (fun hc => ?_)
  · replace h := ob_ift hc h
    refine ob_push d_Events_takeAction_25 ?_
    exact ob_ie h (ob_iret d_Events_takeAction_26 rfl rfl)
  · replace h := ob_iff hc h
    refine ob_aload d_Events_takeAction_7 rfl ?_
    obtain ⟨hg5, h⟩ := ob_gd h
    refine ob_getR d_Events_takeAction_8 F_6_2 l_Events_24 hp_v0 hg5 (fun hk4 => ?_)
    refine ob_iload d_Events_takeAction_11 rfl ?_
    obtain ⟨hg6, h⟩ := ob_gd h
    refine ob_zald d_Events_takeAction_12 hk4 hg6 ?_
    refine ob_if_eq d_Events_takeAction_13 (fun hc => ?_) (fun hc => ?_)
    · replace h := ob_ift hc h
      refine ob_push d_Events_takeAction_25 ?_
      exact ob_ie h (ob_iret d_Events_takeAction_26 rfl rfl)
    · replace h := ob_iff hc h
      refine ob_aload d_Events_takeAction_16 rfl ?_
      obtain ⟨hg8, h⟩ := ob_gd h
      refine ob_getR d_Events_takeAction_17 F_6_3 l_Events_27 hp_v0 hg8 (fun hk7 => ?_)
      refine ob_iload d_Events_takeAction_20 rfl ?_
      obtain ⟨hg9, h⟩ := ob_gd h
      refine ob_zald d_Events_takeAction_21 hk7 hg9 ?_
      refine ob_if_ne d_Events_takeAction_22 (fun hc => ?_) (fun hc => ?_)
      · replace h := ob_iff hc h
        refine ob_aload d_Events_takeAction_27 rfl ?_
        refine ob_aload d_Events_takeAction_28 rfl ?_
        obtain ⟨hg11, h⟩ := ob_gd h
        refine ob_getR d_Events_takeAction_29 F_6_4 l_Events_32 hp_v0 hg11 (fun hk10 => ?_)
        refine ob_iload d_Events_takeAction_32 rfl ?_
        obtain ⟨hg12, h⟩ := ob_gd h
        obtain ⟨hz13, h⟩ := ob_gd h
        refine ob_aald (j := 4) (t := 1) d_Events_takeAction_33 hk10 (by decide) rfl rfl rfl hg12 hz13 rfl (fun hk14 => ?_)
        refine ob_push d_Events_takeAction_34 ?_
        refine ob_aload d_Events_takeAction_35 rfl ?_
        obtain ⟨hg16, h⟩ := ob_gd h
        refine ob_getR d_Events_takeAction_36 F_6_4 l_Events_32 hp_v0 hg16 (fun hk15 => ?_)
        refine ob_iload d_Events_takeAction_39 rfl ?_
        obtain ⟨hg17, h⟩ := ob_gd h
        obtain ⟨hz18, h⟩ := ob_gd h
        refine ob_aald (j := 4) (t := 1) d_Events_takeAction_40 hk15 (by decide) rfl rfl rfl hg17 hz18 rfl (fun hk19 => ?_)
        refine ob_getI d_Events_takeAction_41 F_1_1 l_Events_54 hk19 ?_
        obtain ⟨D20, h21, h⟩ := ob_bv_e h
        refine ob_callVv (As := [.ref (D1.2.1 (D1.2.1 v0 4) v1.toNatClampNeg), .int (0 : Int32), .int (D1.1 (D1.2.1 (D1.2.1 v0 4) v1.toNatClampNeg) 1)]) (rest := []) d_Events_takeAction_44 c_Events_takeAction_57 hp_v2 rfl rfl (Nat.le_of_ble_eq_true rfl) (c_Row_become hp_v2 hk14 h21) ⟨Nat.le_refl _, Nat.le_refl _⟩ ⟨Nat.le_refl _, Nat.le_refl _⟩ ?_
        refine ob_push d_Events_takeAction_47 ?_
        exact ob_ie h (ob_iret d_Events_takeAction_48 rfl rfl)
      · replace h := ob_ift hc h
        refine ob_push d_Events_takeAction_25 ?_
        exact ob_ie h (ob_iret d_Events_takeAction_26 rfl rfl)
-- OrbitBox$Events.raisedCount()I
theorem d_Events_raisedCount_7 : ob_dk k_Events_raisedCount 7 8 (2 : Int32) (.iconst 2) 1 := ⟨by decide +kernel, rfl, show Int32.ofInt 2 = (2 : Int32) by decide +kernel⟩
theorem d_Events_raisedCount_9 : ob_dc k_Events_raisedCount 9 (.ireturn) 1 10 := ⟨by decide +kernel, rfl⟩
theorem d_Events_raisedCount_8 : ob_dc k_Events_raisedCount 8 (.idiv) 1 9 := ⟨by decide +kernel, rfl⟩
theorem d_Events_raisedCount_4 : ob_dc k_Events_raisedCount 4 (.getfield 37) 3 7 := ⟨by decide +kernel, rfl⟩
theorem d_Events_raisedCount_1 : ob_dc k_Events_raisedCount 1 (.getfield 16) 3 4 := ⟨by decide +kernel, rfl⟩
theorem d_Events_raisedCount_0 : ob_dv ob_ac k_Events_raisedCount 0 1 0 (.aload_n 0) 1 := ⟨by decide +kernel, rfl, rfl⟩
def f_Events_raisedCount (S : ob_S) (v0 : Nat) (D : ob_D) : Option (Int32 × ob_D) :=
  if D.2.1 v0 0 ≠ 0 then some ((D.1 (D.2.1 v0 0) 2) / (2 : Int32), D) else none
theorem c_Events_raisedCount {l : Launch} {E : ob_E} {S : ob_S} {D : ob_D} {v0 : Nat} {r : Int32} {D' : ob_D} (hp_v0 : S.1 v0 = 7) (h : f_Events_raisedCount S v0 D = some (r, D')) : ob_M l E k_Events_raisedCount [.ref v0] S D (some (.int r)) S D' := by
  refine ob_ofV (lo := [(0, .ref v0)]) (by decide) rfl (Nat.le_of_ble_eq_true rfl) rfl (Nat.le_refl _) (Nat.le_refl _) ?_
  rw [f_Events_raisedCount] at h
  refine ob_aload d_Events_raisedCount_0 rfl ?_
  obtain ⟨hg2, h⟩ := ob_gd h
  refine ob_getR d_Events_raisedCount_1 F_6_0 l_Events_16 hp_v0 hg2 (fun hk1 => ?_)
  refine ob_getI d_Events_raisedCount_4 F_2_2 l_Events_37 hk1 ?_
  refine ob_push d_Events_raisedCount_7 ?_
  refine ob_idiv d_Events_raisedCount_8 (by decide) ?_
  exact ob_ie h (ob_iret d_Events_raisedCount_9 rfl rfl)
-- OrbitBox$Events.loseRest()V
theorem d_Events_loseRest_27 : ob_dc k_Events_loseRest 27 (.return_) 1 28 := ⟨by decide +kernel, rfl⟩
theorem d_Events_loseRest_24 : ob_dc k_Events_loseRest 24 (.invokevirtual 65) 3 27 := ⟨by decide +kernel, rfl⟩
theorem d_Events_loseRest_21 : ob_dc k_Events_loseRest 21 (.getfield 37) 3 24 := ⟨by decide +kernel, rfl⟩
theorem d_Events_loseRest_18 : ob_dc k_Events_loseRest 18 (.getfield 16) 3 21 := ⟨by decide +kernel, rfl⟩
theorem d_Events_loseRest_17 : ob_dv ob_ac k_Events_loseRest 17 18 0 (.aload_n 0) 1 := ⟨by decide +kernel, rfl, rfl⟩
theorem d_Events_loseRest_14 : ob_dc k_Events_loseRest 14 (.getfield 16) 3 17 := ⟨by decide +kernel, rfl⟩
theorem d_Events_loseRest_13 : ob_dv ob_ac k_Events_loseRest 13 14 0 (.aload_n 0) 1 := ⟨by decide +kernel, rfl, rfl⟩
theorem d_Events_loseRest_10 : ob_dc k_Events_loseRest 10 (.putfield 48) 3 13 := ⟨by decide +kernel, rfl⟩
theorem d_Events_loseRest_9 : ob_dc k_Events_loseRest 9 (.iadd) 1 10 := ⟨by decide +kernel, rfl⟩
theorem d_Events_loseRest_6 : ob_dc k_Events_loseRest 6 (.invokevirtual 61) 3 9 := ⟨by decide +kernel, rfl⟩
theorem d_Events_loseRest_5 : ob_dv ob_ac k_Events_loseRest 5 6 0 (.aload_n 0) 1 := ⟨by decide +kernel, rfl, rfl⟩
theorem d_Events_loseRest_2 : ob_dc k_Events_loseRest 2 (.getfield 48) 3 5 := ⟨by decide +kernel, rfl⟩
theorem d_Events_loseRest_1 : ob_dc k_Events_loseRest 1 (.dup) 1 2 := ⟨by decide +kernel, rfl⟩
theorem d_Events_loseRest_0 : ob_dv ob_ac k_Events_loseRest 0 1 0 (.aload_n 0) 1 := ⟨by decide +kernel, rfl, rfl⟩
theorem c_Events_loseRest_65 : ob_vd k_Events_loseRest k_Ring_drop 65 1 2 := ⟨cw_Ring_drop, yd_Ring_drop, w_919, w_648, w_649, w_8, ⟨_, _, rfl⟩, by decide, by decide⟩
theorem c_Events_loseRest_61 : ob_vd k_Events_loseRest k_Events_raisedCount 61 0 6 := ⟨cw_Events_raisedCount, yd_Events_raisedCount, w_915, w_916, w_917, w_7, ⟨_, _, rfl⟩, by decide, by decide⟩
def f_Events_loseRest (S : ob_S) (v0 : Nat) (D : ob_D) : Option (ob_D) :=
  ob_bd (f_Events_raisedCount S v0 D) fun x3 D1 => ob_lt (ob_pI D1 v0 5 ((D.1 v0 5) + x3)) fun D4 => if D4.2.1 v0 0 ≠ 0 then if D4.2.1 v0 0 ≠ 0 then ob_bv (f_Ring_drop S (D4.2.1 v0 0) (D4.1 (D4.2.1 v0 0) 2) D4) fun D9 => some D9 else none else none
theorem c_Events_loseRest {l : Launch} {E : ob_E} {S : ob_S} {D : ob_D} {v0 : Nat} {D' : ob_D} (hp_v0 : S.1 v0 = 7) (h : f_Events_loseRest S v0 D = some D') : ob_M l E k_Events_loseRest [.ref v0] S D none S D' := by
  refine ob_ofV (lo := [(0, .ref v0)]) (by decide) rfl (Nat.le_of_ble_eq_true rfl) rfl (Nat.le_refl _) (Nat.le_refl _) ?_
  rw [f_Events_loseRest] at h
  refine ob_aload d_Events_loseRest_0 rfl ?_
  refine ob_dup d_Events_loseRest_1 rfl ?_
  refine ob_getI d_Events_loseRest_2 F_6_5 l_Events_48 hp_v0 ?_
  refine ob_aload d_Events_loseRest_5 rfl ?_
  obtain ⟨x3, D1, h2, h⟩ := ob_bd_e h
  refine ob_callVi (As := []) (rest := [.int (D.1 v0 5), .ref v0]) d_Events_loseRest_6 c_Events_loseRest_61 hp_v0 rfl rfl (Nat.le_of_ble_eq_true rfl) (c_Events_raisedCount hp_v0 h2) ⟨Nat.le_refl _, Nat.le_refl _⟩ ⟨Nat.le_refl _, Nat.le_refl _⟩ ?_
  refine ob_iadd d_Events_loseRest_9 ?_
  replace h := ob_lt_e h
  refine ob_putI d_Events_loseRest_10 F_6_5 l_Events_48 hp_v0 ?_
  refine ob_aload d_Events_loseRest_13 rfl ?_
  obtain ⟨hg6, h⟩ := ob_gd h
  refine ob_getR d_Events_loseRest_14 F_6_0 l_Events_16 hp_v0 hg6 (fun hk5 => ?_)
  refine ob_aload d_Events_loseRest_17 rfl ?_
  obtain ⟨hg8, h⟩ := ob_gd h
  refine ob_getR d_Events_loseRest_18 F_6_0 l_Events_16 hp_v0 hg8 (fun hk7 => ?_)
  refine ob_getI d_Events_loseRest_21 F_2_2 l_Events_37 hk7 ?_
  obtain ⟨D9, h10, h⟩ := ob_bv_e h
  refine ob_callVv (As := [.int ((ob_pI D1 v0 5 ((D.1 v0 5) + x3)).1 ((ob_pI D1 v0 5 ((D.1 v0 5) + x3)).2.1 v0 0) 2)]) (rest := []) d_Events_loseRest_24 c_Events_loseRest_65 hk5 rfl rfl (Nat.le_of_ble_eq_true rfl) (c_Ring_drop hk5 h10) ⟨Nat.le_refl _, Nat.le_refl _⟩ ⟨Nat.le_refl _, Nat.le_refl _⟩ ?_
  exact ob_ve h (ob_vret d_Events_loseRest_27 rfl)
