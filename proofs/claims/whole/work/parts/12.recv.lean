-- OrbitBox$Receiver.<init>()V
theorem d_Receiver_init_0 : ob_dv ob_ac k_Receiver_init 0 1 0 (.aload_n 0) 1 := ⟨by decide +kernel, rfl, rfl⟩
theorem d_Receiver_init_1 : ob_dc k_Receiver_init 1 (.invokespecial 1) 3 4 := ⟨by decide +kernel, rfl⟩
theorem d_Receiver_init_4 : ob_dv ob_ac k_Receiver_init 4 5 0 (.aload_n 0) 1 := ⟨by decide +kernel, rfl, rfl⟩
theorem d_Receiver_init_5 : ob_dc k_Receiver_init 5 (.new 7) 3 8 := ⟨by decide +kernel, rfl⟩
theorem d_Receiver_init_8 : ob_dc k_Receiver_init 8 (.dup) 1 9 := ⟨by decide +kernel, rfl⟩
theorem d_Receiver_init_9 : ob_dk k_Receiver_init 9 12 (259 : Int32) (.sipush 259) 3 := ⟨by decide +kernel, rfl, show (Int16.ofInt 259).toInt32 = (259 : Int32) by decide +kernel⟩
theorem d_Receiver_init_12 : ob_dc k_Receiver_init 12 (.invokespecial 11) 3 15 := ⟨by decide +kernel, rfl⟩
theorem d_Receiver_init_15 : ob_dc k_Receiver_init 15 (.putfield 14) 3 18 := ⟨by decide +kernel, rfl⟩
theorem d_Receiver_init_18 : ob_dc k_Receiver_init 18 (.return_) 1 19 := ⟨by decide +kernel, rfl⟩
theorem c_Receiver_init_11 : ob_id k_Receiver_init k_Row_init 11 1 := ⟨cw_Row_init, yd_Row_init, w_60, w_32, w_2, ⟨by decide, by decide⟩, rfl, rfl⟩
def f_Receiver_init (v0 : Nat) (S : ob_S) (D : ob_D) : Option (ob_S × ob_D) :=
  ob_lt (ob_new S 2 0 2) fun S1 => ob_lt (ob_z D S.2.2.1) fun D2 => ob_bd (f_Row_init (S.2.2.1) (259 : Int32) S1 D2) fun S7 D8 => ob_lt (ob_pR D8 v0 0 (S.2.2.1)) fun D12 => some (S7, D12)
theorem e_Receiver_init {v0 : Nat} {S T : ob_S} {D D' : ob_D} (h : f_Receiver_init v0 S D = some (T, D')) : ob_ext S T := by
  rw [f_Receiver_init] at h
  obtain ⟨S1, hS3, h⟩ := ob_lt_x h
  obtain ⟨D2, hD4, h⟩ := ob_lt_x h
  obtain ⟨S7, D8, h9, h⟩ := ob_bd_e h
  obtain ⟨D12, hD13, h⟩ := ob_lt_x h
  obtain ⟨he1, he2⟩ := ob_pe h
  have x_S7 : ob_ext S7 T := ob_ext_eq he1
  have x_S1 : ob_ext S1 T := (e_Row_init h9).tr x_S7
  have x_S : ob_ext S T := (ob_ext_new hS3).tr x_S1
  exact x_S
theorem c_Receiver_init {l : Launch} {E : ob_E} {S T : ob_S} {D D' : ob_D} {v0 : Nat} (hp_v0 : S.1 v0 = 4) (h : f_Receiver_init v0 S D = some (T, D')) : ob_M l E k_Receiver_init [.ref v0] S D none T D' := by
  have xx := e_Receiver_init h
  refine ob_ofV (lo := [(0, .ref v0)]) (by decide) rfl (Nat.le_of_ble_eq_true rfl) rfl xx.1 xx.2.1 ?_
  rw [f_Receiver_init] at h
  refine ob_withH fun H0 hH0 => ?_
  have kd_v0 := ob_kdH hH0 hp_v0
  obtain ⟨S1, hS3, h⟩ := ob_lt_x h
  obtain ⟨D2, hD4, h⟩ := ob_lt_x h
  obtain ⟨S7, D8, h9, h⟩ := ob_bd_e h
  obtain ⟨D12, hD13, h⟩ := ob_lt_x h
  obtain ⟨he1, he2⟩ := ob_pe h
  have x_S7 : ob_ext S7 T := ob_ext_eq he1
  have x_S1 : ob_ext S1 T := (e_Row_init h9).tr x_S7
  have x_S : ob_ext S T := (ob_ext_new hS3).tr x_S1
  refine ob_aload d_Receiver_init_0 rfl ?_
  refine ob_objI d_Receiver_init_1 w_58 w_27 w_28 (by decide) (Nat.le_of_ble_eq_true rfl) ?_
  refine ob_aload d_Receiver_init_4 rfl ?_
  refine ob_newO d_Receiver_init_5 N_1 w_59 hS3 hD4 x_S1 ?_
  have hk5 := ob_kd_new hS3 kd_v0
  have hk6 : ob_kd S1 S.2.2.1 2 := ob_kd_this hS3 (by decide)
  refine ob_dup d_Receiver_init_8 rfl ?_
  refine ob_push d_Receiver_init_9 ?_
  refine ob_callI (As := [.int (259 : Int32)]) (rest := [.ref (S.2.2.1), .ref v0]) d_Receiver_init_12 c_Receiver_init_11 rfl rfl (Nat.le_of_ble_eq_true rfl) (c_Row_init hk6.1 h9) (ob_ext_m (e_Row_init h9)) (ob_ext_m x_S7) ?_
  have hk10 := ob_kd_ext (e_Row_init h9) hk5
  have hk11 := ob_kd_ext (e_Row_init h9) hk6
  refine ob_xI hD13 (ob_putFR d_Receiver_init_15 F_3_0 w_61 ⟨rfl, rfl⟩ (fty := (.object "OrbitBox$Row")) (by decide) rfl rfl hk10.1 hk11.1) ?_
  exact ob_vee he1 he2 (ob_vret d_Receiver_init_18 rfl)
-- OrbitBox$Gate.<init>()V
theorem d_Gate_init_0 : ob_dv ob_ac k_Gate_init 0 1 0 (.aload_n 0) 1 := ⟨by decide +kernel, rfl, rfl⟩
theorem d_Gate_init_1 : ob_dc k_Gate_init 1 (.invokespecial 3) 3 4 := ⟨by decide +kernel, rfl⟩
theorem d_Gate_init_4 : ob_dv ob_ac k_Gate_init 4 5 0 (.aload_n 0) 1 := ⟨by decide +kernel, rfl, rfl⟩
theorem d_Gate_init_5 : ob_dk k_Gate_init 5 7 (8 : Int32) (.bipush 8) 2 := ⟨by decide +kernel, rfl, show (Int8.ofInt 8).toInt32 = (8 : Int32) by decide +kernel⟩
theorem d_Gate_init_7 : ob_dc k_Gate_init 7 (.anewarray 11) 3 10 := ⟨by decide +kernel, rfl⟩
theorem d_Gate_init_10 : ob_dc k_Gate_init 10 (.putfield 13) 3 13 := ⟨by decide +kernel, rfl⟩
theorem d_Gate_init_13 : ob_dk k_Gate_init 13 14 (0 : Int32) (.iconst 0) 1 := ⟨by decide +kernel, rfl, show Int32.ofInt 0 = (0 : Int32) by decide +kernel⟩
theorem d_Gate_init_14 : ob_dv (ob_sc k_Gate_init.2.2.2.1) k_Gate_init 14 15 1 (.istore_n 1) 1 := ⟨by decide +kernel, rfl, ⟨rfl, by decide +kernel⟩⟩
theorem d_Gate_init_15 : ob_dv ob_lc k_Gate_init 15 16 1 (.iload_n 1) 1 := ⟨by decide +kernel, rfl, rfl⟩
theorem d_Gate_init_16 : ob_dk k_Gate_init 16 18 (8 : Int32) (.bipush 8) 2 := ⟨by decide +kernel, rfl, show (Int8.ofInt 8).toInt32 = (8 : Int32) by decide +kernel⟩
theorem d_Gate_init_43 : ob_dv ob_ac k_Gate_init 43 44 0 (.aload_n 0) 1 := ⟨by decide +kernel, rfl, rfl⟩
theorem d_Gate_init_44 : ob_dk k_Gate_init 44 45 (1 : Int32) (.iconst 1) 1 := ⟨by decide +kernel, rfl, show Int32.ofInt 1 = (1 : Int32) by decide +kernel⟩
theorem d_Gate_init_45 : ob_dc k_Gate_init 45 (.putfield 20) 3 48 := ⟨by decide +kernel, rfl⟩
theorem d_Gate_init_48 : ob_dc k_Gate_init 48 (.return_) 1 49 := ⟨by decide +kernel, rfl⟩
theorem d_Gate_init_21 : ob_dv ob_ac k_Gate_init 21 22 0 (.aload_n 0) 1 := ⟨by decide +kernel, rfl, rfl⟩
theorem d_Gate_init_22 : ob_dc k_Gate_init 22 (.getfield 13) 3 25 := ⟨by decide +kernel, rfl⟩
theorem d_Gate_init_25 : ob_dv ob_lc k_Gate_init 25 26 1 (.iload_n 1) 1 := ⟨by decide +kernel, rfl, rfl⟩
theorem d_Gate_init_26 : ob_dc k_Gate_init 26 (.new 11) 3 29 := ⟨by decide +kernel, rfl⟩
theorem d_Gate_init_29 : ob_dc k_Gate_init 29 (.dup) 1 30 := ⟨by decide +kernel, rfl⟩
theorem d_Gate_init_30 : ob_dk k_Gate_init 30 33 (252 : Int32) (.sipush 252) 3 := ⟨by decide +kernel, rfl, show (Int16.ofInt 252).toInt32 = (252 : Int32) by decide +kernel⟩
theorem d_Gate_init_33 : ob_dc k_Gate_init 33 (.invokespecial 17) 3 36 := ⟨by decide +kernel, rfl⟩
theorem d_Gate_init_36 : ob_dc k_Gate_init 36 (.aastore) 1 37 := ⟨by decide +kernel, rfl⟩
theorem d_Gate_init_37 : ob_di k_Gate_init 37 40 1 1 (1 : Int32) := ⟨by decide +kernel, rfl, by decide +kernel, by decide +kernel⟩
theorem d_Gate_init_40 : ob_db k_Gate_init 40 (.goto (-25)) (-25) 43 15 := ⟨by decide +kernel, rfl, by decide⟩
theorem d_Gate_init_18 : ob_db k_Gate_init 18 (.if_icmp .ge 25) 25 21 43 := ⟨by decide +kernel, rfl, by decide⟩
theorem c_Gate_init_17 : ob_id k_Gate_init k_Row_init 17 1 := ⟨cw_Row_init, yd_Row_init, w_94, w_32, w_2, ⟨by decide, by decide⟩, rfl, rfl⟩
def f_Gate_init_L15 : Nat → Nat → Int32 → ob_S → ob_D → Option (ob_S × ob_D)
  | 0, _, _, _, _ => none
  | n + 1, v0, v1, S, D => (if (8 : Int32) ≤ v1 then ob_lt (ob_pI D v0 3 (1 : Int32)) fun D10 => some (S, D10) else ob_gt (D.2.1 v0 0 ≠ 0) <| ob_lt (ob_new S 2 0 2) fun S16 => ob_lt (ob_z D S.2.2.1) fun D17 => ob_bd (f_Row_init (S.2.2.1) (252 : Int32) S16 D17) fun S23 D24 => ob_gt (ob_in v1 (S23.2.1 (D.2.1 v0 0))) <| ob_lt (ob_pR D24 (D.2.1 v0 0) v1.toNatClampNeg (S.2.2.1)) fun D30 => f_Gate_init_L15 n v0 (v1 + (1 : Int32)) S23 D30)
theorem e_Gate_init_L15 {T : ob_S} {D' : ob_D} : ∀ (n : Nat) (v0 : Nat) (v1 : Int32) (S : ob_S) (D : ob_D), f_Gate_init_L15 n v0 v1 S D = some (T, D') → ob_ext S T := by
  intro n
  induction n with
  | zero =>
    intro v0 v1 S D h
    have h : none = some (T, D') := h
    cases h
  | succ n ih =>
    intro v0 v1 S D h
    rw [f_Gate_init_L15] at h
    by_cases hc : (8 : Int32) ≤ v1
    · replace h := ob_ift hc h
      obtain ⟨D10, hD11, h⟩ := ob_lt_x h
      obtain ⟨he1, he2⟩ := ob_pe h
      have x_S : ob_ext S T := ob_ext_eq he1
      exact x_S
    · replace h := ob_iff hc h
      obtain ⟨hg12, h⟩ := ob_gt_e h
      obtain ⟨S16, hS18, h⟩ := ob_lt_x h
      obtain ⟨D17, hD19, h⟩ := ob_lt_x h
      obtain ⟨S23, D24, h25, h⟩ := ob_bd_e h
      obtain ⟨hg29, h⟩ := ob_gt_e h
      obtain ⟨D30, hD31, h⟩ := ob_lt_x h
      have x_S23 : ob_ext S23 T := ih v0 (v1 + (1 : Int32)) S23 D30 h
      have x_S16 : ob_ext S16 T := (e_Row_init h25).tr x_S23
      have x_S : ob_ext S T := (ob_ext_new hS18).tr x_S16
      exact x_S
theorem v_Gate_init_L15 {l : Launch} {E : ob_E} {T : ob_S} {D' : ob_D} : ∀ (n : Nat) (v0 : Nat) (v1 : Int32) (S : ob_S) (D : ob_D), S.1 v0 = 5 → f_Gate_init_L15 n v0 v1 S D = some (T, D') → ob_V l E k_Gate_init 15 [(0, .ref v0), (1, .int v1)] [] S D none T D' := by
  intro n
  induction n with
  | zero =>
    intro v0 v1 S D hp_v0 h
    have h : none = some (T, D') := h
    cases h
  | succ n ih =>
    have ex := fun v0 v1 S D => @e_Gate_init_L15 T D' n v0 v1 S D
    intro v0 v1 S D hp_v0 h
    rw [f_Gate_init_L15] at h
    refine ob_withH fun H0 hH0 => ?_
    have kd_v0 := ob_kdH hH0 hp_v0
    refine ob_iload d_Gate_init_15 rfl ?_
    refine ob_push d_Gate_init_16 ?_
    refine ob_icmp_ge d_Gate_init_18 (fun hc => ?_) (fun hc => ?_)
    · replace h := ob_ift hc h
      obtain ⟨D10, hD11, h⟩ := ob_lt_x h
      obtain ⟨he1, he2⟩ := ob_pe h
      have x_S : ob_ext S T := ob_ext_eq he1
      refine ob_aload d_Gate_init_43 rfl ?_
      refine ob_push d_Gate_init_44 ?_
      refine ob_xI hD11 (ob_putI d_Gate_init_45 F_4_3 l_Gate_20 kd_v0.1) ?_
      exact ob_vee he1 he2 (ob_vret d_Gate_init_48 rfl)
    · replace h := ob_iff hc h
      obtain ⟨hg12, h⟩ := ob_gt_e h
      obtain ⟨S16, hS18, h⟩ := ob_lt_x h
      obtain ⟨D17, hD19, h⟩ := ob_lt_x h
      obtain ⟨S23, D24, h25, h⟩ := ob_bd_e h
      obtain ⟨hg29, h⟩ := ob_gt_e h
      obtain ⟨D30, hD31, h⟩ := ob_lt_x h
      have x_S23 : ob_ext S23 T := ex v0 (v1 + (1 : Int32)) S23 D30 h
      have x_S16 : ob_ext S16 T := (e_Row_init h25).tr x_S23
      have x_S : ob_ext S T := (ob_ext_new hS18).tr x_S16
      refine ob_aload d_Gate_init_21 rfl ?_
      refine ob_getR d_Gate_init_22 F_4_0 l_Gate_13 kd_v0.1 hg12 (fun hk13 => ?_)
      refine ob_withH fun H14 hH14 => ?_
      have hk15 := ob_kdH hH14 hk13
      refine ob_iload d_Gate_init_25 rfl ?_
      refine ob_newO d_Gate_init_26 N_1 w_92 hS18 hD19 x_S16 ?_
      have hk20 := ob_kd_new hS18 kd_v0
      have hk21 := ob_kd_new hS18 hk15
      have hk22 : ob_kd S16 S.2.2.1 2 := ob_kd_this hS18 (by decide)
      refine ob_dup d_Gate_init_29 rfl ?_
      refine ob_push d_Gate_init_30 ?_
      refine ob_callI (As := [.int (252 : Int32)]) (rest := [.ref (S.2.2.1), .int v1, .ref (D.2.1 v0 0)]) d_Gate_init_33 c_Gate_init_17 rfl rfl (Nat.le_of_ble_eq_true rfl) (c_Row_init hk22.1 h25) (ob_ext_m (e_Row_init h25)) (ob_ext_m x_S23) ?_
      have hk26 := ob_kd_ext (e_Row_init h25) hk20
      have hk27 := ob_kd_ext (e_Row_init h25) hk22
      have hk28 := ob_kd_ext (e_Row_init h25) hk21
      refine ob_xI hD31 (ob_aast d_Gate_init_36 hk28.1 hk27.1 hg29) ?_
      refine ob_iinc (lo2 := [(0, .ref v0), (1, .int (v1 + (1 : Int32)))]) d_Gate_init_37 rfl rfl ?_
      refine ob_goto d_Gate_init_40 ?_
      exact ih v0 (v1 + (1 : Int32)) S23 D30 hk26.1 h
def f_Gate_init (v0 : Nat) (S : ob_S) (D : ob_D) : Option (ob_S × ob_D) :=
  ob_gt (¬ (8 : Int32) < 0 ∧ (8 : Int32).toNatClampNeg ≤ 67108864) <| ob_lt (ob_new S 24 (8 : Int32).toNatClampNeg (8 : Int32).toNatClampNeg) fun S1 => ob_lt (ob_z D S.2.2.1) fun D2 => ob_lt (ob_pR D2 v0 0 (S.2.2.1)) fun D8 => f_Gate_init_L15 ob_FU v0 (0 : Int32) S1 D8
theorem e_Gate_init {v0 : Nat} {S T : ob_S} {D D' : ob_D} (h : f_Gate_init v0 S D = some (T, D')) : ob_ext S T := by
  rw [f_Gate_init] at h
  obtain ⟨hg5, h⟩ := ob_gt_e h
  obtain ⟨S1, hS3, h⟩ := ob_lt_x h
  obtain ⟨D2, hD4, h⟩ := ob_lt_x h
  obtain ⟨D8, hD9, h⟩ := ob_lt_x h
  have x_S1 : ob_ext S1 T := e_Gate_init_L15 ob_FU v0 (0 : Int32) S1 D8 h
  have x_S : ob_ext S T := (ob_ext_new hS3).tr x_S1
  exact x_S
theorem c_Gate_init {l : Launch} {E : ob_E} {S T : ob_S} {D D' : ob_D} {v0 : Nat} (hp_v0 : S.1 v0 = 5) (h : f_Gate_init v0 S D = some (T, D')) : ob_M l E k_Gate_init [.ref v0] S D none T D' := by
  have xx := e_Gate_init h
  refine ob_ofV (lo := [(0, .ref v0)]) (by decide) rfl (Nat.le_of_ble_eq_true rfl) rfl xx.1 xx.2.1 ?_
  rw [f_Gate_init] at h
  refine ob_withH fun H0 hH0 => ?_
  have kd_v0 := ob_kdH hH0 hp_v0
  obtain ⟨hg5, h⟩ := ob_gt_e h
  obtain ⟨S1, hS3, h⟩ := ob_lt_x h
  obtain ⟨D2, hD4, h⟩ := ob_lt_x h
  obtain ⟨D8, hD9, h⟩ := ob_lt_x h
  have x_S1 : ob_ext S1 T := e_Gate_init_L15 ob_FU v0 (0 : Int32) S1 D8 h
  have x_S : ob_ext S T := (ob_ext_new hS3).tr x_S1
  refine ob_aload d_Gate_init_0 rfl ?_
  refine ob_objI d_Gate_init_1 w_91 w_27 w_28 (by decide) (Nat.le_of_ble_eq_true rfl) ?_
  refine ob_aload d_Gate_init_4 rfl ?_
  refine ob_push d_Gate_init_5 ?_
  refine ob_newRx d_Gate_init_7 w_92 hg5 hS3 hD4 x_S1 ?_
  have hk6 := ob_kd_new hS3 kd_v0
  have hk7 : ob_kd S1 S.2.2.1 24 := ob_kd_this hS3 (by decide)
  refine ob_xI hD9 (ob_putFR d_Gate_init_10 F_4_0 w_95 ⟨rfl, rfl⟩ (fty := (.array (.object "OrbitBox$Row"))) (by decide) rfl rfl hk6.1 hk7.1) ?_
  refine ob_push d_Gate_init_13 ?_
  refine ob_istore (lo2 := [(0, .ref v0), (1, .int (0 : Int32))]) d_Gate_init_14 rfl ?_
  exact v_Gate_init_L15 ob_FU v0 (0 : Int32) S1 D8 hk6.1 h
-- OrbitBox$Receiver.divide(I)V
theorem d_Receiver_divide_5 : ob_dk k_Receiver_divide 5 6 (1 : Int32) (.iconst 1) 1 := ⟨by decide +kernel, rfl, show Int32.ofInt 1 = (1 : Int32) by decide +kernel⟩
theorem d_Receiver_divide_16 : ob_dk k_Receiver_divide 16 18 (127 : Int32) (.bipush 127) 2 := ⟨by decide +kernel, rfl, show (Int8.ofInt 127).toInt32 = (127 : Int32) by decide +kernel⟩
theorem d_Receiver_divide_33 : ob_dc k_Receiver_divide 33 (.return_) 1 34 := ⟨by decide +kernel, rfl⟩
theorem d_Receiver_divide_26 : ob_dk k_Receiver_divide 26 29 (197 : Int32) (.sipush 197) 3 := ⟨by decide +kernel, rfl, show (Int16.ofInt 197).toInt32 = (197 : Int32) by decide +kernel⟩
theorem d_Receiver_divide_30 : ob_dc k_Receiver_divide 30 (.putfield 57) 3 33 := ⟨by decide +kernel, rfl⟩
theorem d_Receiver_divide_29 : ob_dc k_Receiver_divide 29 (.ixor) 1 30 := ⟨by decide +kernel, rfl⟩
theorem d_Receiver_divide_23 : ob_dc k_Receiver_divide 23 (.getfield 57) 3 26 := ⟨by decide +kernel, rfl⟩
theorem d_Receiver_divide_22 : ob_dc k_Receiver_divide 22 (.dup) 1 23 := ⟨by decide +kernel, rfl⟩
theorem d_Receiver_divide_21 : ob_dv ob_ac k_Receiver_divide 21 22 0 (.aload_n 0) 1 := ⟨by decide +kernel, rfl, rfl⟩
theorem d_Receiver_divide_18 : ob_db k_Receiver_divide 18 (.if_icmp .le 15) 15 21 33 := ⟨by decide +kernel, rfl, by decide⟩
theorem d_Receiver_divide_13 : ob_dc k_Receiver_divide 13 (.getfield 57) 3 16 := ⟨by decide +kernel, rfl⟩
theorem d_Receiver_divide_12 : ob_dv ob_ac k_Receiver_divide 12 13 0 (.aload_n 0) 1 := ⟨by decide +kernel, rfl, rfl⟩
theorem d_Receiver_divide_9 : ob_dc k_Receiver_divide 9 (.putfield 57) 3 12 := ⟨by decide +kernel, rfl⟩
theorem d_Receiver_divide_8 : ob_dc k_Receiver_divide 8 (.ior) 1 9 := ⟨by decide +kernel, rfl⟩
theorem d_Receiver_divide_7 : ob_dv ob_lc k_Receiver_divide 7 8 1 (.iload_n 1) 1 := ⟨by decide +kernel, rfl, rfl⟩
theorem d_Receiver_divide_6 : ob_dc k_Receiver_divide 6 (.ishl) 1 7 := ⟨by decide +kernel, rfl⟩
theorem d_Receiver_divide_2 : ob_dc k_Receiver_divide 2 (.getfield 57) 3 5 := ⟨by decide +kernel, rfl⟩
theorem d_Receiver_divide_1 : ob_dv ob_ac k_Receiver_divide 1 2 0 (.aload_n 0) 1 := ⟨by decide +kernel, rfl, rfl⟩
theorem d_Receiver_divide_0 : ob_dv ob_ac k_Receiver_divide 0 1 0 (.aload_n 0) 1 := ⟨by decide +kernel, rfl, rfl⟩
def f_Receiver_divide (S : ob_S) (v0 : Nat) (v1 : Int32) (D : ob_D) : Option (ob_D) :=
  ob_lt (ob_pI D v0 5 (((D.1 v0 5) <<< ((1 : Int32) &&& 31)) ||| v1)) fun D1 => (if (D1.1 v0 5) ≤ (127 : Int32) then some D1 else ob_lt (ob_pI D1 v0 5 ((D1.1 v0 5) ^^^ (197 : Int32))) fun D2 => some D2)
theorem c_Receiver_divide {l : Launch} {E : ob_E} {S : ob_S} {D : ob_D} {v0 : Nat} {v1 : Int32} {D' : ob_D} (hp_v0 : S.1 v0 = 4) (h : f_Receiver_divide S v0 v1 D = some D') : ob_M l E k_Receiver_divide [.ref v0, .int v1] S D none S D' := by
  refine ob_ofV (lo := [(0, .ref v0), (1, .int v1)]) (by decide) rfl (Nat.le_of_ble_eq_true rfl) rfl (Nat.le_refl _) (Nat.le_refl _) ?_
  rw [f_Receiver_divide] at h
  refine ob_aload d_Receiver_divide_0 rfl ?_
  refine ob_aload d_Receiver_divide_1 rfl ?_
  refine ob_getI d_Receiver_divide_2 F_3_5 l_Receiver_57 hp_v0 ?_
  refine ob_push d_Receiver_divide_5 ?_
  refine ob_ishl d_Receiver_divide_6 ?_
  refine ob_iload d_Receiver_divide_7 rfl ?_
  refine ob_ior d_Receiver_divide_8 ?_
  replace h := ob_lt_e h
  refine ob_putI d_Receiver_divide_9 F_3_5 l_Receiver_57 hp_v0 ?_
  refine ob_aload d_Receiver_divide_12 rfl ?_
  refine ob_getI d_Receiver_divide_13 F_3_5 l_Receiver_57 hp_v0 ?_
  refine ob_push d_Receiver_divide_16 ?_
  refine ob_icmp_le d_Receiver_divide_18 (fun hc => ?_) (fun hc => ?_)
  · replace h := ob_ift hc h
    exact ob_ve h (ob_vret d_Receiver_divide_33 rfl)
  · replace h := ob_iff hc h
    refine ob_aload d_Receiver_divide_21 rfl ?_
    refine ob_dup d_Receiver_divide_22 rfl ?_
    refine ob_getI d_Receiver_divide_23 F_3_5 l_Receiver_57 hp_v0 ?_
    refine ob_push d_Receiver_divide_26 ?_
    refine ob_ixor d_Receiver_divide_29 ?_
    replace h := ob_lt_e h
    refine ob_putI d_Receiver_divide_30 F_3_5 l_Receiver_57 hp_v0 ?_
    exact ob_ve h (ob_vret d_Receiver_divide_33 rfl)
-- OrbitBox$Receiver.turnWrongBit()Z
theorem d_Receiver_turnWrongBit_0 : ob_dk k_Receiver_turnWrongBit 0 1 (1 : Int32) (.iconst 1) 1 := ⟨by decide +kernel, rfl, show Int32.ofInt 1 = (1 : Int32) by decide +kernel⟩
theorem d_Receiver_turnWrongBit_2 : ob_dk k_Receiver_turnWrongBit 2 3 (0 : Int32) (.iconst 0) 1 := ⟨by decide +kernel, rfl, show Int32.ofInt 0 = (0 : Int32) by decide +kernel⟩
theorem d_Receiver_turnWrongBit_5 : ob_dk k_Receiver_turnWrongBit 5 7 (63 : Int32) (.bipush 63) 2 := ⟨by decide +kernel, rfl, show (Int8.ofInt 63).toInt32 = (63 : Int32) by decide +kernel⟩
theorem d_Receiver_turnWrongBit_66 : ob_dk k_Receiver_turnWrongBit 66 67 (0 : Int32) (.iconst 0) 1 := ⟨by decide +kernel, rfl, show Int32.ofInt 0 = (0 : Int32) by decide +kernel⟩
theorem d_Receiver_turnWrongBit_67 : ob_dc k_Receiver_turnWrongBit 67 (.ireturn) 1 68 := ⟨by decide +kernel, rfl⟩
theorem d_Receiver_turnWrongBit_45 : ob_dk k_Receiver_turnWrongBit 45 46 (1 : Int32) (.iconst 1) 1 := ⟨by decide +kernel, rfl, show Int32.ofInt 1 = (1 : Int32) by decide +kernel⟩
theorem d_Receiver_turnWrongBit_49 : ob_dk k_Receiver_turnWrongBit 49 51 (127 : Int32) (.bipush 127) 2 := ⟨by decide +kernel, rfl, show (Int8.ofInt 127).toInt32 = (127 : Int32) by decide +kernel⟩
theorem d_Receiver_turnWrongBit_60 : ob_di k_Receiver_turnWrongBit 60 63 2 1 (1 : Int32) := ⟨by decide +kernel, rfl, by decide +kernel, by decide +kernel⟩
theorem d_Receiver_turnWrongBit_63 : ob_db k_Receiver_turnWrongBit 63 (.goto (-59)) (-59) 66 4 := ⟨by decide +kernel, rfl, by decide⟩
theorem d_Receiver_turnWrongBit_55 : ob_dk k_Receiver_turnWrongBit 55 58 (197 : Int32) (.sipush 197) 3 := ⟨by decide +kernel, rfl, show (Int16.ofInt 197).toInt32 = (197 : Int32) by decide +kernel⟩
theorem d_Receiver_turnWrongBit_59 : ob_dv (ob_sc k_Receiver_turnWrongBit.2.2.2.1) k_Receiver_turnWrongBit 59 60 1 (.istore_n 1) 1 := ⟨by decide +kernel, rfl, ⟨rfl, by decide +kernel⟩⟩
theorem d_Receiver_turnWrongBit_58 : ob_dc k_Receiver_turnWrongBit 58 (.ixor) 1 59 := ⟨by decide +kernel, rfl⟩
theorem d_Receiver_turnWrongBit_54 : ob_dv ob_lc k_Receiver_turnWrongBit 54 55 1 (.iload_n 1) 1 := ⟨by decide +kernel, rfl, rfl⟩
theorem d_Receiver_turnWrongBit_51 : ob_db k_Receiver_turnWrongBit 51 (.if_icmp .le 9) 9 54 60 := ⟨by decide +kernel, rfl, by decide⟩
theorem d_Receiver_turnWrongBit_48 : ob_dv ob_lc k_Receiver_turnWrongBit 48 49 1 (.iload_n 1) 1 := ⟨by decide +kernel, rfl, rfl⟩
theorem d_Receiver_turnWrongBit_47 : ob_dv (ob_sc k_Receiver_turnWrongBit.2.2.2.1) k_Receiver_turnWrongBit 47 48 1 (.istore_n 1) 1 := ⟨by decide +kernel, rfl, ⟨rfl, by decide +kernel⟩⟩
theorem d_Receiver_turnWrongBit_46 : ob_dc k_Receiver_turnWrongBit 46 (.ishl) 1 47 := ⟨by decide +kernel, rfl⟩
theorem d_Receiver_turnWrongBit_44 : ob_dv ob_lc k_Receiver_turnWrongBit 44 45 1 (.iload_n 1) 1 := ⟨by decide +kernel, rfl, rfl⟩
theorem d_Receiver_turnWrongBit_25 : ob_dk k_Receiver_turnWrongBit 25 26 (1 : Int32) (.iconst 1) 1 := ⟨by decide +kernel, rfl, show Int32.ofInt 1 = (1 : Int32) by decide +kernel⟩
theorem d_Receiver_turnWrongBit_37 : ob_dk k_Receiver_turnWrongBit 37 38 (1 : Int32) (.iconst 1) 1 := ⟨by decide +kernel, rfl, show Int32.ofInt 1 = (1 : Int32) by decide +kernel⟩
theorem d_Receiver_turnWrongBit_42 : ob_dk k_Receiver_turnWrongBit 42 43 (1 : Int32) (.iconst 1) 1 := ⟨by decide +kernel, rfl, show Int32.ofInt 1 = (1 : Int32) by decide +kernel⟩
theorem d_Receiver_turnWrongBit_43 : ob_dc k_Receiver_turnWrongBit 43 (.ireturn) 1 44 := ⟨by decide +kernel, rfl⟩
theorem d_Receiver_turnWrongBit_39 : ob_dc k_Receiver_turnWrongBit 39 (.putfield 74) 3 42 := ⟨by decide +kernel, rfl⟩
theorem d_Receiver_turnWrongBit_38 : ob_dc k_Receiver_turnWrongBit 38 (.iadd) 1 39 := ⟨by decide +kernel, rfl⟩
theorem d_Receiver_turnWrongBit_34 : ob_dc k_Receiver_turnWrongBit 34 (.getfield 74) 3 37 := ⟨by decide +kernel, rfl⟩
theorem d_Receiver_turnWrongBit_33 : ob_dc k_Receiver_turnWrongBit 33 (.dup) 1 34 := ⟨by decide +kernel, rfl⟩
theorem d_Receiver_turnWrongBit_32 : ob_dv ob_ac k_Receiver_turnWrongBit 32 33 0 (.aload_n 0) 1 := ⟨by decide +kernel, rfl, rfl⟩
theorem d_Receiver_turnWrongBit_29 : ob_dc k_Receiver_turnWrongBit 29 (.putfield 53) 3 32 := ⟨by decide +kernel, rfl⟩
theorem d_Receiver_turnWrongBit_28 : ob_dc k_Receiver_turnWrongBit 28 (.lxor) 1 29 := ⟨by decide +kernel, rfl⟩
theorem d_Receiver_turnWrongBit_27 : ob_dc k_Receiver_turnWrongBit 27 (.lshl) 1 28 := ⟨by decide +kernel, rfl⟩
theorem d_Receiver_turnWrongBit_26 : ob_dc k_Receiver_turnWrongBit 26 (.iadd) 1 27 := ⟨by decide +kernel, rfl⟩
theorem d_Receiver_turnWrongBit_24 : ob_dv ob_lc k_Receiver_turnWrongBit 24 25 2 (.iload_n 2) 1 := ⟨by decide +kernel, rfl, rfl⟩
theorem d_Receiver_turnWrongBit_23 : ob_dc k_Receiver_turnWrongBit 23 (.lconst 1) 1 24 := ⟨by decide +kernel, rfl⟩
theorem d_Receiver_turnWrongBit_20 : ob_dc k_Receiver_turnWrongBit 20 (.getfield 53) 3 23 := ⟨by decide +kernel, rfl⟩
theorem d_Receiver_turnWrongBit_19 : ob_dc k_Receiver_turnWrongBit 19 (.dup) 1 20 := ⟨by decide +kernel, rfl⟩
theorem d_Receiver_turnWrongBit_18 : ob_dv ob_ac k_Receiver_turnWrongBit 18 19 0 (.aload_n 0) 1 := ⟨by decide +kernel, rfl, rfl⟩
theorem d_Receiver_turnWrongBit_15 : ob_db k_Receiver_turnWrongBit 15 (.if_icmp .ne 29) 29 18 44 := ⟨by decide +kernel, rfl, by decide⟩
theorem d_Receiver_turnWrongBit_12 : ob_dc k_Receiver_turnWrongBit 12 (.getfield 57) 3 15 := ⟨by decide +kernel, rfl⟩
theorem d_Receiver_turnWrongBit_11 : ob_dv ob_ac k_Receiver_turnWrongBit 11 12 0 (.aload_n 0) 1 := ⟨by decide +kernel, rfl, rfl⟩
theorem d_Receiver_turnWrongBit_10 : ob_dv ob_lc k_Receiver_turnWrongBit 10 11 1 (.iload_n 1) 1 := ⟨by decide +kernel, rfl, rfl⟩
theorem d_Receiver_turnWrongBit_7 : ob_db k_Receiver_turnWrongBit 7 (.if_icmp .ge 59) 59 10 66 := ⟨by decide +kernel, rfl, by decide⟩
theorem d_Receiver_turnWrongBit_4 : ob_dv ob_lc k_Receiver_turnWrongBit 4 5 2 (.iload_n 2) 1 := ⟨by decide +kernel, rfl, rfl⟩
theorem d_Receiver_turnWrongBit_3 : ob_dv (ob_sc k_Receiver_turnWrongBit.2.2.2.1) k_Receiver_turnWrongBit 3 4 2 (.istore_n 2) 1 := ⟨by decide +kernel, rfl, ⟨rfl, by decide +kernel⟩⟩
theorem d_Receiver_turnWrongBit_1 : ob_dv (ob_sc k_Receiver_turnWrongBit.2.2.2.1) k_Receiver_turnWrongBit 1 2 1 (.istore_n 1) 1 := ⟨by decide +kernel, rfl, ⟨rfl, by decide +kernel⟩⟩
def f_Receiver_turnWrongBit_L4 (S : ob_S) : Nat → Nat → Int32 → Int32 → ob_D → Option (Int32 × ob_D)
  | 0, _, _, _, _ => none
  | n + 1, v0, v1, v2, D => (if (63 : Int32) ≤ v2 then some ((0 : Int32), D) else (if v1 = (D.1 v0 5) then ob_lt (ob_pL D v0 4 ((D.2.2 v0 4) ^^^ ((1 : Int64) <<< ((v2 + (1 : Int32)).toInt64 &&& 63)))) fun D1 => ob_lt (ob_pI D1 v0 6 ((D1.1 v0 6) + (1 : Int32))) fun D2 => some ((1 : Int32), D2) else (if (v1 <<< ((1 : Int32) &&& 31)) ≤ (127 : Int32) then f_Receiver_turnWrongBit_L4 S n v0 (v1 <<< ((1 : Int32) &&& 31)) (v2 + (1 : Int32)) D else f_Receiver_turnWrongBit_L4 S n v0 ((v1 <<< ((1 : Int32) &&& 31)) ^^^ (197 : Int32)) (v2 + (1 : Int32)) D)))
theorem v_Receiver_turnWrongBit_L4 {l : Launch} {E : ob_E} {S : ob_S} {r : Int32} {D' : ob_D} : ∀ (n : Nat), ∀ (v0 : Nat) (v1 : Int32) (v2 : Int32) (D : ob_D), S.1 v0 = 4 → f_Receiver_turnWrongBit_L4 S n v0 v1 v2 D = some (r, D') → ob_V l E k_Receiver_turnWrongBit 4 [(0, .ref v0), (1, .int v1), (2, .int v2)] [] S D (some (.int r)) S D' := by
  intro n
  induction n with
  | zero =>
    intro v0 v1 v2 D hp_v0 h
    have h : none = some (r, D') := h
    cases h
  | succ n ih =>
    intro v0 v1 v2 D hp_v0 h
    rw [f_Receiver_turnWrongBit_L4] at h
    refine ob_iload d_Receiver_turnWrongBit_4 rfl ?_
    refine ob_push d_Receiver_turnWrongBit_5 ?_
    refine ob_icmp_ge d_Receiver_turnWrongBit_7 (fun hc => ?_) (fun hc => ?_)
    · replace h := ob_ift hc h
      refine ob_push d_Receiver_turnWrongBit_66 ?_
      exact ob_ie h (ob_iret d_Receiver_turnWrongBit_67 rfl rfl)
    · replace h := ob_iff hc h
      refine ob_iload d_Receiver_turnWrongBit_10 rfl ?_
      refine ob_aload d_Receiver_turnWrongBit_11 rfl ?_
      refine ob_getI d_Receiver_turnWrongBit_12 F_3_5 l_Receiver_57 hp_v0 ?_
      refine ob_icmp_ne d_Receiver_turnWrongBit_15 (fun hc => ?_) (fun hc => ?_)
      · replace h := ob_iff hc h
        refine ob_iload d_Receiver_turnWrongBit_44 rfl ?_
        refine ob_push d_Receiver_turnWrongBit_45 ?_
        refine ob_ishl d_Receiver_turnWrongBit_46 ?_
        refine ob_istore (lo2 := [(0, .ref v0), (1, .int (v1 <<< ((1 : Int32) &&& 31))), (2, .int v2)]) d_Receiver_turnWrongBit_47 rfl ?_
        refine ob_iload d_Receiver_turnWrongBit_48 rfl ?_
        refine ob_push d_Receiver_turnWrongBit_49 ?_
        refine ob_icmp_le d_Receiver_turnWrongBit_51 (fun hc => ?_) (fun hc => ?_)
        · replace h := ob_ift hc h
          refine ob_iinc (lo2 := [(0, .ref v0), (1, .int (v1 <<< ((1 : Int32) &&& 31))), (2, .int (v2 + (1 : Int32)))]) d_Receiver_turnWrongBit_60 rfl rfl ?_
          refine ob_goto d_Receiver_turnWrongBit_63 ?_
          exact ih v0 (v1 <<< ((1 : Int32) &&& 31)) (v2 + (1 : Int32)) D hp_v0 h
        · replace h := ob_iff hc h
          refine ob_iload d_Receiver_turnWrongBit_54 rfl ?_
          refine ob_push d_Receiver_turnWrongBit_55 ?_
          refine ob_ixor d_Receiver_turnWrongBit_58 ?_
          refine ob_istore (lo2 := [(0, .ref v0), (1, .int ((v1 <<< ((1 : Int32) &&& 31)) ^^^ (197 : Int32))), (2, .int v2)]) d_Receiver_turnWrongBit_59 rfl ?_
          refine ob_iinc (lo2 := [(0, .ref v0), (1, .int ((v1 <<< ((1 : Int32) &&& 31)) ^^^ (197 : Int32))), (2, .int (v2 + (1 : Int32)))]) d_Receiver_turnWrongBit_60 rfl rfl ?_
          refine ob_goto d_Receiver_turnWrongBit_63 ?_
          exact ih v0 ((v1 <<< ((1 : Int32) &&& 31)) ^^^ (197 : Int32)) (v2 + (1 : Int32)) D hp_v0 h
      · replace h := ob_ift hc h
        refine ob_aload d_Receiver_turnWrongBit_18 rfl ?_
        refine ob_dup d_Receiver_turnWrongBit_19 rfl ?_
        refine ob_getL d_Receiver_turnWrongBit_20 F_3_4 l_Receiver_53 hp_v0 ?_
        refine ob_lconst d_Receiver_turnWrongBit_23 rfl ?_
        refine ob_iload d_Receiver_turnWrongBit_24 rfl ?_
        refine ob_push d_Receiver_turnWrongBit_25 ?_
        refine ob_iadd d_Receiver_turnWrongBit_26 ?_
        refine ob_lshl d_Receiver_turnWrongBit_27 ?_
        refine ob_lxor d_Receiver_turnWrongBit_28 ?_
        replace h := ob_lt_e h
        refine ob_putJ d_Receiver_turnWrongBit_29 F_3_4 l_Receiver_53 hp_v0 ?_
        refine ob_aload d_Receiver_turnWrongBit_32 rfl ?_
        refine ob_dup d_Receiver_turnWrongBit_33 rfl ?_
        refine ob_getI d_Receiver_turnWrongBit_34 F_3_6 l_Receiver_74 hp_v0 ?_
        refine ob_push d_Receiver_turnWrongBit_37 ?_
        refine ob_iadd d_Receiver_turnWrongBit_38 ?_
        replace h := ob_lt_e h
        refine ob_putI d_Receiver_turnWrongBit_39 F_3_6 l_Receiver_74 hp_v0 ?_
        refine ob_push d_Receiver_turnWrongBit_42 ?_
        exact ob_ie h (ob_iret d_Receiver_turnWrongBit_43 rfl rfl)
def f_Receiver_turnWrongBit (S : ob_S) (v0 : Nat) (D : ob_D) : Option (Int32 × ob_D) :=
  f_Receiver_turnWrongBit_L4 S ob_FU v0 (1 : Int32) (0 : Int32) D
theorem c_Receiver_turnWrongBit {l : Launch} {E : ob_E} {S : ob_S} {D : ob_D} {v0 : Nat} {r : Int32} {D' : ob_D} (hp_v0 : S.1 v0 = 4) (h : f_Receiver_turnWrongBit S v0 D = some (r, D')) : ob_M l E k_Receiver_turnWrongBit [.ref v0] S D (some (.int r)) S D' := by
  refine ob_ofV (lo := [(0, .ref v0)]) (by decide) rfl (Nat.le_of_ble_eq_true rfl) rfl (Nat.le_refl _) (Nat.le_refl _) ?_
  rw [f_Receiver_turnWrongBit] at h
  refine ob_push d_Receiver_turnWrongBit_0 ?_
  refine ob_istore (lo2 := [(0, .ref v0), (1, .int (1 : Int32))]) d_Receiver_turnWrongBit_1 rfl ?_
  refine ob_push d_Receiver_turnWrongBit_2 ?_
  refine ob_istore (lo2 := [(0, .ref v0), (1, .int (1 : Int32)), (2, .int (0 : Int32))]) d_Receiver_turnWrongBit_3 rfl ?_
  exact v_Receiver_turnWrongBit_L4 ob_FU v0 (1 : Int32) (0 : Int32) D hp_v0 h
-- OrbitBox$Receiver.beginBlock()V
theorem d_Receiver_beginBlock_1 : ob_dk k_Receiver_beginBlock 1 2 (0 : Int32) (.iconst 0) 1 := ⟨by decide +kernel, rfl, show Int32.ofInt 0 = (0 : Int32) by decide +kernel⟩
theorem d_Receiver_beginBlock_11 : ob_dk k_Receiver_beginBlock 11 12 (0 : Int32) (.iconst 0) 1 := ⟨by decide +kernel, rfl, show Int32.ofInt 0 = (0 : Int32) by decide +kernel⟩
theorem d_Receiver_beginBlock_15 : ob_dc k_Receiver_beginBlock 15 (.return_) 1 16 := ⟨by decide +kernel, rfl⟩
theorem d_Receiver_beginBlock_12 : ob_dc k_Receiver_beginBlock 12 (.putfield 57) 3 15 := ⟨by decide +kernel, rfl⟩
theorem d_Receiver_beginBlock_10 : ob_dv ob_ac k_Receiver_beginBlock 10 11 0 (.aload_n 0) 1 := ⟨by decide +kernel, rfl, rfl⟩
theorem d_Receiver_beginBlock_7 : ob_dc k_Receiver_beginBlock 7 (.putfield 53) 3 10 := ⟨by decide +kernel, rfl⟩
theorem d_Receiver_beginBlock_6 : ob_dc k_Receiver_beginBlock 6 (.lconst 0) 1 7 := ⟨by decide +kernel, rfl⟩
theorem d_Receiver_beginBlock_5 : ob_dv ob_ac k_Receiver_beginBlock 5 6 0 (.aload_n 0) 1 := ⟨by decide +kernel, rfl, rfl⟩
theorem d_Receiver_beginBlock_2 : ob_dc k_Receiver_beginBlock 2 (.putfield 31) 3 5 := ⟨by decide +kernel, rfl⟩
theorem d_Receiver_beginBlock_0 : ob_dv ob_ac k_Receiver_beginBlock 0 1 0 (.aload_n 0) 1 := ⟨by decide +kernel, rfl, rfl⟩
def f_Receiver_beginBlock (S : ob_S) (v0 : Nat) (D : ob_D) : Option (ob_D) :=
  ob_lt (ob_pI D v0 3 (0 : Int32)) fun D1 => ob_lt (ob_pL D1 v0 4 (0 : Int64)) fun D2 => ob_lt (ob_pI D2 v0 5 (0 : Int32)) fun D3 => some D3
theorem c_Receiver_beginBlock {l : Launch} {E : ob_E} {S : ob_S} {D : ob_D} {v0 : Nat} {D' : ob_D} (hp_v0 : S.1 v0 = 4) (h : f_Receiver_beginBlock S v0 D = some D') : ob_M l E k_Receiver_beginBlock [.ref v0] S D none S D' := by
  refine ob_ofV (lo := [(0, .ref v0)]) (by decide) rfl (Nat.le_of_ble_eq_true rfl) rfl (Nat.le_refl _) (Nat.le_refl _) ?_
  rw [f_Receiver_beginBlock] at h
  refine ob_aload d_Receiver_beginBlock_0 rfl ?_
  refine ob_push d_Receiver_beginBlock_1 ?_
  replace h := ob_lt_e h
  refine ob_putI d_Receiver_beginBlock_2 F_3_3 l_Receiver_31 hp_v0 ?_
  refine ob_aload d_Receiver_beginBlock_5 rfl ?_
  refine ob_lconst d_Receiver_beginBlock_6 rfl ?_
  replace h := ob_lt_e h
  refine ob_putJ d_Receiver_beginBlock_7 F_3_4 l_Receiver_53 hp_v0 ?_
  refine ob_aload d_Receiver_beginBlock_10 rfl ?_
  refine ob_push d_Receiver_beginBlock_11 ?_
  replace h := ob_lt_e h
  refine ob_putI d_Receiver_beginBlock_12 F_3_5 l_Receiver_57 hp_v0 ?_
  exact ob_ve h (ob_vret d_Receiver_beginBlock_15 rfl)
-- OrbitBox$Receiver.endBlock()Z
theorem d_Receiver_endBlock_14 : ob_dk k_Receiver_endBlock 14 15 (1 : Int32) (.iconst 1) 1 := ⟨by decide +kernel, rfl, show Int32.ofInt 1 = (1 : Int32) by decide +kernel⟩
theorem d_Receiver_endBlock_20 : ob_dk k_Receiver_endBlock 20 22 (56 : Int32) (.bipush 56) 2 := ⟨by decide +kernel, rfl, show (Int8.ofInt 56).toInt32 = (56 : Int32) by decide +kernel⟩
theorem d_Receiver_endBlock_78 : ob_dk k_Receiver_endBlock 78 79 (0 : Int32) (.iconst 0) 1 := ⟨by decide +kernel, rfl, show Int32.ofInt 0 = (0 : Int32) by decide +kernel⟩
theorem d_Receiver_endBlock_83 : ob_dk k_Receiver_endBlock 83 84 (0 : Int32) (.iconst 0) 1 := ⟨by decide +kernel, rfl, show Int32.ofInt 0 = (0 : Int32) by decide +kernel⟩
theorem d_Receiver_endBlock_101 : ob_dk k_Receiver_endBlock 101 102 (0 : Int32) (.iconst 0) 1 := ⟨by decide +kernel, rfl, show Int32.ofInt 0 = (0 : Int32) by decide +kernel⟩
theorem d_Receiver_endBlock_102 : ob_dc k_Receiver_endBlock 102 (.ireturn) 1 103 := ⟨by decide +kernel, rfl⟩
theorem d_Receiver_endBlock_97 : ob_dk k_Receiver_endBlock 97 98 (1 : Int32) (.iconst 1) 1 := ⟨by decide +kernel, rfl, show Int32.ofInt 1 = (1 : Int32) by decide +kernel⟩
theorem d_Receiver_endBlock_98 : ob_db k_Receiver_endBlock 98 (.goto 4) 4 101 102 := ⟨by decide +kernel, rfl, by decide⟩
theorem d_Receiver_endBlock_94 : ob_db k_Receiver_endBlock 94 (.ifCond .le 7) 7 97 101 := ⟨by decide +kernel, rfl, by decide⟩
theorem d_Receiver_endBlock_91 : ob_dc k_Receiver_endBlock 91 (.getfield 47) 3 94 := ⟨by decide +kernel, rfl⟩
theorem d_Receiver_endBlock_88 : ob_dc k_Receiver_endBlock 88 (.getfield 14) 3 91 := ⟨by decide +kernel, rfl⟩
theorem d_Receiver_endBlock_87 : ob_dv ob_ac k_Receiver_endBlock 87 88 0 (.aload_n 0) 1 := ⟨by decide +kernel, rfl, rfl⟩
theorem d_Receiver_endBlock_84 : ob_dc k_Receiver_endBlock 84 (.putfield 26) 3 87 := ⟨by decide +kernel, rfl⟩
theorem d_Receiver_endBlock_82 : ob_dv ob_ac k_Receiver_endBlock 82 83 0 (.aload_n 0) 1 := ⟨by decide +kernel, rfl, rfl⟩
theorem d_Receiver_endBlock_79 : ob_dc k_Receiver_endBlock 79 (.putfield 18) 3 82 := ⟨by decide +kernel, rfl⟩
theorem d_Receiver_endBlock_77 : ob_dv ob_ac k_Receiver_endBlock 77 78 0 (.aload_n 0) 1 := ⟨by decide +kernel, rfl, rfl⟩
theorem d_Receiver_endBlock_69 : ob_dk k_Receiver_endBlock 69 72 (259 : Int32) (.sipush 259) 3 := ⟨by decide +kernel, rfl, show (Int16.ofInt 259).toInt32 = (259 : Int32) by decide +kernel⟩
theorem d_Receiver_endBlock_75 : ob_dk k_Receiver_endBlock 75 76 (0 : Int32) (.iconst 0) 1 := ⟨by decide +kernel, rfl, show Int32.ofInt 0 = (0 : Int32) by decide +kernel⟩
theorem d_Receiver_endBlock_76 : ob_dc k_Receiver_endBlock 76 (.ireturn) 1 77 := ⟨by decide +kernel, rfl⟩
theorem d_Receiver_endBlock_72 : ob_db k_Receiver_endBlock 72 (.if_icmp .ge 5) 5 75 77 := ⟨by decide +kernel, rfl, by decide⟩
theorem d_Receiver_endBlock_66 : ob_dc k_Receiver_endBlock 66 (.getfield 47) 3 69 := ⟨by decide +kernel, rfl⟩
theorem d_Receiver_endBlock_63 : ob_dc k_Receiver_endBlock 63 (.getfield 14) 3 66 := ⟨by decide +kernel, rfl⟩
theorem d_Receiver_endBlock_62 : ob_dv ob_ac k_Receiver_endBlock 62 63 0 (.aload_n 0) 1 := ⟨by decide +kernel, rfl, rfl⟩
theorem d_Receiver_endBlock_59 : ob_db k_Receiver_endBlock 59 (.ifCond .eq 18) 18 62 77 := ⟨by decide +kernel, rfl, by decide⟩
theorem d_Receiver_endBlock_58 : ob_dv ob_lc k_Receiver_endBlock 58 59 1 (.iload_n 1) 1 := ⟨by decide +kernel, rfl, rfl⟩
theorem d_Receiver_endBlock_55 : ob_dc k_Receiver_endBlock 55 (.invokevirtual 50) 3 58 := ⟨by decide +kernel, rfl⟩
theorem d_Receiver_endBlock_54 : ob_dv ob_ac k_Receiver_endBlock 54 55 0 (.aload_n 0) 1 := ⟨by decide +kernel, rfl, rfl⟩
theorem d_Receiver_endBlock_28 : ob_dk k_Receiver_endBlock 28 30 (8 : Int32) (.bipush 8) 2 := ⟨by decide +kernel, rfl, show (Int8.ofInt 8).toInt32 = (8 : Int32) by decide +kernel⟩
theorem d_Receiver_endBlock_44 : ob_dk k_Receiver_endBlock 44 45 (1 : Int32) (.iconst 1) 1 := ⟨by decide +kernel, rfl, show Int32.ofInt 1 = (1 : Int32) by decide +kernel⟩
theorem d_Receiver_endBlock_48 : ob_di k_Receiver_endBlock 48 51 2 (-8) (-8 : Int32) := ⟨by decide +kernel, rfl, by decide +kernel, by decide +kernel⟩
theorem d_Receiver_endBlock_51 : ob_db k_Receiver_endBlock 51 (.goto (-28)) (-28) 54 23 := ⟨by decide +kernel, rfl, by decide⟩
theorem d_Receiver_endBlock_45 : ob_dc k_Receiver_endBlock 45 (.invokevirtual 70) 3 48 := ⟨by decide +kernel, rfl⟩
theorem d_Receiver_endBlock_43 : ob_dc k_Receiver_endBlock 43 (.l2i) 1 44 := ⟨by decide +kernel, rfl⟩
theorem d_Receiver_endBlock_42 : ob_dc k_Receiver_endBlock 42 (.lushr) 1 43 := ⟨by decide +kernel, rfl⟩
theorem d_Receiver_endBlock_41 : ob_dv ob_lc k_Receiver_endBlock 41 42 2 (.iload_n 2) 1 := ⟨by decide +kernel, rfl, rfl⟩
theorem d_Receiver_endBlock_38 : ob_dc k_Receiver_endBlock 38 (.getfield 53) 3 41 := ⟨by decide +kernel, rfl⟩
theorem d_Receiver_endBlock_37 : ob_dv ob_ac k_Receiver_endBlock 37 38 0 (.aload_n 0) 1 := ⟨by decide +kernel, rfl, rfl⟩
theorem d_Receiver_endBlock_34 : ob_dc k_Receiver_endBlock 34 (.getfield 14) 3 37 := ⟨by decide +kernel, rfl⟩
theorem d_Receiver_endBlock_33 : ob_dv ob_ac k_Receiver_endBlock 33 34 0 (.aload_n 0) 1 := ⟨by decide +kernel, rfl, rfl⟩
theorem d_Receiver_endBlock_30 : ob_db k_Receiver_endBlock 30 (.if_icmp .lt 24) 24 33 54 := ⟨by decide +kernel, rfl, by decide⟩
theorem d_Receiver_endBlock_27 : ob_dv ob_lc k_Receiver_endBlock 27 28 2 (.iload_n 2) 1 := ⟨by decide +kernel, rfl, rfl⟩
theorem d_Receiver_endBlock_24 : ob_db k_Receiver_endBlock 24 (.ifCond .eq 30) 30 27 54 := ⟨by decide +kernel, rfl, by decide⟩
theorem d_Receiver_endBlock_23 : ob_dv ob_lc k_Receiver_endBlock 23 24 1 (.iload_n 1) 1 := ⟨by decide +kernel, rfl, rfl⟩
theorem d_Receiver_endBlock_22 : ob_dv (ob_sc k_Receiver_endBlock.2.2.2.1) k_Receiver_endBlock 22 23 2 (.istore_n 2) 1 := ⟨by decide +kernel, rfl, ⟨rfl, by decide +kernel⟩⟩
theorem d_Receiver_endBlock_19 : ob_dv (ob_sc k_Receiver_endBlock.2.2.2.1) k_Receiver_endBlock 19 20 1 (.istore_n 1) 1 := ⟨by decide +kernel, rfl, ⟨rfl, by decide +kernel⟩⟩
theorem d_Receiver_endBlock_15 : ob_db k_Receiver_endBlock 15 (.goto 4) 4 18 19 := ⟨by decide +kernel, rfl, by decide⟩
theorem d_Receiver_endBlock_18 : ob_dk k_Receiver_endBlock 18 19 (0 : Int32) (.iconst 0) 1 := ⟨by decide +kernel, rfl, show Int32.ofInt 0 = (0 : Int32) by decide +kernel⟩
theorem d_Receiver_endBlock_11 : ob_db k_Receiver_endBlock 11 (.ifCond .eq 7) 7 14 18 := ⟨by decide +kernel, rfl, by decide⟩
theorem d_Receiver_endBlock_8 : ob_dc k_Receiver_endBlock 8 (.invokevirtual 67) 3 11 := ⟨by decide +kernel, rfl⟩
theorem d_Receiver_endBlock_7 : ob_dv ob_ac k_Receiver_endBlock 7 8 0 (.aload_n 0) 1 := ⟨by decide +kernel, rfl, rfl⟩
theorem d_Receiver_endBlock_4 : ob_db k_Receiver_endBlock 4 (.ifCond .eq 10) 10 7 14 := ⟨by decide +kernel, rfl, by decide⟩
theorem d_Receiver_endBlock_1 : ob_dc k_Receiver_endBlock 1 (.getfield 57) 3 4 := ⟨by decide +kernel, rfl⟩
theorem d_Receiver_endBlock_0 : ob_dv ob_ac k_Receiver_endBlock 0 1 0 (.aload_n 0) 1 := ⟨by decide +kernel, rfl, rfl⟩
theorem c_Receiver_endBlock_50 : ob_vd k_Receiver_endBlock k_Receiver_beginBlock 50 0 3 := ⟨cw_Receiver_beginBlock, yd_Receiver_beginBlock, w_503, w_505, wp_4, w_3, ⟨_, _, rfl⟩, by decide, by decide⟩
theorem c_Receiver_endBlock_70 : ob_vd k_Receiver_endBlock k_Row_add 70 2 1 := ⟨cw_Row_add, yd_Row_add, w_502, w_467, w_468, w_2, ⟨_, _, rfl⟩, by decide, by decide⟩
theorem c_Receiver_endBlock_67 : ob_vd k_Receiver_endBlock k_Receiver_turnWrongBit 67 0 3 := ⟨cw_Receiver_turnWrongBit, yd_Receiver_turnWrongBit, w_498, w_500, wp_3, w_3, ⟨_, _, rfl⟩, by decide, by decide⟩
def f_Receiver_endBlock_L77 (S : ob_S) (v0 : Nat) (D : ob_D) : Option (Int32 × ob_D) :=
  ob_lt (ob_pI D v0 1 (0 : Int32)) fun D3 => ob_lt (ob_pI D3 v0 2 (0 : Int32)) fun D4 => if D4.2.1 v0 0 ≠ 0 then (if (D4.1 (D4.2.1 v0 0) 1) ≤ 0 then some ((0 : Int32), D4) else some ((1 : Int32), D4)) else none
theorem v_Receiver_endBlock_L77 {l : Launch} {E : ob_E} {S : ob_S} {r : Int32} {D' : ob_D} : ∀ (v0 : Nat) (D : ob_D), S.1 v0 = 4 → f_Receiver_endBlock_L77 S v0 D = some (r, D') → ob_V l E k_Receiver_endBlock 77 [(0, .ref v0)] [] S D (some (.int r)) S D' := by
  intro v0 D hp_v0 h
  rw [f_Receiver_endBlock_L77] at h
  refine ob_aload d_Receiver_endBlock_77 rfl ?_
  refine ob_push d_Receiver_endBlock_78 ?_
  replace h := ob_lt_e h
  refine ob_putZ d_Receiver_endBlock_79 F_3_1 l_Receiver_18 hp_v0 (Or.inl rfl) ?_
  refine ob_aload d_Receiver_endBlock_82 rfl ?_
  refine ob_push d_Receiver_endBlock_83 ?_
  replace h := ob_lt_e h
  refine ob_putI d_Receiver_endBlock_84 F_3_2 l_Receiver_26 hp_v0 ?_
  refine ob_aload d_Receiver_endBlock_87 rfl ?_
  obtain ⟨hg6, h⟩ := ob_gd h
  refine ob_getR d_Receiver_endBlock_88 F_3_0 l_Receiver_14 hp_v0 hg6 (fun hk5 => ?_)
  refine ob_getI d_Receiver_endBlock_91 F_1_1 l_Receiver_47 hk5 ?_
  refine ob_if_le d_Receiver_endBlock_94 (fun hc => ?_) (fun hc => ?_)
  · replace h := ob_ift hc h
    refine ob_push d_Receiver_endBlock_101 ?_
    exact ob_ie h (ob_iret d_Receiver_endBlock_102 rfl rfl)
  · replace h := ob_iff hc h
    refine ob_push d_Receiver_endBlock_97 ?_
    refine ob_goto d_Receiver_endBlock_98 ?_
    exact ob_ie h (ob_iret d_Receiver_endBlock_102 rfl rfl)
def f_Receiver_endBlock_L54 (S : ob_S) (v0 : Nat) (v1 : Int32) (D : ob_D) : Option (Int32 × ob_D) :=
  ob_bv (f_Receiver_beginBlock S v0 D) fun D1 => (if v1 = 0 then f_Receiver_endBlock_L77 S v0 D1 else if D1.2.1 v0 0 ≠ 0 then (if (259 : Int32) ≤ (D1.1 (D1.2.1 v0 0) 1) then f_Receiver_endBlock_L77 S v0 D1 else some ((0 : Int32), D1)) else none)
theorem v_Receiver_endBlock_L54 {l : Launch} {E : ob_E} {S : ob_S} {r : Int32} {D' : ob_D} : ∀ (v0 : Nat) (v1 : Int32) (D : ob_D), S.1 v0 = 4 → f_Receiver_endBlock_L54 S v0 v1 D = some (r, D') → ob_V l E k_Receiver_endBlock 54 [(0, .ref v0), (1, .int v1)] [] S D (some (.int r)) S D' := by
  intro v0 v1 D hp_v0 h
  rw [f_Receiver_endBlock_L54] at h
  refine ob_aload d_Receiver_endBlock_54 rfl ?_
  obtain ⟨D1, h2, h⟩ := ob_bv_e h
  refine ob_callVv (As := []) (rest := []) d_Receiver_endBlock_55 c_Receiver_endBlock_50 hp_v0 rfl rfl (Nat.le_of_ble_eq_true rfl) (c_Receiver_beginBlock hp_v0 h2) ⟨Nat.le_refl _, Nat.le_refl _⟩ ⟨Nat.le_refl _, Nat.le_refl _⟩ ?_
  refine ob_iload d_Receiver_endBlock_58 rfl ?_
  refine ob_if_eq d_Receiver_endBlock_59 (fun hc => ?_) (fun hc => ?_)
  · replace h := ob_ift hc h
    refine ob_sub (lo2 := [(0, .ref v0)]) [0] rfl ?_
    exact v_Receiver_endBlock_L77 v0 D1 hp_v0 h
  · replace h := ob_iff hc h
    refine ob_aload d_Receiver_endBlock_62 rfl ?_
    obtain ⟨hg8, h⟩ := ob_gd h
    refine ob_getR d_Receiver_endBlock_63 F_3_0 l_Receiver_14 hp_v0 hg8 (fun hk7 => ?_)
    refine ob_getI d_Receiver_endBlock_66 F_1_1 l_Receiver_47 hk7 ?_
    refine ob_push d_Receiver_endBlock_69 ?_
    refine ob_icmp_ge d_Receiver_endBlock_72 (fun hc => ?_) (fun hc => ?_)
    · replace h := ob_ift hc h
      refine ob_sub (lo2 := [(0, .ref v0)]) [0] rfl ?_
      exact v_Receiver_endBlock_L77 v0 D1 hp_v0 h
    · replace h := ob_iff hc h
      refine ob_push d_Receiver_endBlock_75 ?_
      exact ob_ie h (ob_iret d_Receiver_endBlock_76 rfl rfl)
def f_Receiver_endBlock_L23 (S : ob_S) : Nat → Nat → Int32 → Int32 → ob_D → Option (Int32 × ob_D)
  | 0, _, _, _, _ => none
  | n + 1, v0, v1, v2, D => (if v1 = 0 then f_Receiver_endBlock_L54 S v0 v1 D else (if v2 < (8 : Int32) then f_Receiver_endBlock_L54 S v0 v1 D else if D.2.1 v0 0 ≠ 0 then ob_bv (f_Row_add S (D.2.1 v0 0) ((((D.2.2 v0 4).toUInt64 >>> (v2.toInt64.toUInt64 &&& Int64.toUInt64 63)).toInt64).toInt32) (1 : Int32) D) fun D11 => f_Receiver_endBlock_L23 S n v0 v1 (v2 + (-8 : Int32)) D11 else none))
theorem v_Receiver_endBlock_L23 {l : Launch} {E : ob_E} {S : ob_S} {r : Int32} {D' : ob_D} : ∀ (n : Nat), ∀ (v0 : Nat) (v1 : Int32) (v2 : Int32) (D : ob_D), S.1 v0 = 4 → f_Receiver_endBlock_L23 S n v0 v1 v2 D = some (r, D') → ob_V l E k_Receiver_endBlock 23 [(0, .ref v0), (1, .int v1), (2, .int v2)] [] S D (some (.int r)) S D' := by
  intro n
  induction n with
  | zero =>
    intro v0 v1 v2 D hp_v0 h
    have h : none = some (r, D') := h
    cases h
  | succ n ih =>
    intro v0 v1 v2 D hp_v0 h
    rw [f_Receiver_endBlock_L23] at h
    refine ob_iload d_Receiver_endBlock_23 rfl ?_
    refine ob_if_eq d_Receiver_endBlock_24 (fun hc => ?_) (fun hc => ?_)
    · replace h := ob_ift hc h
      refine ob_sub (lo2 := [(0, .ref v0), (1, .int v1)]) [0, 1] rfl ?_
      exact v_Receiver_endBlock_L54 v0 v1 D hp_v0 h
    · replace h := ob_iff hc h
      refine ob_iload d_Receiver_endBlock_27 rfl ?_
      refine ob_push d_Receiver_endBlock_28 ?_
      refine ob_icmp_lt d_Receiver_endBlock_30 (fun hc => ?_) (fun hc => ?_)
      · replace h := ob_ift hc h
        refine ob_sub (lo2 := [(0, .ref v0), (1, .int v1)]) [0, 1] rfl ?_
        exact v_Receiver_endBlock_L54 v0 v1 D hp_v0 h
      · replace h := ob_iff hc h
        refine ob_aload d_Receiver_endBlock_33 rfl ?_
        obtain ⟨hg10, h⟩ := ob_gd h
        refine ob_getR d_Receiver_endBlock_34 F_3_0 l_Receiver_14 hp_v0 hg10 (fun hk9 => ?_)
        refine ob_aload d_Receiver_endBlock_37 rfl ?_
        refine ob_getL d_Receiver_endBlock_38 F_3_4 l_Receiver_53 hp_v0 ?_
        refine ob_iload d_Receiver_endBlock_41 rfl ?_
        refine ob_lushr d_Receiver_endBlock_42 ?_
        refine ob_l2i d_Receiver_endBlock_43 ?_
        refine ob_push d_Receiver_endBlock_44 ?_
        obtain ⟨D11, h12, h⟩ := ob_bv_e h
        refine ob_callVv (As := [.int ((((D.2.2 v0 4).toUInt64 >>> (v2.toInt64.toUInt64 &&& Int64.toUInt64 63)).toInt64).toInt32), .int (1 : Int32)]) (rest := []) d_Receiver_endBlock_45 c_Receiver_endBlock_70 hk9 rfl rfl (Nat.le_of_ble_eq_true rfl) (c_Row_add hk9 h12) ⟨Nat.le_refl _, Nat.le_refl _⟩ ⟨Nat.le_refl _, Nat.le_refl _⟩ ?_
        refine ob_iinc (lo2 := [(0, .ref v0), (1, .int v1), (2, .int (v2 + (-8 : Int32)))]) d_Receiver_endBlock_48 rfl rfl ?_
        refine ob_goto d_Receiver_endBlock_51 ?_
        exact ih v0 v1 (v2 + (-8 : Int32)) D11 hp_v0 h
def f_Receiver_endBlock (S : ob_S) (v0 : Nat) (D : ob_D) : Option (Int32 × ob_D) :=
  (if (D.1 v0 5) = 0 then f_Receiver_endBlock_L23 S ob_FU v0 (1 : Int32) (56 : Int32) D else ob_bd (f_Receiver_turnWrongBit S v0 D) fun x15 D13 => (if x15 = 0 then f_Receiver_endBlock_L23 S ob_FU v0 (0 : Int32) (56 : Int32) D13 else f_Receiver_endBlock_L23 S ob_FU v0 (1 : Int32) (56 : Int32) D13))
theorem c_Receiver_endBlock {l : Launch} {E : ob_E} {S : ob_S} {D : ob_D} {v0 : Nat} {r : Int32} {D' : ob_D} (hp_v0 : S.1 v0 = 4) (h : f_Receiver_endBlock S v0 D = some (r, D')) : ob_M l E k_Receiver_endBlock [.ref v0] S D (some (.int r)) S D' := by
  refine ob_ofV (lo := [(0, .ref v0)]) (by decide) rfl (Nat.le_of_ble_eq_true rfl) rfl (Nat.le_refl _) (Nat.le_refl _) ?_
  rw [f_Receiver_endBlock] at h
  refine ob_aload d_Receiver_endBlock_0 rfl ?_
  refine ob_getI d_Receiver_endBlock_1 F_3_5 l_Receiver_57 hp_v0 ?_
  refine ob_if_eq d_Receiver_endBlock_4 (fun hc => ?_) (fun hc => ?_)
  · replace h := ob_ift hc h
    refine ob_push d_Receiver_endBlock_14 ?_
    refine ob_goto d_Receiver_endBlock_15 ?_
    refine ob_istore (lo2 := [(0, .ref v0), (1, .int (1 : Int32))]) d_Receiver_endBlock_19 rfl ?_
    refine ob_push d_Receiver_endBlock_20 ?_
    refine ob_istore (lo2 := [(0, .ref v0), (1, .int (1 : Int32)), (2, .int (56 : Int32))]) d_Receiver_endBlock_22 rfl ?_
    exact v_Receiver_endBlock_L23 ob_FU v0 (1 : Int32) (56 : Int32) D hp_v0 h
  · replace h := ob_iff hc h
    refine ob_aload d_Receiver_endBlock_7 rfl ?_
    obtain ⟨x15, D13, h14, h⟩ := ob_bd_e h
    refine ob_callVi (As := []) (rest := []) d_Receiver_endBlock_8 c_Receiver_endBlock_67 hp_v0 rfl rfl (Nat.le_of_ble_eq_true rfl) (c_Receiver_turnWrongBit hp_v0 h14) ⟨Nat.le_refl _, Nat.le_refl _⟩ ⟨Nat.le_refl _, Nat.le_refl _⟩ ?_
    refine ob_if_eq d_Receiver_endBlock_11 (fun hc => ?_) (fun hc => ?_)
    · replace h := ob_ift hc h
      refine ob_push d_Receiver_endBlock_18 ?_
      refine ob_istore (lo2 := [(0, .ref v0), (1, .int (0 : Int32))]) d_Receiver_endBlock_19 rfl ?_
      refine ob_push d_Receiver_endBlock_20 ?_
      refine ob_istore (lo2 := [(0, .ref v0), (1, .int (0 : Int32)), (2, .int (56 : Int32))]) d_Receiver_endBlock_22 rfl ?_
      exact v_Receiver_endBlock_L23 ob_FU v0 (0 : Int32) (56 : Int32) D13 hp_v0 h
    · replace h := ob_iff hc h
      refine ob_push d_Receiver_endBlock_14 ?_
      refine ob_goto d_Receiver_endBlock_15 ?_
      refine ob_istore (lo2 := [(0, .ref v0), (1, .int (1 : Int32))]) d_Receiver_endBlock_19 rfl ?_
      refine ob_push d_Receiver_endBlock_20 ?_
      refine ob_istore (lo2 := [(0, .ref v0), (1, .int (1 : Int32)), (2, .int (56 : Int32))]) d_Receiver_endBlock_22 rfl ?_
      exact v_Receiver_endBlock_L23 ob_FU v0 (1 : Int32) (56 : Int32) D13 hp_v0 h
-- OrbitBox$Receiver.collect(I)Z
theorem d_Receiver_collect_5 : ob_dk k_Receiver_collect 5 6 (1 : Int32) (.iconst 1) 1 := ⟨by decide +kernel, rfl, show Int32.ofInt 1 = (1 : Int32) by decide +kernel⟩
theorem d_Receiver_collect_18 : ob_dk k_Receiver_collect 18 19 (1 : Int32) (.iconst 1) 1 := ⟨by decide +kernel, rfl, show Int32.ofInt 1 = (1 : Int32) by decide +kernel⟩
theorem d_Receiver_collect_27 : ob_dk k_Receiver_collect 27 29 (63 : Int32) (.bipush 63) 2 := ⟨by decide +kernel, rfl, show (Int8.ofInt 63).toInt32 = (63 : Int32) by decide +kernel⟩
theorem d_Receiver_collect_56 : ob_dk k_Receiver_collect 56 58 (64 : Int32) (.bipush 64) 2 := ⟨by decide +kernel, rfl, show (Int8.ofInt 64).toInt32 = (64 : Int32) by decide +kernel⟩
theorem d_Receiver_collect_72 : ob_dk k_Receiver_collect 72 73 (0 : Int32) (.iconst 0) 1 := ⟨by decide +kernel, rfl, show Int32.ofInt 0 = (0 : Int32) by decide +kernel⟩
theorem d_Receiver_collect_73 : ob_dc k_Receiver_collect 73 (.ireturn) 1 74 := ⟨by decide +kernel, rfl⟩
theorem d_Receiver_collect_68 : ob_dk k_Receiver_collect 68 69 (1 : Int32) (.iconst 1) 1 := ⟨by decide +kernel, rfl, show Int32.ofInt 1 = (1 : Int32) by decide +kernel⟩
theorem d_Receiver_collect_69 : ob_db k_Receiver_collect 69 (.goto 4) 4 72 73 := ⟨by decide +kernel, rfl, by decide⟩
theorem d_Receiver_collect_65 : ob_db k_Receiver_collect 65 (.ifCond .eq 7) 7 68 72 := ⟨by decide +kernel, rfl, by decide⟩
theorem d_Receiver_collect_62 : ob_dc k_Receiver_collect 62 (.invokevirtual 63) 3 65 := ⟨by decide +kernel, rfl⟩
theorem d_Receiver_collect_61 : ob_dv ob_ac k_Receiver_collect 61 62 0 (.aload_n 0) 1 := ⟨by decide +kernel, rfl, rfl⟩
theorem d_Receiver_collect_58 : ob_db k_Receiver_collect 58 (.if_icmp .ne 14) 14 61 72 := ⟨by decide +kernel, rfl, by decide⟩
theorem d_Receiver_collect_53 : ob_dc k_Receiver_collect 53 (.getfield 31) 3 56 := ⟨by decide +kernel, rfl⟩
theorem d_Receiver_collect_52 : ob_dv ob_ac k_Receiver_collect 52 53 0 (.aload_n 0) 1 := ⟨by decide +kernel, rfl, rfl⟩
theorem d_Receiver_collect_37 : ob_dk k_Receiver_collect 37 39 (56 : Int32) (.bipush 56) 2 := ⟨by decide +kernel, rfl, show (Int8.ofInt 56).toInt32 = (56 : Int32) by decide +kernel⟩
theorem d_Receiver_collect_49 : ob_dc k_Receiver_collect 49 (.invokevirtual 60) 3 52 := ⟨by decide +kernel, rfl⟩
theorem d_Receiver_collect_48 : ob_dv ob_lc k_Receiver_collect 48 49 1 (.iload_n 1) 1 := ⟨by decide +kernel, rfl, rfl⟩
theorem d_Receiver_collect_42 : ob_dk k_Receiver_collect 42 43 (1 : Int32) (.iconst 1) 1 := ⟨by decide +kernel, rfl, show Int32.ofInt 1 = (1 : Int32) by decide +kernel⟩
theorem d_Receiver_collect_45 : ob_db k_Receiver_collect 45 (.goto 4) 4 48 49 := ⟨by decide +kernel, rfl, by decide⟩
theorem d_Receiver_collect_44 : ob_dc k_Receiver_collect 44 (.isub) 1 45 := ⟨by decide +kernel, rfl⟩
theorem d_Receiver_collect_43 : ob_dv ob_lc k_Receiver_collect 43 44 1 (.iload_n 1) 1 := ⟨by decide +kernel, rfl, rfl⟩
theorem d_Receiver_collect_39 : ob_db k_Receiver_collect 39 (.if_icmp .le 9) 9 42 48 := ⟨by decide +kernel, rfl, by decide⟩
theorem d_Receiver_collect_34 : ob_dc k_Receiver_collect 34 (.getfield 31) 3 37 := ⟨by decide +kernel, rfl⟩
theorem d_Receiver_collect_33 : ob_dv ob_ac k_Receiver_collect 33 34 0 (.aload_n 0) 1 := ⟨by decide +kernel, rfl, rfl⟩
theorem d_Receiver_collect_32 : ob_dv ob_ac k_Receiver_collect 32 33 0 (.aload_n 0) 1 := ⟨by decide +kernel, rfl, rfl⟩
theorem d_Receiver_collect_29 : ob_db k_Receiver_collect 29 (.if_icmp .gt 23) 23 32 52 := ⟨by decide +kernel, rfl, by decide⟩
theorem d_Receiver_collect_24 : ob_dc k_Receiver_collect 24 (.getfield 31) 3 27 := ⟨by decide +kernel, rfl⟩
theorem d_Receiver_collect_23 : ob_dv ob_ac k_Receiver_collect 23 24 0 (.aload_n 0) 1 := ⟨by decide +kernel, rfl, rfl⟩
theorem d_Receiver_collect_20 : ob_dc k_Receiver_collect 20 (.putfield 31) 3 23 := ⟨by decide +kernel, rfl⟩
theorem d_Receiver_collect_19 : ob_dc k_Receiver_collect 19 (.iadd) 1 20 := ⟨by decide +kernel, rfl⟩
theorem d_Receiver_collect_15 : ob_dc k_Receiver_collect 15 (.getfield 31) 3 18 := ⟨by decide +kernel, rfl⟩
theorem d_Receiver_collect_14 : ob_dc k_Receiver_collect 14 (.dup) 1 15 := ⟨by decide +kernel, rfl⟩
theorem d_Receiver_collect_13 : ob_dv ob_ac k_Receiver_collect 13 14 0 (.aload_n 0) 1 := ⟨by decide +kernel, rfl, rfl⟩
theorem d_Receiver_collect_10 : ob_dc k_Receiver_collect 10 (.putfield 53) 3 13 := ⟨by decide +kernel, rfl⟩
theorem d_Receiver_collect_9 : ob_dc k_Receiver_collect 9 (.lor) 1 10 := ⟨by decide +kernel, rfl⟩
theorem d_Receiver_collect_8 : ob_dc k_Receiver_collect 8 (.i2l) 1 9 := ⟨by decide +kernel, rfl⟩
theorem d_Receiver_collect_7 : ob_dv ob_lc k_Receiver_collect 7 8 1 (.iload_n 1) 1 := ⟨by decide +kernel, rfl, rfl⟩
theorem d_Receiver_collect_6 : ob_dc k_Receiver_collect 6 (.lshl) 1 7 := ⟨by decide +kernel, rfl⟩
theorem d_Receiver_collect_2 : ob_dc k_Receiver_collect 2 (.getfield 53) 3 5 := ⟨by decide +kernel, rfl⟩
theorem d_Receiver_collect_1 : ob_dv ob_ac k_Receiver_collect 1 2 0 (.aload_n 0) 1 := ⟨by decide +kernel, rfl, rfl⟩
theorem d_Receiver_collect_0 : ob_dv ob_ac k_Receiver_collect 0 1 0 (.aload_n 0) 1 := ⟨by decide +kernel, rfl, rfl⟩
theorem c_Receiver_collect_63 : ob_vd k_Receiver_collect k_Receiver_endBlock 63 0 3 := ⟨cw_Receiver_endBlock, yd_Receiver_endBlock, w_494, w_496, wp_2, w_3, ⟨_, _, rfl⟩, by decide, by decide⟩
theorem c_Receiver_collect_60 : ob_vd k_Receiver_collect k_Receiver_divide 60 1 3 := ⟨cw_Receiver_divide, yd_Receiver_divide, w_490, w_492, wp_1, w_3, ⟨_, _, rfl⟩, by decide, by decide⟩
def f_Receiver_collect_L52 (S : ob_S) (v0 : Nat) (D : ob_D) : Option (Int32 × ob_D) :=
  (if (D.1 v0 3) = (64 : Int32) then ob_bd (f_Receiver_endBlock S v0 D) fun x5 D3 => (if x5 = 0 then some ((0 : Int32), D3) else some ((1 : Int32), D3)) else some ((0 : Int32), D))
theorem v_Receiver_collect_L52 {l : Launch} {E : ob_E} {S : ob_S} {r : Int32} {D' : ob_D} : ∀ (v0 : Nat) (D : ob_D), S.1 v0 = 4 → f_Receiver_collect_L52 S v0 D = some (r, D') → ob_V l E k_Receiver_collect 52 [(0, .ref v0)] [] S D (some (.int r)) S D' := by
  intro v0 D hp_v0 h
  rw [f_Receiver_collect_L52] at h
  refine ob_aload d_Receiver_collect_52 rfl ?_
  refine ob_getI d_Receiver_collect_53 F_3_3 l_Receiver_31 hp_v0 ?_
  refine ob_push d_Receiver_collect_56 ?_
  refine ob_icmp_ne d_Receiver_collect_58 (fun hc => ?_) (fun hc => ?_)
  · replace h := ob_iff hc h
    refine ob_push d_Receiver_collect_72 ?_
    exact ob_ie h (ob_iret d_Receiver_collect_73 rfl rfl)
  · replace h := ob_ift hc h
    refine ob_aload d_Receiver_collect_61 rfl ?_
    obtain ⟨x5, D3, h4, h⟩ := ob_bd_e h
    refine ob_callVi (As := []) (rest := []) d_Receiver_collect_62 c_Receiver_collect_63 hp_v0 rfl rfl (Nat.le_of_ble_eq_true rfl) (c_Receiver_endBlock hp_v0 h4) ⟨Nat.le_refl _, Nat.le_refl _⟩ ⟨Nat.le_refl _, Nat.le_refl _⟩ ?_
    refine ob_if_eq d_Receiver_collect_65 (fun hc => ?_) (fun hc => ?_)
    · replace h := ob_ift hc h
      refine ob_push d_Receiver_collect_72 ?_
      exact ob_ie h (ob_iret d_Receiver_collect_73 rfl rfl)
    · replace h := ob_iff hc h
      refine ob_push d_Receiver_collect_68 ?_
      refine ob_goto d_Receiver_collect_69 ?_
      exact ob_ie h (ob_iret d_Receiver_collect_73 rfl rfl)
def f_Receiver_collect (S : ob_S) (v0 : Nat) (v1 : Int32) (D : ob_D) : Option (Int32 × ob_D) :=
  ob_lt (ob_pL D v0 4 (((D.2.2 v0 4) <<< ((1 : Int32).toInt64 &&& 63)) ||| (v1.toInt64))) fun D1 => ob_lt (ob_pI D1 v0 3 ((D1.1 v0 3) + (1 : Int32))) fun D2 => (if (63 : Int32) < (D2.1 v0 3) then f_Receiver_collect_L52 S v0 D2 else (if (D2.1 v0 3) ≤ (56 : Int32) then ob_bv (f_Receiver_divide S v0 v1 D2) fun D6 => f_Receiver_collect_L52 S v0 D6 else ob_bv (f_Receiver_divide S v0 ((1 : Int32) - v1) D2) fun D8 => f_Receiver_collect_L52 S v0 D8))
theorem c_Receiver_collect {l : Launch} {E : ob_E} {S : ob_S} {D : ob_D} {v0 : Nat} {v1 : Int32} {r : Int32} {D' : ob_D} (hp_v0 : S.1 v0 = 4) (h : f_Receiver_collect S v0 v1 D = some (r, D')) : ob_M l E k_Receiver_collect [.ref v0, .int v1] S D (some (.int r)) S D' := by
  refine ob_ofV (lo := [(0, .ref v0), (1, .int v1)]) (by decide) rfl (Nat.le_of_ble_eq_true rfl) rfl (Nat.le_refl _) (Nat.le_refl _) ?_
  rw [f_Receiver_collect] at h
  refine ob_aload d_Receiver_collect_0 rfl ?_
  refine ob_aload d_Receiver_collect_1 rfl ?_
  refine ob_getL d_Receiver_collect_2 F_3_4 l_Receiver_53 hp_v0 ?_
  refine ob_push d_Receiver_collect_5 ?_
  refine ob_lshl d_Receiver_collect_6 ?_
  refine ob_iload d_Receiver_collect_7 rfl ?_
  refine ob_i2l d_Receiver_collect_8 ?_
  refine ob_lor d_Receiver_collect_9 ?_
  replace h := ob_lt_e h
  refine ob_putJ d_Receiver_collect_10 F_3_4 l_Receiver_53 hp_v0 ?_
  refine ob_aload d_Receiver_collect_13 rfl ?_
  refine ob_dup d_Receiver_collect_14 rfl ?_
  refine ob_getI d_Receiver_collect_15 F_3_3 l_Receiver_31 hp_v0 ?_
  refine ob_push d_Receiver_collect_18 ?_
  refine ob_iadd d_Receiver_collect_19 ?_
  replace h := ob_lt_e h
  refine ob_putI d_Receiver_collect_20 F_3_3 l_Receiver_31 hp_v0 ?_
  refine ob_aload d_Receiver_collect_23 rfl ?_
  refine ob_getI d_Receiver_collect_24 F_3_3 l_Receiver_31 hp_v0 ?_
  refine ob_push d_Receiver_collect_27 ?_
  refine ob_icmp_gt d_Receiver_collect_29 (fun hc => ?_) (fun hc => ?_)
  · replace h := ob_ift hc h
    refine ob_sub (lo2 := [(0, .ref v0)]) [0] rfl ?_
    exact v_Receiver_collect_L52 v0 (ob_pI (ob_pL D v0 4 (((D.2.2 v0 4) <<< ((1 : Int32).toInt64 &&& 63)) ||| (v1.toInt64))) v0 3 (((ob_pL D v0 4 (((D.2.2 v0 4) <<< ((1 : Int32).toInt64 &&& 63)) ||| (v1.toInt64))).1 v0 3) + (1 : Int32))) hp_v0 h
  · replace h := ob_iff hc h
    refine ob_aload d_Receiver_collect_32 rfl ?_
    refine ob_aload d_Receiver_collect_33 rfl ?_
    refine ob_getI d_Receiver_collect_34 F_3_3 l_Receiver_31 hp_v0 ?_
    refine ob_push d_Receiver_collect_37 ?_
    refine ob_icmp_le d_Receiver_collect_39 (fun hc => ?_) (fun hc => ?_)
    · replace h := ob_ift hc h
      refine ob_iload d_Receiver_collect_48 rfl ?_
      obtain ⟨D6, h7, h⟩ := ob_bv_e h
      refine ob_callVv (As := [.int v1]) (rest := []) d_Receiver_collect_49 c_Receiver_collect_60 hp_v0 rfl rfl (Nat.le_of_ble_eq_true rfl) (c_Receiver_divide hp_v0 h7) ⟨Nat.le_refl _, Nat.le_refl _⟩ ⟨Nat.le_refl _, Nat.le_refl _⟩ ?_
      refine ob_sub (lo2 := [(0, .ref v0)]) [0] rfl ?_
      exact v_Receiver_collect_L52 v0 D6 hp_v0 h
    · replace h := ob_iff hc h
      refine ob_push d_Receiver_collect_42 ?_
      refine ob_iload d_Receiver_collect_43 rfl ?_
      refine ob_isub d_Receiver_collect_44 ?_
      refine ob_goto d_Receiver_collect_45 ?_
      obtain ⟨D8, h9, h⟩ := ob_bv_e h
      refine ob_callVv (As := [.int ((1 : Int32) - v1)]) (rest := []) d_Receiver_collect_49 c_Receiver_collect_60 hp_v0 rfl rfl (Nat.le_of_ble_eq_true rfl) (c_Receiver_divide hp_v0 h9) ⟨Nat.le_refl _, Nat.le_refl _⟩ ⟨Nat.le_refl _, Nat.le_refl _⟩ ?_
      refine ob_sub (lo2 := [(0, .ref v0)]) [0] rfl ?_
      exact v_Receiver_collect_L52 v0 D8 hp_v0 h
-- OrbitBox$Receiver.hear(I)Z
theorem d_Receiver_hear_18 : ob_dk k_Receiver_hear 18 19 (1 : Int32) (.iconst 1) 1 := ⟨by decide +kernel, rfl, show Int32.ofInt 1 = (1 : Int32) by decide +kernel⟩
theorem d_Receiver_hear_33 : ob_dk k_Receiver_hear 33 34 (1 : Int32) (.iconst 1) 1 := ⟨by decide +kernel, rfl, show Int32.ofInt 1 = (1 : Int32) by decide +kernel⟩
theorem d_Receiver_hear_35 : ob_dk k_Receiver_hear 35 37 (16 : Int32) (.bipush 16) 2 := ⟨by decide +kernel, rfl, show (Int8.ofInt 16).toInt32 = (16 : Int32) by decide +kernel⟩
theorem d_Receiver_hear_47 : ob_dk k_Receiver_hear 47 49 (16 : Int32) (.bipush 16) 2 := ⟨by decide +kernel, rfl, show (Int8.ofInt 16).toInt32 = (16 : Int32) by decide +kernel⟩
theorem d_Receiver_hear_83 : ob_dk k_Receiver_hear 83 84 (0 : Int32) (.iconst 0) 1 := ⟨by decide +kernel, rfl, show Int32.ofInt 0 = (0 : Int32) by decide +kernel⟩
theorem d_Receiver_hear_84 : ob_dc k_Receiver_hear 84 (.ireturn) 1 85 := ⟨by decide +kernel, rfl⟩
theorem d_Receiver_hear_62 : ob_dk k_Receiver_hear 62 63 (1 : Int32) (.iconst 1) 1 := ⟨by decide +kernel, rfl, show Int32.ofInt 1 = (1 : Int32) by decide +kernel⟩
theorem d_Receiver_hear_67 : ob_dk k_Receiver_hear 67 68 (1 : Int32) (.iconst 1) 1 := ⟨by decide +kernel, rfl, show Int32.ofInt 1 = (1 : Int32) by decide +kernel⟩
theorem d_Receiver_hear_75 : ob_dk k_Receiver_hear 75 76 (0 : Int32) (.iconst 0) 1 := ⟨by decide +kernel, rfl, show Int32.ofInt 0 = (0 : Int32) by decide +kernel⟩
theorem d_Receiver_hear_80 : ob_dc k_Receiver_hear 80 (.invokevirtual 50) 3 83 := ⟨by decide +kernel, rfl⟩
theorem d_Receiver_hear_79 : ob_dv ob_ac k_Receiver_hear 79 80 0 (.aload_n 0) 1 := ⟨by decide +kernel, rfl, rfl⟩
theorem d_Receiver_hear_76 : ob_dc k_Receiver_hear 76 (.putfield 47) 3 79 := ⟨by decide +kernel, rfl⟩
theorem d_Receiver_hear_72 : ob_dc k_Receiver_hear 72 (.getfield 14) 3 75 := ⟨by decide +kernel, rfl⟩
theorem d_Receiver_hear_71 : ob_dv ob_ac k_Receiver_hear 71 72 0 (.aload_n 0) 1 := ⟨by decide +kernel, rfl, rfl⟩
theorem d_Receiver_hear_68 : ob_dc k_Receiver_hear 68 (.putfield 18) 3 71 := ⟨by decide +kernel, rfl⟩
theorem d_Receiver_hear_66 : ob_dv ob_ac k_Receiver_hear 66 67 0 (.aload_n 0) 1 := ⟨by decide +kernel, rfl, rfl⟩
theorem d_Receiver_hear_63 : ob_db k_Receiver_hear 63 (.if_icmp .gt 20) 20 66 83 := ⟨by decide +kernel, rfl, by decide⟩
theorem d_Receiver_hear_59 : ob_dc k_Receiver_hear 59 (.invokestatic 41) 3 62 := ⟨by decide +kernel, rfl⟩
theorem d_Receiver_hear_58 : ob_dc k_Receiver_hear 58 (.ixor) 1 59 := ⟨by decide +kernel, rfl⟩
theorem d_Receiver_hear_56 : ob_dc k_Receiver_hear 56 (.ldc 40) 2 58 := ⟨by decide +kernel, rfl⟩
theorem d_Receiver_hear_53 : ob_dc k_Receiver_hear 53 (.getfield 26) 3 56 := ⟨by decide +kernel, rfl⟩
theorem d_Receiver_hear_52 : ob_dv ob_ac k_Receiver_hear 52 53 0 (.aload_n 0) 1 := ⟨by decide +kernel, rfl, rfl⟩
theorem d_Receiver_hear_49 : ob_db k_Receiver_hear 49 (.if_icmp .ne 34) 34 52 83 := ⟨by decide +kernel, rfl, by decide⟩
theorem d_Receiver_hear_44 : ob_dc k_Receiver_hear 44 (.getfield 31) 3 47 := ⟨by decide +kernel, rfl⟩
theorem d_Receiver_hear_43 : ob_dv ob_ac k_Receiver_hear 43 44 0 (.aload_n 0) 1 := ⟨by decide +kernel, rfl, rfl⟩
theorem d_Receiver_hear_40 : ob_dc k_Receiver_hear 40 (.putfield 31) 3 43 := ⟨by decide +kernel, rfl⟩
theorem d_Receiver_hear_37 : ob_dc k_Receiver_hear 37 (.invokestatic 34) 3 40 := ⟨by decide +kernel, rfl⟩
theorem d_Receiver_hear_34 : ob_dc k_Receiver_hear 34 (.iadd) 1 35 := ⟨by decide +kernel, rfl⟩
theorem d_Receiver_hear_30 : ob_dc k_Receiver_hear 30 (.getfield 31) 3 33 := ⟨by decide +kernel, rfl⟩
theorem d_Receiver_hear_29 : ob_dv ob_ac k_Receiver_hear 29 30 0 (.aload_n 0) 1 := ⟨by decide +kernel, rfl, rfl⟩
theorem d_Receiver_hear_28 : ob_dv ob_ac k_Receiver_hear 28 29 0 (.aload_n 0) 1 := ⟨by decide +kernel, rfl, rfl⟩
theorem d_Receiver_hear_25 : ob_dc k_Receiver_hear 25 (.putfield 26) 3 28 := ⟨by decide +kernel, rfl⟩
theorem d_Receiver_hear_24 : ob_dc k_Receiver_hear 24 (.iand) 1 25 := ⟨by decide +kernel, rfl⟩
theorem d_Receiver_hear_22 : ob_dc k_Receiver_hear 22 (.ldc 30) 2 24 := ⟨by decide +kernel, rfl⟩
theorem d_Receiver_hear_21 : ob_dc k_Receiver_hear 21 (.ior) 1 22 := ⟨by decide +kernel, rfl⟩
theorem d_Receiver_hear_20 : ob_dv ob_lc k_Receiver_hear 20 21 1 (.iload_n 1) 1 := ⟨by decide +kernel, rfl, rfl⟩
theorem d_Receiver_hear_19 : ob_dc k_Receiver_hear 19 (.ishl) 1 20 := ⟨by decide +kernel, rfl⟩
theorem d_Receiver_hear_15 : ob_dc k_Receiver_hear 15 (.getfield 26) 3 18 := ⟨by decide +kernel, rfl⟩
theorem d_Receiver_hear_14 : ob_dv ob_ac k_Receiver_hear 14 15 0 (.aload_n 0) 1 := ⟨by decide +kernel, rfl, rfl⟩
theorem d_Receiver_hear_13 : ob_dv ob_ac k_Receiver_hear 13 14 0 (.aload_n 0) 1 := ⟨by decide +kernel, rfl, rfl⟩
theorem d_Receiver_hear_12 : ob_dc k_Receiver_hear 12 (.ireturn) 1 13 := ⟨by decide +kernel, rfl⟩
theorem d_Receiver_hear_9 : ob_dc k_Receiver_hear 9 (.invokevirtual 22) 3 12 := ⟨by decide +kernel, rfl⟩
theorem d_Receiver_hear_8 : ob_dv ob_lc k_Receiver_hear 8 9 1 (.iload_n 1) 1 := ⟨by decide +kernel, rfl, rfl⟩
theorem d_Receiver_hear_7 : ob_dv ob_ac k_Receiver_hear 7 8 0 (.aload_n 0) 1 := ⟨by decide +kernel, rfl, rfl⟩
theorem d_Receiver_hear_4 : ob_db k_Receiver_hear 4 (.ifCond .eq 9) 9 7 13 := ⟨by decide +kernel, rfl, by decide⟩
theorem d_Receiver_hear_1 : ob_dc k_Receiver_hear 1 (.getfield 18) 3 4 := ⟨by decide +kernel, rfl⟩
theorem d_Receiver_hear_0 : ob_dv ob_ac k_Receiver_hear 0 1 0 (.aload_n 0) 1 := ⟨by decide +kernel, rfl, rfl⟩
theorem c_Receiver_hear_50 : ob_vd k_Receiver_hear k_Receiver_beginBlock 50 0 3 := ⟨cw_Receiver_beginBlock, yd_Receiver_beginBlock, w_503, w_505, wp_4, w_3, ⟨_, _, rfl⟩, by decide, by decide⟩
theorem c_Receiver_hear_41 : ob_sd k_Receiver_hear k_Integer_bitCount 41 1 := ⟨cw_Integer_bitCount, yd_Integer_bitCount, w_510, w_511, w_15, by decide, by decide⟩
theorem c_Receiver_hear_22 : ob_vd k_Receiver_hear k_Receiver_collect 22 1 3 := ⟨cw_Receiver_collect, yd_Receiver_collect, w_486, w_488, wp_0, w_3, ⟨_, _, rfl⟩, by decide, by decide⟩
def f_Receiver_hear (S : ob_S) (v0 : Nat) (v1 : Int32) (D : ob_D) : Option (Int32 × ob_D) :=
  (if (D.1 v0 1) = 0 then ob_lt (ob_pI D v0 2 ((((D.1 v0 2) <<< ((1 : Int32) &&& 31)) ||| v1) &&& (65535 : Int32))) fun D1 => ob_lt (ob_pI D1 v0 3 (ob_mn ((D1.1 v0 3) + (1 : Int32)) (16 : Int32))) fun D2 => (if (D2.1 v0 3) = (16 : Int32) then ob_bd (f_Integer_bitCount S ((D2.1 v0 2) ^^^ (60304 : Int32)) D2) fun x5 D3 => (if (1 : Int32) < x5 then some ((0 : Int32), D3) else ob_lt (ob_pI D3 v0 1 (1 : Int32)) fun D6 => if D6.2.1 v0 0 ≠ 0 then ob_lt (ob_pI D6 (D6.2.1 v0 0) 1 (0 : Int32)) fun D9 => ob_bv (f_Receiver_beginBlock S v0 D9) fun D10 => some ((0 : Int32), D10) else none) else some ((0 : Int32), D2)) else ob_bd (f_Receiver_collect S v0 v1 D) fun x14 D12 => if (x14 = 0 ∨ x14 = 1) then some (x14, D12) else none)
theorem c_Receiver_hear {l : Launch} {E : ob_E} {S : ob_S} {D : ob_D} {v0 : Nat} {v1 : Int32} {r : Int32} {D' : ob_D} (hp_v0 : S.1 v0 = 4) (h : f_Receiver_hear S v0 v1 D = some (r, D')) : ob_M l E k_Receiver_hear [.ref v0, .int v1] S D (some (.int r)) S D' := by
  refine ob_ofV (lo := [(0, .ref v0), (1, .int v1)]) (by decide) rfl (Nat.le_of_ble_eq_true rfl) rfl (Nat.le_refl _) (Nat.le_refl _) ?_
  rw [f_Receiver_hear] at h
  refine ob_aload d_Receiver_hear_0 rfl ?_
  refine ob_getI d_Receiver_hear_1 F_3_1 l_Receiver_18 hp_v0 ?_
  refine ob_if_eq d_Receiver_hear_4 (fun hc => ?_) (fun hc => ?_)
  · replace h := ob_ift hc h
    refine ob_aload d_Receiver_hear_13 rfl ?_
    refine ob_aload d_Receiver_hear_14 rfl ?_
    refine ob_getI d_Receiver_hear_15 F_3_2 l_Receiver_26 hp_v0 ?_
    refine ob_push d_Receiver_hear_18 ?_
    refine ob_ishl d_Receiver_hear_19 ?_
    refine ob_iload d_Receiver_hear_20 rfl ?_
    refine ob_ior d_Receiver_hear_21 ?_
    refine ob_ldc (idx := 30) d_Receiver_hear_22 (Or.inl ⟨rfl, rfl⟩) w_507 ?_
    refine ob_iand d_Receiver_hear_24 ?_
    replace h := ob_lt_e h
    refine ob_putI d_Receiver_hear_25 F_3_2 l_Receiver_26 hp_v0 ?_
    refine ob_aload d_Receiver_hear_28 rfl ?_
    refine ob_aload d_Receiver_hear_29 rfl ?_
    refine ob_getI d_Receiver_hear_30 F_3_3 l_Receiver_31 hp_v0 ?_
    refine ob_push d_Receiver_hear_33 ?_
    refine ob_iadd d_Receiver_hear_34 ?_
    refine ob_push d_Receiver_hear_35 ?_
    refine ob_mmin d_Receiver_hear_37 w_508 w_137 w_6 w_138 (by decide) (Nat.le_of_ble_eq_true rfl) ⟨Nat.le_refl _, Nat.le_refl _⟩ ?_
    replace h := ob_lt_e h
    refine ob_putI d_Receiver_hear_40 F_3_3 l_Receiver_31 hp_v0 ?_
    refine ob_aload d_Receiver_hear_43 rfl ?_
    refine ob_getI d_Receiver_hear_44 F_3_3 l_Receiver_31 hp_v0 ?_
    refine ob_push d_Receiver_hear_47 ?_
    refine ob_icmp_ne d_Receiver_hear_49 (fun hc => ?_) (fun hc => ?_)
    · replace h := ob_iff hc h
      refine ob_push d_Receiver_hear_83 ?_
      exact ob_ie h (ob_iret d_Receiver_hear_84 rfl rfl)
    · replace h := ob_ift hc h
      refine ob_aload d_Receiver_hear_52 rfl ?_
      refine ob_getI d_Receiver_hear_53 F_3_2 l_Receiver_26 hp_v0 ?_
      refine ob_ldc (idx := 40) d_Receiver_hear_56 (Or.inl ⟨rfl, rfl⟩) w_509 ?_
      refine ob_ixor d_Receiver_hear_58 ?_
      obtain ⟨x5, D3, h4, h⟩ := ob_bd_e h
      refine ob_callSi (As := [.int (((ob_pI (ob_pI D v0 2 ((((D.1 v0 2) <<< ((1 : Int32) &&& 31)) ||| v1) &&& (65535 : Int32))) v0 3 (ob_mn (((ob_pI D v0 2 ((((D.1 v0 2) <<< ((1 : Int32) &&& 31)) ||| v1) &&& (65535 : Int32))).1 v0 3) + (1 : Int32)) (16 : Int32))).1 v0 2) ^^^ (60304 : Int32))]) (rest := []) d_Receiver_hear_59 c_Receiver_hear_41 rfl rfl (Nat.le_of_ble_eq_true rfl) (c_Integer_bitCount  h4) ⟨Nat.le_refl _, Nat.le_refl _⟩ ⟨Nat.le_refl _, Nat.le_refl _⟩ ?_
      refine ob_push d_Receiver_hear_62 ?_
      refine ob_icmp_gt d_Receiver_hear_63 (fun hc => ?_) (fun hc => ?_)
      · replace h := ob_ift hc h
        refine ob_push d_Receiver_hear_83 ?_
        exact ob_ie h (ob_iret d_Receiver_hear_84 rfl rfl)
      · replace h := ob_iff hc h
        refine ob_aload d_Receiver_hear_66 rfl ?_
        refine ob_push d_Receiver_hear_67 ?_
        replace h := ob_lt_e h
        refine ob_putZ d_Receiver_hear_68 F_3_1 l_Receiver_18 hp_v0 (Or.inr rfl) ?_
        refine ob_aload d_Receiver_hear_71 rfl ?_
        obtain ⟨hg8, h⟩ := ob_gd h
        refine ob_getR d_Receiver_hear_72 F_3_0 l_Receiver_14 hp_v0 hg8 (fun hk7 => ?_)
        refine ob_push d_Receiver_hear_75 ?_
        replace h := ob_lt_e h
        refine ob_putI d_Receiver_hear_76 F_1_1 l_Receiver_47 hk7 ?_
        refine ob_aload d_Receiver_hear_79 rfl ?_
        obtain ⟨D10, h11, h⟩ := ob_bv_e h
        refine ob_callVv (As := []) (rest := []) d_Receiver_hear_80 c_Receiver_hear_50 hp_v0 rfl rfl (Nat.le_of_ble_eq_true rfl) (c_Receiver_beginBlock hp_v0 h11) ⟨Nat.le_refl _, Nat.le_refl _⟩ ⟨Nat.le_refl _, Nat.le_refl _⟩ ?_
        refine ob_push d_Receiver_hear_83 ?_
        exact ob_ie h (ob_iret d_Receiver_hear_84 rfl rfl)
  · replace h := ob_iff hc h
    refine ob_aload d_Receiver_hear_7 rfl ?_
    refine ob_iload d_Receiver_hear_8 rfl ?_
    obtain ⟨x14, D12, h13, h⟩ := ob_bd_e h
    refine ob_callVi (As := [.int v1]) (rest := []) d_Receiver_hear_9 c_Receiver_hear_22 hp_v0 rfl rfl (Nat.le_of_ble_eq_true rfl) (c_Receiver_collect hp_v0 h13) ⟨Nat.le_refl _, Nat.le_refl _⟩ ⟨Nat.le_refl _, Nat.le_refl _⟩ ?_
    obtain ⟨hz15, h⟩ := ob_gd h
    exact ob_ie h (ob_iret d_Receiver_hear_12 rfl (ob_nar1 hz15))
-- OrbitBox$Gate.bodyLength(LOrbitBox$Row;)I
theorem d_Gate_bodyLength_1 : ob_dk k_Gate_bodyLength 1 2 (2 : Int32) (.iconst 2) 1 := ⟨by decide +kernel, rfl, show Int32.ofInt 2 = (2 : Int32) by decide +kernel⟩
theorem d_Gate_bodyLength_2 : ob_dk k_Gate_bodyLength 2 3 (2 : Int32) (.iconst 2) 1 := ⟨by decide +kernel, rfl, show Int32.ofInt 2 = (2 : Int32) by decide +kernel⟩
theorem d_Gate_bodyLength_6 : ob_dk k_Gate_bodyLength 6 7 (1 : Int32) (.iconst 1) 1 := ⟨by decide +kernel, rfl, show Int32.ofInt 1 = (1 : Int32) by decide +kernel⟩
theorem d_Gate_bodyLength_8 : ob_dk k_Gate_bodyLength 8 9 (5 : Int32) (.iconst 5) 1 := ⟨by decide +kernel, rfl, show Int32.ofInt 5 = (5 : Int32) by decide +kernel⟩
theorem d_Gate_bodyLength_10 : ob_dk k_Gate_bodyLength 10 11 (2 : Int32) (.iconst 2) 1 := ⟨by decide +kernel, rfl, show Int32.ofInt 2 = (2 : Int32) by decide +kernel⟩
theorem d_Gate_bodyLength_12 : ob_dc k_Gate_bodyLength 12 (.ireturn) 1 13 := ⟨by decide +kernel, rfl⟩
theorem d_Gate_bodyLength_11 : ob_dc k_Gate_bodyLength 11 (.isub) 1 12 := ⟨by decide +kernel, rfl⟩
theorem d_Gate_bodyLength_9 : ob_dc k_Gate_bodyLength 9 (.isub) 1 10 := ⟨by decide +kernel, rfl⟩
theorem d_Gate_bodyLength_7 : ob_dc k_Gate_bodyLength 7 (.iadd) 1 8 := ⟨by decide +kernel, rfl⟩
theorem d_Gate_bodyLength_3 : ob_dc k_Gate_bodyLength 3 (.invokevirtual 31) 3 6 := ⟨by decide +kernel, rfl⟩
theorem d_Gate_bodyLength_0 : ob_dv ob_ac k_Gate_bodyLength 0 1 0 (.aload_n 0) 1 := ⟨by decide +kernel, rfl, rfl⟩
theorem c_Gate_bodyLength_31 : ob_vd k_Gate_bodyLength k_Row_number 31 2 1 := ⟨cw_Row_number, yd_Row_number, w_523, w_479, w_480, w_2, ⟨_, _, rfl⟩, by decide, by decide⟩
def f_Gate_bodyLength (S : ob_S) (v0 : Nat) (D : ob_D) : Option (Int32 × ob_D) :=
  ob_bd (f_Row_number S v0 (2 : Int32) (2 : Int32) D) fun x3 D1 => some (((x3 + (1 : Int32)) - (5 : Int32)) - (2 : Int32), D1)
theorem c_Gate_bodyLength {l : Launch} {E : ob_E} {S : ob_S} {D : ob_D} {v0 : Nat} {r : Int32} {D' : ob_D} (hp_v0 : S.1 v0 = 2) (h : f_Gate_bodyLength S v0 D = some (r, D')) : ob_M l E k_Gate_bodyLength [.ref v0] S D (some (.int r)) S D' := by
  refine ob_ofV (lo := [(0, .ref v0)]) (by decide) rfl (Nat.le_of_ble_eq_true rfl) rfl (Nat.le_refl _) (Nat.le_refl _) ?_
  rw [f_Gate_bodyLength] at h
  refine ob_aload d_Gate_bodyLength_0 rfl ?_
  refine ob_push d_Gate_bodyLength_1 ?_
  refine ob_push d_Gate_bodyLength_2 ?_
  obtain ⟨x3, D1, h2, h⟩ := ob_bd_e h
  refine ob_callVi (As := [.int (2 : Int32), .int (2 : Int32)]) (rest := []) d_Gate_bodyLength_3 c_Gate_bodyLength_31 hp_v0 rfl rfl (Nat.le_of_ble_eq_true rfl) (c_Row_number hp_v0 h2) ⟨Nat.le_refl _, Nat.le_refl _⟩ ⟨Nat.le_refl _, Nat.le_refl _⟩ ?_
  refine ob_push d_Gate_bodyLength_6 ?_
  refine ob_iadd d_Gate_bodyLength_7 ?_
  refine ob_push d_Gate_bodyLength_8 ?_
  refine ob_isub d_Gate_bodyLength_9 ?_
  refine ob_push d_Gate_bodyLength_10 ?_
  refine ob_isub d_Gate_bodyLength_11 ?_
  exact ob_ie h (ob_iret d_Gate_bodyLength_12 rfl rfl)
-- OrbitBox$Gate.isDirective(LOrbitBox$Row;)Z
theorem d_Gate_isDirective_6 : ob_dk k_Gate_isDirective 6 7 (1 : Int32) (.iconst 1) 1 := ⟨by decide +kernel, rfl, show Int32.ofInt 1 = (1 : Int32) by decide +kernel⟩
theorem d_Gate_isDirective_20 : ob_dk k_Gate_isDirective 20 21 (3 : Int32) (.iconst 3) 1 := ⟨by decide +kernel, rfl, show Int32.ofInt 3 = (3 : Int32) by decide +kernel⟩
theorem d_Gate_isDirective_39 : ob_dk k_Gate_isDirective 39 40 (0 : Int32) (.iconst 0) 1 := ⟨by decide +kernel, rfl, show Int32.ofInt 0 = (0 : Int32) by decide +kernel⟩
theorem d_Gate_isDirective_40 : ob_dc k_Gate_isDirective 40 (.ireturn) 1 41 := ⟨by decide +kernel, rfl⟩
theorem d_Gate_isDirective_25 : ob_dk k_Gate_isDirective 25 26 (5 : Int32) (.iconst 5) 1 := ⟨by decide +kernel, rfl, show Int32.ofInt 5 = (5 : Int32) by decide +kernel⟩
theorem d_Gate_isDirective_26 : ob_dk k_Gate_isDirective 26 27 (2 : Int32) (.iconst 2) 1 := ⟨by decide +kernel, rfl, show Int32.ofInt 2 = (2 : Int32) by decide +kernel⟩
theorem d_Gate_isDirective_35 : ob_dk k_Gate_isDirective 35 36 (1 : Int32) (.iconst 1) 1 := ⟨by decide +kernel, rfl, show Int32.ofInt 1 = (1 : Int32) by decide +kernel⟩
theorem d_Gate_isDirective_36 : ob_db k_Gate_isDirective 36 (.goto 4) 4 39 40 := ⟨by decide +kernel, rfl, by decide⟩
theorem d_Gate_isDirective_32 : ob_db k_Gate_isDirective 32 (.if_icmp .ne 7) 7 35 39 := ⟨by decide +kernel, rfl, by decide⟩
theorem d_Gate_isDirective_30 : ob_dc k_Gate_isDirective 30 (.ldc 58) 2 32 := ⟨by decide +kernel, rfl⟩
theorem d_Gate_isDirective_27 : ob_dc k_Gate_isDirective 27 (.invokevirtual 31) 3 30 := ⟨by decide +kernel, rfl⟩
theorem d_Gate_isDirective_24 : ob_dv ob_ac k_Gate_isDirective 24 25 0 (.aload_n 0) 1 := ⟨by decide +kernel, rfl, rfl⟩
theorem d_Gate_isDirective_21 : ob_db k_Gate_isDirective 21 (.if_icmp .ne 18) 18 24 39 := ⟨by decide +kernel, rfl, by decide⟩
theorem d_Gate_isDirective_19 : ob_dv ob_lc k_Gate_isDirective 19 20 1 (.iload_n 1) 1 := ⟨by decide +kernel, rfl, rfl⟩
theorem d_Gate_isDirective_11 : ob_dk k_Gate_isDirective 11 12 (5 : Int32) (.iconst 5) 1 := ⟨by decide +kernel, rfl, show Int32.ofInt 5 = (5 : Int32) by decide +kernel⟩
theorem d_Gate_isDirective_12 : ob_dk k_Gate_isDirective 12 13 (1 : Int32) (.iconst 1) 1 := ⟨by decide +kernel, rfl, show Int32.ofInt 1 = (1 : Int32) by decide +kernel⟩
theorem d_Gate_isDirective_16 : ob_db k_Gate_isDirective 16 (.ifCond .eq 19) 19 19 35 := ⟨by decide +kernel, rfl, by decide⟩
theorem d_Gate_isDirective_13 : ob_dc k_Gate_isDirective 13 (.invokevirtual 31) 3 16 := ⟨by decide +kernel, rfl⟩
theorem d_Gate_isDirective_10 : ob_dv ob_ac k_Gate_isDirective 10 11 0 (.aload_n 0) 1 := ⟨by decide +kernel, rfl, rfl⟩
theorem d_Gate_isDirective_7 : ob_db k_Gate_isDirective 7 (.if_icmp .ne 12) 12 10 19 := ⟨by decide +kernel, rfl, by decide⟩
theorem d_Gate_isDirective_5 : ob_dv ob_lc k_Gate_isDirective 5 6 1 (.iload_n 1) 1 := ⟨by decide +kernel, rfl, rfl⟩
theorem d_Gate_isDirective_4 : ob_dv (ob_sc k_Gate_isDirective.2.2.2.1) k_Gate_isDirective 4 5 1 (.istore_n 1) 1 := ⟨by decide +kernel, rfl, ⟨rfl, by decide +kernel⟩⟩
theorem d_Gate_isDirective_1 : ob_dc k_Gate_isDirective 1 (.invokestatic 54) 3 4 := ⟨by decide +kernel, rfl⟩
theorem d_Gate_isDirective_0 : ob_dv ob_ac k_Gate_isDirective 0 1 0 (.aload_n 0) 1 := ⟨by decide +kernel, rfl, rfl⟩
theorem c_Gate_isDirective_31 : ob_vd k_Gate_isDirective k_Row_number 31 2 1 := ⟨cw_Row_number, yd_Row_number, w_523, w_479, w_480, w_2, ⟨_, _, rfl⟩, by decide, by decide⟩
theorem c_Gate_isDirective_54 : ob_sd k_Gate_isDirective k_Gate_bodyLength 54 1 := ⟨cw_Gate_bodyLength, yd_Gate_bodyLength, w_532, w_533, w_4, by decide, by decide⟩
def f_Gate_isDirective_L19 (S : ob_S) (v0 : Nat) (v1 : Int32) (D : ob_D) : Option (Int32 × ob_D) :=
  (if v1 = (3 : Int32) then ob_bd (f_Row_number S v0 (5 : Int32) (2 : Int32) D) fun x6 D4 => (if x6 = (33280 : Int32) then some ((1 : Int32), D4) else some ((0 : Int32), D4)) else some ((0 : Int32), D))
theorem v_Gate_isDirective_L19 {l : Launch} {E : ob_E} {S : ob_S} {r : Int32} {D' : ob_D} : ∀ (v0 : Nat) (v1 : Int32) (D : ob_D), S.1 v0 = 2 → f_Gate_isDirective_L19 S v0 v1 D = some (r, D') → ob_V l E k_Gate_isDirective 19 [(0, .ref v0), (1, .int v1)] [] S D (some (.int r)) S D' := by
  intro v0 v1 D hp_v0 h
  rw [f_Gate_isDirective_L19] at h
  refine ob_iload d_Gate_isDirective_19 rfl ?_
  refine ob_push d_Gate_isDirective_20 ?_
  refine ob_icmp_ne d_Gate_isDirective_21 (fun hc => ?_) (fun hc => ?_)
  · replace h := ob_iff hc h
    refine ob_push d_Gate_isDirective_39 ?_
    exact ob_ie h (ob_iret d_Gate_isDirective_40 rfl rfl)
  · replace h := ob_ift hc h
    refine ob_aload d_Gate_isDirective_24 rfl ?_
    refine ob_push d_Gate_isDirective_25 ?_
    refine ob_push d_Gate_isDirective_26 ?_
    obtain ⟨x6, D4, h5, h⟩ := ob_bd_e h
    refine ob_callVi (As := [.int (5 : Int32), .int (2 : Int32)]) (rest := []) d_Gate_isDirective_27 c_Gate_isDirective_31 hp_v0 rfl rfl (Nat.le_of_ble_eq_true rfl) (c_Row_number hp_v0 h5) ⟨Nat.le_refl _, Nat.le_refl _⟩ ⟨Nat.le_refl _, Nat.le_refl _⟩ ?_
    refine ob_ldc (idx := 58) d_Gate_isDirective_30 (Or.inl ⟨rfl, rfl⟩) w_535 ?_
    refine ob_icmp_ne d_Gate_isDirective_32 (fun hc => ?_) (fun hc => ?_)
    · replace h := ob_iff hc h
      refine ob_push d_Gate_isDirective_39 ?_
      exact ob_ie h (ob_iret d_Gate_isDirective_40 rfl rfl)
    · replace h := ob_ift hc h
      refine ob_push d_Gate_isDirective_35 ?_
      refine ob_goto d_Gate_isDirective_36 ?_
      exact ob_ie h (ob_iret d_Gate_isDirective_40 rfl rfl)
def f_Gate_isDirective (S : ob_S) (v0 : Nat) (D : ob_D) : Option (Int32 × ob_D) :=
  ob_bd (f_Gate_bodyLength S v0 D) fun x3 D1 => (if x3 = (1 : Int32) then ob_bd (f_Row_number S v0 (5 : Int32) (1 : Int32) D1) fun x9 D7 => (if x9 = 0 then some ((1 : Int32), D7) else f_Gate_isDirective_L19 S v0 x3 D7) else f_Gate_isDirective_L19 S v0 x3 D1)
theorem c_Gate_isDirective {l : Launch} {E : ob_E} {S : ob_S} {D : ob_D} {v0 : Nat} {r : Int32} {D' : ob_D} (hp_v0 : S.1 v0 = 2) (h : f_Gate_isDirective S v0 D = some (r, D')) : ob_M l E k_Gate_isDirective [.ref v0] S D (some (.int r)) S D' := by
  refine ob_ofV (lo := [(0, .ref v0)]) (by decide) rfl (Nat.le_of_ble_eq_true rfl) rfl (Nat.le_refl _) (Nat.le_refl _) ?_
  rw [f_Gate_isDirective] at h
  refine ob_aload d_Gate_isDirective_0 rfl ?_
  obtain ⟨x3, D1, h2, h⟩ := ob_bd_e h
  refine ob_callSi (As := [.ref v0]) (rest := []) d_Gate_isDirective_1 c_Gate_isDirective_54 rfl rfl (Nat.le_of_ble_eq_true rfl) (c_Gate_bodyLength hp_v0 h2) ⟨Nat.le_refl _, Nat.le_refl _⟩ ⟨Nat.le_refl _, Nat.le_refl _⟩ ?_
  refine ob_istore (lo2 := [(0, .ref v0), (1, .int x3)]) d_Gate_isDirective_4 rfl ?_
  refine ob_iload d_Gate_isDirective_5 rfl ?_
  refine ob_push d_Gate_isDirective_6 ?_
  refine ob_icmp_ne d_Gate_isDirective_7 (fun hc => ?_) (fun hc => ?_)
  · replace h := ob_iff hc h
    exact v_Gate_isDirective_L19 v0 x3 D1 hp_v0 h
  · replace h := ob_ift hc h
    refine ob_aload d_Gate_isDirective_10 rfl ?_
    refine ob_push d_Gate_isDirective_11 ?_
    refine ob_push d_Gate_isDirective_12 ?_
    obtain ⟨x9, D7, h8, h⟩ := ob_bd_e h
    refine ob_callVi (As := [.int (5 : Int32), .int (1 : Int32)]) (rest := []) d_Gate_isDirective_13 c_Gate_isDirective_31 hp_v0 rfl rfl (Nat.le_of_ble_eq_true rfl) (c_Row_number hp_v0 h8) ⟨Nat.le_refl _, Nat.le_refl _⟩ ⟨Nat.le_refl _, Nat.le_refl _⟩ ?_
    refine ob_if_eq d_Gate_isDirective_16 (fun hc => ?_) (fun hc => ?_)
    · replace h := ob_ift hc h
      refine ob_push d_Gate_isDirective_35 ?_
      refine ob_goto d_Gate_isDirective_36 ?_
      exact ob_ie h (ob_iret d_Gate_isDirective_40 rfl rfl)
    · replace h := ob_iff hc h
      exact v_Gate_isDirective_L19 v0 x3 D7 hp_v0 h
-- OrbitBox$Gate.isValid(LOrbitBox$Row;)Z
theorem d_Gate_isValid_1 : ob_dk k_Gate_isValid 1 2 (0 : Int32) (.iconst 0) 1 := ⟨by decide +kernel, rfl, show Int32.ofInt 0 = (0 : Int32) by decide +kernel⟩
theorem d_Gate_isValid_2 : ob_dk k_Gate_isValid 2 3 (2 : Int32) (.iconst 2) 1 := ⟨by decide +kernel, rfl, show Int32.ofInt 2 = (2 : Int32) by decide +kernel⟩
theorem d_Gate_isValid_8 : ob_dk k_Gate_isValid 8 9 (2 : Int32) (.iconst 2) 1 := ⟨by decide +kernel, rfl, show Int32.ofInt 2 = (2 : Int32) by decide +kernel⟩
theorem d_Gate_isValid_9 : ob_dk k_Gate_isValid 9 10 (2 : Int32) (.iconst 2) 1 := ⟨by decide +kernel, rfl, show Int32.ofInt 2 = (2 : Int32) by decide +kernel⟩
theorem d_Gate_isValid_15 : ob_dk k_Gate_isValid 15 18 (-12289 : Int32) (.sipush (-12289)) 3 := ⟨by decide +kernel, rfl, show (Int16.ofInt (-12289)).toInt32 = (-12289 : Int32) by decide +kernel⟩
theorem d_Gate_isValid_19 : ob_dk k_Gate_isValid 19 22 (346 : Int32) (.sipush 346) 3 := ⟨by decide +kernel, rfl, show (Int16.ofInt 346).toInt32 = (346 : Int32) by decide +kernel⟩
theorem d_Gate_isValid_38 : ob_dk k_Gate_isValid 38 39 (0 : Int32) (.iconst 0) 1 := ⟨by decide +kernel, rfl, show Int32.ofInt 0 = (0 : Int32) by decide +kernel⟩
theorem d_Gate_isValid_39 : ob_dc k_Gate_isValid 39 (.ireturn) 1 40 := ⟨by decide +kernel, rfl⟩
theorem d_Gate_isValid_26 : ob_dk k_Gate_isValid 26 28 (7 : Int32) (.bipush 7) 2 := ⟨by decide +kernel, rfl, show (Int8.ofInt 7).toInt32 = (7 : Int32) by decide +kernel⟩
theorem d_Gate_isValid_32 : ob_dk k_Gate_isValid 32 35 (1023 : Int32) (.sipush 1023) 3 := ⟨by decide +kernel, rfl, show (Int16.ofInt 1023).toInt32 = (1023 : Int32) by decide +kernel⟩
theorem d_Gate_isValid_41 : ob_dk k_Gate_isValid 41 42 (1 : Int32) (.iconst 1) 1 := ⟨by decide +kernel, rfl, show Int32.ofInt 1 = (1 : Int32) by decide +kernel⟩
theorem d_Gate_isValid_61 : ob_dk k_Gate_isValid 61 62 (0 : Int32) (.iconst 0) 1 := ⟨by decide +kernel, rfl, show Int32.ofInt 0 = (0 : Int32) by decide +kernel⟩
theorem d_Gate_isValid_62 : ob_dc k_Gate_isValid 62 (.ireturn) 1 63 := ⟨by decide +kernel, rfl⟩
theorem d_Gate_isValid_51 : ob_dk k_Gate_isValid 51 52 (0 : Int32) (.iconst 0) 1 := ⟨by decide +kernel, rfl, show Int32.ofInt 0 = (0 : Int32) by decide +kernel⟩
theorem d_Gate_isValid_53 : ob_dk k_Gate_isValid 53 54 (1 : Int32) (.iconst 1) 1 := ⟨by decide +kernel, rfl, show Int32.ofInt 1 = (1 : Int32) by decide +kernel⟩
theorem d_Gate_isValid_64 : ob_dk k_Gate_isValid 64 67 (4096 : Int32) (.sipush 4096) 3 := ⟨by decide +kernel, rfl, show (Int16.ofInt 4096).toInt32 = (4096 : Int32) by decide +kernel⟩
theorem d_Gate_isValid_86 : ob_dk k_Gate_isValid 86 87 (1 : Int32) (.iconst 1) 1 := ⟨by decide +kernel, rfl, show Int32.ofInt 1 = (1 : Int32) by decide +kernel⟩
theorem d_Gate_isValid_91 : ob_dc k_Gate_isValid 91 (.ireturn) 1 92 := ⟨by decide +kernel, rfl⟩
theorem d_Gate_isValid_87 : ob_db k_Gate_isValid 87 (.goto 4) 4 90 91 := ⟨by decide +kernel, rfl, by decide⟩
theorem d_Gate_isValid_72 : ob_dk k_Gate_isValid 72 75 (8192 : Int32) (.sipush 8192) 3 := ⟨by decide +kernel, rfl, show (Int16.ofInt 8192).toInt32 = (8192 : Int32) by decide +kernel⟩
theorem d_Gate_isValid_90 : ob_dk k_Gate_isValid 90 91 (0 : Int32) (.iconst 0) 1 := ⟨by decide +kernel, rfl, show Int32.ofInt 0 = (0 : Int32) by decide +kernel⟩
theorem d_Gate_isValid_83 : ob_db k_Gate_isValid 83 (.ifCond .eq 7) 7 86 90 := ⟨by decide +kernel, rfl, by decide⟩
theorem d_Gate_isValid_80 : ob_dc k_Gate_isValid 80 (.invokestatic 51) 3 83 := ⟨by decide +kernel, rfl⟩
theorem d_Gate_isValid_79 : ob_dv ob_ac k_Gate_isValid 79 80 0 (.aload_n 0) 1 := ⟨by decide +kernel, rfl, rfl⟩
theorem d_Gate_isValid_76 : ob_db k_Gate_isValid 76 (.ifCond .eq 14) 14 79 90 := ⟨by decide +kernel, rfl, by decide⟩
theorem d_Gate_isValid_75 : ob_dc k_Gate_isValid 75 (.iand) 1 76 := ⟨by decide +kernel, rfl⟩
theorem d_Gate_isValid_71 : ob_dv ob_lc k_Gate_isValid 71 72 1 (.iload_n 1) 1 := ⟨by decide +kernel, rfl, rfl⟩
theorem d_Gate_isValid_68 : ob_db k_Gate_isValid 68 (.ifCond .eq 18) 18 71 86 := ⟨by decide +kernel, rfl, by decide⟩
theorem d_Gate_isValid_67 : ob_dc k_Gate_isValid 67 (.iand) 1 68 := ⟨by decide +kernel, rfl⟩
theorem d_Gate_isValid_63 : ob_dv ob_lc k_Gate_isValid 63 64 1 (.iload_n 1) 1 := ⟨by decide +kernel, rfl, rfl⟩
theorem d_Gate_isValid_58 : ob_db k_Gate_isValid 58 (.ifCond .eq 5) 5 61 63 := ⟨by decide +kernel, rfl, by decide⟩
theorem d_Gate_isValid_55 : ob_dc k_Gate_isValid 55 (.invokevirtual 48) 3 58 := ⟨by decide +kernel, rfl⟩
theorem d_Gate_isValid_54 : ob_dc k_Gate_isValid 54 (.iadd) 1 55 := ⟨by decide +kernel, rfl⟩
theorem d_Gate_isValid_52 : ob_dv ob_lc k_Gate_isValid 52 53 2 (.iload_n 2) 1 := ⟨by decide +kernel, rfl, rfl⟩
theorem d_Gate_isValid_50 : ob_dv ob_ac k_Gate_isValid 50 51 0 (.aload_n 0) 1 := ⟨by decide +kernel, rfl, rfl⟩
theorem d_Gate_isValid_47 : ob_db k_Gate_isValid 47 (.if_icmp .gt 14) 14 50 61 := ⟨by decide +kernel, rfl, by decide⟩
theorem d_Gate_isValid_44 : ob_dc k_Gate_isValid 44 (.getfield 45) 3 47 := ⟨by decide +kernel, rfl⟩
theorem d_Gate_isValid_43 : ob_dv ob_ac k_Gate_isValid 43 44 0 (.aload_n 0) 1 := ⟨by decide +kernel, rfl, rfl⟩
theorem d_Gate_isValid_42 : ob_dc k_Gate_isValid 42 (.iadd) 1 43 := ⟨by decide +kernel, rfl⟩
theorem d_Gate_isValid_40 : ob_dv ob_lc k_Gate_isValid 40 41 2 (.iload_n 2) 1 := ⟨by decide +kernel, rfl, rfl⟩
theorem d_Gate_isValid_35 : ob_db k_Gate_isValid 35 (.if_icmp .le 5) 5 38 40 := ⟨by decide +kernel, rfl, by decide⟩
theorem d_Gate_isValid_31 : ob_dv ob_lc k_Gate_isValid 31 32 2 (.iload_n 2) 1 := ⟨by decide +kernel, rfl, rfl⟩
theorem d_Gate_isValid_28 : ob_db k_Gate_isValid 28 (.if_icmp .lt 10) 10 31 38 := ⟨by decide +kernel, rfl, by decide⟩
theorem d_Gate_isValid_25 : ob_dv ob_lc k_Gate_isValid 25 26 2 (.iload_n 2) 1 := ⟨by decide +kernel, rfl, rfl⟩
theorem d_Gate_isValid_22 : ob_db k_Gate_isValid 22 (.if_icmp .ne 16) 16 25 38 := ⟨by decide +kernel, rfl, by decide⟩
theorem d_Gate_isValid_18 : ob_dc k_Gate_isValid 18 (.iand) 1 19 := ⟨by decide +kernel, rfl⟩
theorem d_Gate_isValid_14 : ob_dv ob_lc k_Gate_isValid 14 15 1 (.iload_n 1) 1 := ⟨by decide +kernel, rfl, rfl⟩
theorem d_Gate_isValid_13 : ob_dv (ob_sc k_Gate_isValid.2.2.2.1) k_Gate_isValid 13 14 2 (.istore_n 2) 1 := ⟨by decide +kernel, rfl, ⟨rfl, by decide +kernel⟩⟩
theorem d_Gate_isValid_10 : ob_dc k_Gate_isValid 10 (.invokevirtual 31) 3 13 := ⟨by decide +kernel, rfl⟩
theorem d_Gate_isValid_7 : ob_dv ob_ac k_Gate_isValid 7 8 0 (.aload_n 0) 1 := ⟨by decide +kernel, rfl, rfl⟩
theorem d_Gate_isValid_6 : ob_dv (ob_sc k_Gate_isValid.2.2.2.1) k_Gate_isValid 6 7 1 (.istore_n 1) 1 := ⟨by decide +kernel, rfl, ⟨rfl, by decide +kernel⟩⟩
theorem d_Gate_isValid_3 : ob_dc k_Gate_isValid 3 (.invokevirtual 31) 3 6 := ⟨by decide +kernel, rfl⟩
theorem d_Gate_isValid_0 : ob_dv ob_ac k_Gate_isValid 0 1 0 (.aload_n 0) 1 := ⟨by decide +kernel, rfl, rfl⟩
theorem c_Gate_isValid_51 : ob_sd k_Gate_isValid k_Gate_isDirective 51 1 := ⟨cw_Gate_isDirective, yd_Gate_isDirective, w_529, w_530, w_4, by decide, by decide⟩
theorem c_Gate_isValid_48 : ob_vd k_Gate_isValid k_Row_check 48 2 1 := ⟨cw_Row_check, yd_Row_check, w_524, w_525, w_526, w_2, ⟨_, _, rfl⟩, by decide, by decide⟩
theorem c_Gate_isValid_31 : ob_vd k_Gate_isValid k_Row_number 31 2 1 := ⟨cw_Row_number, yd_Row_number, w_523, w_479, w_480, w_2, ⟨_, _, rfl⟩, by decide, by decide⟩
def f_Gate_isValid (S : ob_S) (v0 : Nat) (D : ob_D) : Option (Int32 × ob_D) :=
  ob_bd (f_Row_number S v0 (0 : Int32) (2 : Int32) D) fun x3 D1 => ob_bd (f_Row_number S v0 (2 : Int32) (2 : Int32) D1) fun x6 D4 => (if (x3 &&& (-12289 : Int32)) = (346 : Int32) then (if x6 < (7 : Int32) then some ((0 : Int32), D4) else (if x6 ≤ (1023 : Int32) then (if (D4.1 v0 1) < (x6 + (1 : Int32)) then some ((0 : Int32), D4) else ob_bd (f_Row_check S v0 (0 : Int32) (x6 + (1 : Int32)) D4) fun x9 D7 => (if x9 = 0 then (if (x3 &&& (4096 : Int32)) = 0 then some ((1 : Int32), D7) else (if (x3 &&& (8192 : Int32)) = 0 then some ((0 : Int32), D7) else ob_bd (f_Gate_isDirective S v0 D7) fun x12 D10 => (if x12 = 0 then some ((0 : Int32), D10) else some ((1 : Int32), D10)))) else some ((0 : Int32), D7))) else some ((0 : Int32), D4))) else some ((0 : Int32), D4))
theorem c_Gate_isValid {l : Launch} {E : ob_E} {S : ob_S} {D : ob_D} {v0 : Nat} {r : Int32} {D' : ob_D} (hp_v0 : S.1 v0 = 2) (h : f_Gate_isValid S v0 D = some (r, D')) : ob_M l E k_Gate_isValid [.ref v0] S D (some (.int r)) S D' := by
  refine ob_ofV (lo := [(0, .ref v0)]) (by decide) rfl (Nat.le_of_ble_eq_true rfl) rfl (Nat.le_refl _) (Nat.le_refl _) ?_
  rw [f_Gate_isValid] at h
  refine ob_aload d_Gate_isValid_0 rfl ?_
  refine ob_push d_Gate_isValid_1 ?_
  refine ob_push d_Gate_isValid_2 ?_
  obtain ⟨x3, D1, h2, h⟩ := ob_bd_e h
  refine ob_callVi (As := [.int (0 : Int32), .int (2 : Int32)]) (rest := []) d_Gate_isValid_3 c_Gate_isValid_31 hp_v0 rfl rfl (Nat.le_of_ble_eq_true rfl) (c_Row_number hp_v0 h2) ⟨Nat.le_refl _, Nat.le_refl _⟩ ⟨Nat.le_refl _, Nat.le_refl _⟩ ?_
  refine ob_istore (lo2 := [(0, .ref v0), (1, .int x3)]) d_Gate_isValid_6 rfl ?_
  refine ob_aload d_Gate_isValid_7 rfl ?_
  refine ob_push d_Gate_isValid_8 ?_
  refine ob_push d_Gate_isValid_9 ?_
  obtain ⟨x6, D4, h5, h⟩ := ob_bd_e h
  refine ob_callVi (As := [.int (2 : Int32), .int (2 : Int32)]) (rest := []) d_Gate_isValid_10 c_Gate_isValid_31 hp_v0 rfl rfl (Nat.le_of_ble_eq_true rfl) (c_Row_number hp_v0 h5) ⟨Nat.le_refl _, Nat.le_refl _⟩ ⟨Nat.le_refl _, Nat.le_refl _⟩ ?_
  refine ob_istore (lo2 := [(0, .ref v0), (1, .int x3), (2, .int x6)]) d_Gate_isValid_13 rfl ?_
  refine ob_iload d_Gate_isValid_14 rfl ?_
  refine ob_push d_Gate_isValid_15 ?_
  refine ob_iand d_Gate_isValid_18 ?_
  refine ob_push d_Gate_isValid_19 ?_
  refine ob_icmp_ne d_Gate_isValid_22 (fun hc => ?_) (fun hc => ?_)
  · replace h := ob_iff hc h
    refine ob_push d_Gate_isValid_38 ?_
    exact ob_ie h (ob_iret d_Gate_isValid_39 rfl rfl)
  · replace h := ob_ift hc h
    refine ob_iload d_Gate_isValid_25 rfl ?_
    refine ob_push d_Gate_isValid_26 ?_
    refine ob_icmp_lt d_Gate_isValid_28 (fun hc => ?_) (fun hc => ?_)
    · replace h := ob_ift hc h
      refine ob_push d_Gate_isValid_38 ?_
      exact ob_ie h (ob_iret d_Gate_isValid_39 rfl rfl)
    · replace h := ob_iff hc h
      refine ob_iload d_Gate_isValid_31 rfl ?_
      refine ob_push d_Gate_isValid_32 ?_
      refine ob_icmp_le d_Gate_isValid_35 (fun hc => ?_) (fun hc => ?_)
      · replace h := ob_ift hc h
        refine ob_iload d_Gate_isValid_40 rfl ?_
        refine ob_push d_Gate_isValid_41 ?_
        refine ob_iadd d_Gate_isValid_42 ?_
        refine ob_aload d_Gate_isValid_43 rfl ?_
        refine ob_getI d_Gate_isValid_44 F_1_1 l_Gate_45 hp_v0 ?_
        refine ob_icmp_gt d_Gate_isValid_47 (fun hc => ?_) (fun hc => ?_)
        · replace h := ob_ift hc h
          refine ob_push d_Gate_isValid_61 ?_
          exact ob_ie h (ob_iret d_Gate_isValid_62 rfl rfl)
        · replace h := ob_iff hc h
          refine ob_aload d_Gate_isValid_50 rfl ?_
          refine ob_push d_Gate_isValid_51 ?_
          refine ob_iload d_Gate_isValid_52 rfl ?_
          refine ob_push d_Gate_isValid_53 ?_
          refine ob_iadd d_Gate_isValid_54 ?_
          obtain ⟨x9, D7, h8, h⟩ := ob_bd_e h
          refine ob_callVi (As := [.int (0 : Int32), .int (x6 + (1 : Int32))]) (rest := []) d_Gate_isValid_55 c_Gate_isValid_48 hp_v0 rfl rfl (Nat.le_of_ble_eq_true rfl) (c_Row_check hp_v0 h8) ⟨Nat.le_refl _, Nat.le_refl _⟩ ⟨Nat.le_refl _, Nat.le_refl _⟩ ?_
          refine ob_if_eq d_Gate_isValid_58 (fun hc => ?_) (fun hc => ?_)
          · replace h := ob_ift hc h
            refine ob_iload d_Gate_isValid_63 rfl ?_
            refine ob_push d_Gate_isValid_64 ?_
            refine ob_iand d_Gate_isValid_67 ?_
            refine ob_if_eq d_Gate_isValid_68 (fun hc => ?_) (fun hc => ?_)
            · replace h := ob_ift hc h
              refine ob_push d_Gate_isValid_86 ?_
              refine ob_goto d_Gate_isValid_87 ?_
              exact ob_ie h (ob_iret d_Gate_isValid_91 rfl rfl)
            · replace h := ob_iff hc h
              refine ob_iload d_Gate_isValid_71 rfl ?_
              refine ob_push d_Gate_isValid_72 ?_
              refine ob_iand d_Gate_isValid_75 ?_
              refine ob_if_eq d_Gate_isValid_76 (fun hc => ?_) (fun hc => ?_)
              · replace h := ob_ift hc h
                refine ob_push d_Gate_isValid_90 ?_
                exact ob_ie h (ob_iret d_Gate_isValid_91 rfl rfl)
              · replace h := ob_iff hc h
                refine ob_aload d_Gate_isValid_79 rfl ?_
                obtain ⟨x12, D10, h11, h⟩ := ob_bd_e h
                refine ob_callSi (As := [.ref v0]) (rest := []) d_Gate_isValid_80 c_Gate_isValid_51 rfl rfl (Nat.le_of_ble_eq_true rfl) (c_Gate_isDirective hp_v0 h11) ⟨Nat.le_refl _, Nat.le_refl _⟩ ⟨Nat.le_refl _, Nat.le_refl _⟩ ?_
                refine ob_if_eq d_Gate_isValid_83 (fun hc => ?_) (fun hc => ?_)
                · replace h := ob_ift hc h
                  refine ob_push d_Gate_isValid_90 ?_
                  exact ob_ie h (ob_iret d_Gate_isValid_91 rfl rfl)
                · replace h := ob_iff hc h
                  refine ob_push d_Gate_isValid_86 ?_
                  refine ob_goto d_Gate_isValid_87 ?_
                  exact ob_ie h (ob_iret d_Gate_isValid_91 rfl rfl)
          · replace h := ob_iff hc h
            refine ob_push d_Gate_isValid_61 ?_
            exact ob_ie h (ob_iret d_Gate_isValid_62 rfl rfl)
      · replace h := ob_iff hc h
        refine ob_push d_Gate_isValid_38 ?_
        exact ob_ie h (ob_iret d_Gate_isValid_39 rfl rfl)
-- OrbitBox$Gate.enqueue(LOrbitBox$Row;)Z
theorem d_Gate_enqueue_4 : ob_dk k_Gate_enqueue 4 6 (8 : Int32) (.bipush 8) 2 := ⟨by decide +kernel, rfl, show (Int8.ofInt 8).toInt32 = (8 : Int32) by decide +kernel⟩
theorem d_Gate_enqueue_24 : ob_dk k_Gate_enqueue 24 26 (8 : Int32) (.bipush 8) 2 := ⟨by decide +kernel, rfl, show (Int8.ofInt 8).toInt32 = (8 : Int32) by decide +kernel⟩
theorem d_Gate_enqueue_29 : ob_dk k_Gate_enqueue 29 30 (5 : Int32) (.iconst 5) 1 := ⟨by decide +kernel, rfl, show Int32.ofInt 5 = (5 : Int32) by decide +kernel⟩
theorem d_Gate_enqueue_42 : ob_dk k_Gate_enqueue 42 43 (1 : Int32) (.iconst 1) 1 := ⟨by decide +kernel, rfl, show Int32.ofInt 1 = (1 : Int32) by decide +kernel⟩
theorem d_Gate_enqueue_52 : ob_dk k_Gate_enqueue 52 53 (1 : Int32) (.iconst 1) 1 := ⟨by decide +kernel, rfl, show Int32.ofInt 1 = (1 : Int32) by decide +kernel⟩
theorem d_Gate_enqueue_57 : ob_dk k_Gate_enqueue 57 58 (1 : Int32) (.iconst 1) 1 := ⟨by decide +kernel, rfl, show Int32.ofInt 1 = (1 : Int32) by decide +kernel⟩
theorem d_Gate_enqueue_58 : ob_dc k_Gate_enqueue 58 (.ireturn) 1 59 := ⟨by decide +kernel, rfl⟩
theorem d_Gate_enqueue_54 : ob_dc k_Gate_enqueue 54 (.putfield 85) 3 57 := ⟨by decide +kernel, rfl⟩
theorem d_Gate_enqueue_53 : ob_dc k_Gate_enqueue 53 (.iadd) 1 54 := ⟨by decide +kernel, rfl⟩
theorem d_Gate_enqueue_49 : ob_dc k_Gate_enqueue 49 (.getfield 85) 3 52 := ⟨by decide +kernel, rfl⟩
theorem d_Gate_enqueue_48 : ob_dc k_Gate_enqueue 48 (.dup) 1 49 := ⟨by decide +kernel, rfl⟩
theorem d_Gate_enqueue_47 : ob_dv ob_ac k_Gate_enqueue 47 48 0 (.aload_n 0) 1 := ⟨by decide +kernel, rfl, rfl⟩
theorem d_Gate_enqueue_44 : ob_dc k_Gate_enqueue 44 (.putfield 75) 3 47 := ⟨by decide +kernel, rfl⟩
theorem d_Gate_enqueue_43 : ob_dc k_Gate_enqueue 43 (.iadd) 1 44 := ⟨by decide +kernel, rfl⟩
theorem d_Gate_enqueue_39 : ob_dc k_Gate_enqueue 39 (.getfield 75) 3 42 := ⟨by decide +kernel, rfl⟩
theorem d_Gate_enqueue_38 : ob_dc k_Gate_enqueue 38 (.dup) 1 39 := ⟨by decide +kernel, rfl⟩
theorem d_Gate_enqueue_37 : ob_dv ob_ac k_Gate_enqueue 37 38 0 (.aload_n 0) 1 := ⟨by decide +kernel, rfl, rfl⟩
theorem d_Gate_enqueue_34 : ob_dc k_Gate_enqueue 34 (.invokevirtual 81) 3 37 := ⟨by decide +kernel, rfl⟩
theorem d_Gate_enqueue_31 : ob_dc k_Gate_enqueue 31 (.invokestatic 54) 3 34 := ⟨by decide +kernel, rfl⟩
theorem d_Gate_enqueue_30 : ob_dv ob_ac k_Gate_enqueue 30 31 1 (.aload_n 1) 1 := ⟨by decide +kernel, rfl, rfl⟩
theorem d_Gate_enqueue_28 : ob_dv ob_ac k_Gate_enqueue 28 29 1 (.aload_n 1) 1 := ⟨by decide +kernel, rfl, rfl⟩
theorem d_Gate_enqueue_27 : ob_dc k_Gate_enqueue 27 (.aaload) 1 28 := ⟨by decide +kernel, rfl⟩
theorem d_Gate_enqueue_26 : ob_dc k_Gate_enqueue 26 (.irem) 1 27 := ⟨by decide +kernel, rfl⟩
theorem d_Gate_enqueue_23 : ob_dc k_Gate_enqueue 23 (.iadd) 1 24 := ⟨by decide +kernel, rfl⟩
theorem d_Gate_enqueue_20 : ob_dc k_Gate_enqueue 20 (.getfield 75) 3 23 := ⟨by decide +kernel, rfl⟩
theorem d_Gate_enqueue_19 : ob_dv ob_ac k_Gate_enqueue 19 20 0 (.aload_n 0) 1 := ⟨by decide +kernel, rfl, rfl⟩
theorem d_Gate_enqueue_16 : ob_dc k_Gate_enqueue 16 (.getfield 78) 3 19 := ⟨by decide +kernel, rfl⟩
theorem d_Gate_enqueue_15 : ob_dv ob_ac k_Gate_enqueue 15 16 0 (.aload_n 0) 1 := ⟨by decide +kernel, rfl, rfl⟩
theorem d_Gate_enqueue_12 : ob_dc k_Gate_enqueue 12 (.getfield 13) 3 15 := ⟨by decide +kernel, rfl⟩
theorem d_Gate_enqueue_11 : ob_dv ob_ac k_Gate_enqueue 11 12 0 (.aload_n 0) 1 := ⟨by decide +kernel, rfl, rfl⟩
theorem d_Gate_enqueue_9 : ob_dk k_Gate_enqueue 9 10 (0 : Int32) (.iconst 0) 1 := ⟨by decide +kernel, rfl, show Int32.ofInt 0 = (0 : Int32) by decide +kernel⟩
theorem d_Gate_enqueue_10 : ob_dc k_Gate_enqueue 10 (.ireturn) 1 11 := ⟨by decide +kernel, rfl⟩
theorem d_Gate_enqueue_6 : ob_db k_Gate_enqueue 6 (.if_icmp .lt 5) 5 9 11 := ⟨by decide +kernel, rfl, by decide⟩
theorem d_Gate_enqueue_1 : ob_dc k_Gate_enqueue 1 (.getfield 75) 3 4 := ⟨by decide +kernel, rfl⟩
theorem d_Gate_enqueue_0 : ob_dv ob_ac k_Gate_enqueue 0 1 0 (.aload_n 0) 1 := ⟨by decide +kernel, rfl, rfl⟩
theorem c_Gate_enqueue_81 : ob_vd k_Gate_enqueue k_Row_become 81 3 1 := ⟨cw_Row_become, yd_Row_become, w_544, w_545, w_546, w_2, ⟨_, _, rfl⟩, by decide, by decide⟩
theorem c_Gate_enqueue_54 : ob_sd k_Gate_enqueue k_Gate_bodyLength 54 1 := ⟨cw_Gate_bodyLength, yd_Gate_bodyLength, w_532, w_533, w_4, by decide, by decide⟩
def f_Gate_enqueue (S : ob_S) (v0 : Nat) (v1 : Nat) (D : ob_D) : Option (Int32 × ob_D) :=
  (if (D.1 v0 2) < (8 : Int32) then if D.2.1 v0 0 ≠ 0 then if ob_in (((D.1 v0 1) + (D.1 v0 2)) - ((D.1 v0 1) + (D.1 v0 2)) / (8 : Int32) * (8 : Int32)) (S.2.1 (D.2.1 v0 0)) then if D.2.1 (D.2.1 v0 0) (((D.1 v0 1) + (D.1 v0 2)) - ((D.1 v0 1) + (D.1 v0 2)) / (8 : Int32) * (8 : Int32)).toNatClampNeg ≠ 0 then ob_bd (f_Gate_bodyLength S v1 D) fun x8 D6 => ob_bv (f_Row_become S (D.2.1 (D.2.1 v0 0) (((D.1 v0 1) + (D.1 v0 2)) - ((D.1 v0 1) + (D.1 v0 2)) / (8 : Int32) * (8 : Int32)).toNatClampNeg) v1 (5 : Int32) x8 D6) fun D9 => ob_lt (ob_pI D9 v0 2 ((D9.1 v0 2) + (1 : Int32))) fun D11 => ob_lt (ob_pI D11 v0 9 ((D11.1 v0 9) + (1 : Int32))) fun D12 => some ((1 : Int32), D12) else none else none else none else some ((0 : Int32), D))
theorem c_Gate_enqueue {l : Launch} {E : ob_E} {S : ob_S} {D : ob_D} {v0 : Nat} {v1 : Nat} {r : Int32} {D' : ob_D} (hp_v0 : S.1 v0 = 5) (hp_v1 : S.1 v1 = 2) (h : f_Gate_enqueue S v0 v1 D = some (r, D')) : ob_M l E k_Gate_enqueue [.ref v0, .ref v1] S D (some (.int r)) S D' := by
  refine ob_ofV (lo := [(0, .ref v0), (1, .ref v1)]) (by decide) rfl (Nat.le_of_ble_eq_true rfl) rfl (Nat.le_refl _) (Nat.le_refl _) ?_
  rw [f_Gate_enqueue] at h
  refine ob_aload d_Gate_enqueue_0 rfl ?_
  refine ob_getI d_Gate_enqueue_1 F_4_2 l_Gate_75 hp_v0 ?_
  refine ob_push d_Gate_enqueue_4 ?_
  refine ob_icmp_lt d_Gate_enqueue_6 (fun hc => ?_) (fun hc => ?_)
  · replace h := ob_ift hc h
    refine ob_aload d_Gate_enqueue_11 rfl ?_
    obtain ⟨hg2, h⟩ := ob_gd h
    refine ob_getR d_Gate_enqueue_12 F_4_0 l_Gate_13 hp_v0 hg2 (fun hk1 => ?_)
    refine ob_aload d_Gate_enqueue_15 rfl ?_
    refine ob_getI d_Gate_enqueue_16 F_4_1 l_Gate_78 hp_v0 ?_
    refine ob_aload d_Gate_enqueue_19 rfl ?_
    refine ob_getI d_Gate_enqueue_20 F_4_2 l_Gate_75 hp_v0 ?_
    refine ob_iadd d_Gate_enqueue_23 ?_
    refine ob_push d_Gate_enqueue_24 ?_
    refine ob_irem d_Gate_enqueue_26 (by decide) ?_
    obtain ⟨hg3, h⟩ := ob_gd h
    obtain ⟨hz4, h⟩ := ob_gd h
    refine ob_aald (j := 4) (t := 1) d_Gate_enqueue_27 hk1 (by decide) rfl rfl rfl hg3 hz4 rfl (fun hk5 => ?_)
    refine ob_aload d_Gate_enqueue_28 rfl ?_
    refine ob_push d_Gate_enqueue_29 ?_
    refine ob_aload d_Gate_enqueue_30 rfl ?_
    obtain ⟨x8, D6, h7, h⟩ := ob_bd_e h
    refine ob_callSi (As := [.ref v1]) (rest := [.int (5 : Int32), .ref v1, .ref (D.2.1 (D.2.1 v0 0) (((D.1 v0 1) + (D.1 v0 2)) - ((D.1 v0 1) + (D.1 v0 2)) / (8 : Int32) * (8 : Int32)).toNatClampNeg)]) d_Gate_enqueue_31 c_Gate_enqueue_54 rfl rfl (Nat.le_of_ble_eq_true rfl) (c_Gate_bodyLength hp_v1 h7) ⟨Nat.le_refl _, Nat.le_refl _⟩ ⟨Nat.le_refl _, Nat.le_refl _⟩ ?_
    obtain ⟨D9, h10, h⟩ := ob_bv_e h
    refine ob_callVv (As := [.ref v1, .int (5 : Int32), .int x8]) (rest := []) d_Gate_enqueue_34 c_Gate_enqueue_81 hk5 rfl rfl (Nat.le_of_ble_eq_true rfl) (c_Row_become hk5 hp_v1 h10) ⟨Nat.le_refl _, Nat.le_refl _⟩ ⟨Nat.le_refl _, Nat.le_refl _⟩ ?_
    refine ob_aload d_Gate_enqueue_37 rfl ?_
    refine ob_dup d_Gate_enqueue_38 rfl ?_
    refine ob_getI d_Gate_enqueue_39 F_4_2 l_Gate_75 hp_v0 ?_
    refine ob_push d_Gate_enqueue_42 ?_
    refine ob_iadd d_Gate_enqueue_43 ?_
    replace h := ob_lt_e h
    refine ob_putI d_Gate_enqueue_44 F_4_2 l_Gate_75 hp_v0 ?_
    refine ob_aload d_Gate_enqueue_47 rfl ?_
    refine ob_dup d_Gate_enqueue_48 rfl ?_
    refine ob_getI d_Gate_enqueue_49 F_4_9 l_Gate_85 hp_v0 ?_
    refine ob_push d_Gate_enqueue_52 ?_
    refine ob_iadd d_Gate_enqueue_53 ?_
    replace h := ob_lt_e h
    refine ob_putI d_Gate_enqueue_54 F_4_9 l_Gate_85 hp_v0 ?_
    refine ob_push d_Gate_enqueue_57 ?_
    exact ob_ie h (ob_iret d_Gate_enqueue_58 rfl rfl)
  · replace h := ob_iff hc h
    refine ob_push d_Gate_enqueue_9 ?_
    exact ob_ie h (ob_iret d_Gate_enqueue_10 rfl rfl)
-- OrbitBox$Gate.receiveInTurn(LOrbitBox$Row;)Z
theorem d_Gate_receiveInTurn_1 : ob_dk k_Gate_receiveInTurn 1 2 (4 : Int32) (.iconst 4) 1 := ⟨by decide +kernel, rfl, show Int32.ofInt 4 = (4 : Int32) by decide +kernel⟩
theorem d_Gate_receiveInTurn_2 : ob_dk k_Gate_receiveInTurn 2 3 (1 : Int32) (.iconst 1) 1 := ⟨by decide +kernel, rfl, show Int32.ofInt 1 = (1 : Int32) by decide +kernel⟩
theorem d_Gate_receiveInTurn_11 : ob_dk k_Gate_receiveInTurn 11 14 (255 : Int32) (.sipush 255) 3 := ⟨by decide +kernel, rfl, show (Int16.ofInt 255).toInt32 = (255 : Int32) by decide +kernel⟩
theorem d_Gate_receiveInTurn_17 : ob_dk k_Gate_receiveInTurn 17 19 (10 : Int32) (.bipush 10) 2 := ⟨by decide +kernel, rfl, show (Int8.ofInt 10).toInt32 = (10 : Int32) by decide +kernel⟩
theorem d_Gate_receiveInTurn_38 : ob_dk k_Gate_receiveInTurn 38 39 (1 : Int32) (.iconst 1) 1 := ⟨by decide +kernel, rfl, show Int32.ofInt 1 = (1 : Int32) by decide +kernel⟩
theorem d_Gate_receiveInTurn_48 : ob_dk k_Gate_receiveInTurn 48 49 (0 : Int32) (.iconst 0) 1 := ⟨by decide +kernel, rfl, show Int32.ofInt 0 = (0 : Int32) by decide +kernel⟩
theorem d_Gate_receiveInTurn_49 : ob_dc k_Gate_receiveInTurn 49 (.ireturn) 1 50 := ⟨by decide +kernel, rfl⟩
theorem d_Gate_receiveInTurn_43 : ob_dk k_Gate_receiveInTurn 43 45 (9 : Int32) (.bipush 9) 2 := ⟨by decide +kernel, rfl, show (Int8.ofInt 9).toInt32 = (9 : Int32) by decide +kernel⟩
theorem d_Gate_receiveInTurn_91 : ob_dk k_Gate_receiveInTurn 91 92 (1 : Int32) (.iconst 1) 1 := ⟨by decide +kernel, rfl, show Int32.ofInt 1 = (1 : Int32) by decide +kernel⟩
theorem d_Gate_receiveInTurn_93 : ob_dk k_Gate_receiveInTurn 93 96 (255 : Int32) (.sipush 255) 3 := ⟨by decide +kernel, rfl, show (Int16.ofInt 255).toInt32 = (255 : Int32) by decide +kernel⟩
theorem d_Gate_receiveInTurn_101 : ob_dk k_Gate_receiveInTurn 101 102 (0 : Int32) (.iconst 0) 1 := ⟨by decide +kernel, rfl, show Int32.ofInt 0 = (0 : Int32) by decide +kernel⟩
theorem d_Gate_receiveInTurn_105 : ob_dk k_Gate_receiveInTurn 105 106 (1 : Int32) (.iconst 1) 1 := ⟨by decide +kernel, rfl, show Int32.ofInt 1 = (1 : Int32) by decide +kernel⟩
theorem d_Gate_receiveInTurn_106 : ob_dc k_Gate_receiveInTurn 106 (.ireturn) 1 107 := ⟨by decide +kernel, rfl⟩
theorem d_Gate_receiveInTurn_102 : ob_dc k_Gate_receiveInTurn 102 (.putfield 62) 3 105 := ⟨by decide +kernel, rfl⟩
theorem d_Gate_receiveInTurn_100 : ob_dv ob_ac k_Gate_receiveInTurn 100 101 0 (.aload_n 0) 1 := ⟨by decide +kernel, rfl, rfl⟩
theorem d_Gate_receiveInTurn_97 : ob_dc k_Gate_receiveInTurn 97 (.putfield 59) 3 100 := ⟨by decide +kernel, rfl⟩
theorem d_Gate_receiveInTurn_96 : ob_dc k_Gate_receiveInTurn 96 (.iand) 1 97 := ⟨by decide +kernel, rfl⟩
theorem d_Gate_receiveInTurn_92 : ob_dc k_Gate_receiveInTurn 92 (.iadd) 1 93 := ⟨by decide +kernel, rfl⟩
theorem d_Gate_receiveInTurn_88 : ob_dc k_Gate_receiveInTurn 88 (.getfield 59) 3 91 := ⟨by decide +kernel, rfl⟩
theorem d_Gate_receiveInTurn_87 : ob_dv ob_ac k_Gate_receiveInTurn 87 88 0 (.aload_n 0) 1 := ⟨by decide +kernel, rfl, rfl⟩
theorem d_Gate_receiveInTurn_86 : ob_dv ob_ac k_Gate_receiveInTurn 86 87 0 (.aload_n 0) 1 := ⟨by decide +kernel, rfl, rfl⟩
theorem d_Gate_receiveInTurn_70 : ob_dk k_Gate_receiveInTurn 70 71 (1 : Int32) (.iconst 1) 1 := ⟨by decide +kernel, rfl, show Int32.ofInt 1 = (1 : Int32) by decide +kernel⟩
theorem d_Gate_receiveInTurn_75 : ob_dk k_Gate_receiveInTurn 75 76 (1 : Int32) (.iconst 1) 1 := ⟨by decide +kernel, rfl, show Int32.ofInt 1 = (1 : Int32) by decide +kernel⟩
theorem d_Gate_receiveInTurn_80 : ob_dk k_Gate_receiveInTurn 80 81 (2 : Int32) (.iconst 2) 1 := ⟨by decide +kernel, rfl, show Int32.ofInt 2 = (2 : Int32) by decide +kernel⟩
theorem d_Gate_receiveInTurn_84 : ob_dk k_Gate_receiveInTurn 84 85 (0 : Int32) (.iconst 0) 1 := ⟨by decide +kernel, rfl, show Int32.ofInt 0 = (0 : Int32) by decide +kernel⟩
theorem d_Gate_receiveInTurn_85 : ob_dc k_Gate_receiveInTurn 85 (.ireturn) 1 86 := ⟨by decide +kernel, rfl⟩
theorem d_Gate_receiveInTurn_81 : ob_dc k_Gate_receiveInTurn 81 (.putfield 20) 3 84 := ⟨by decide +kernel, rfl⟩
theorem d_Gate_receiveInTurn_79 : ob_dv ob_ac k_Gate_receiveInTurn 79 80 0 (.aload_n 0) 1 := ⟨by decide +kernel, rfl, rfl⟩
theorem d_Gate_receiveInTurn_76 : ob_dc k_Gate_receiveInTurn 76 (.putfield 69) 3 79 := ⟨by decide +kernel, rfl⟩
theorem d_Gate_receiveInTurn_74 : ob_dv ob_ac k_Gate_receiveInTurn 74 75 0 (.aload_n 0) 1 := ⟨by decide +kernel, rfl, rfl⟩
theorem d_Gate_receiveInTurn_71 : ob_dc k_Gate_receiveInTurn 71 (.putfield 62) 3 74 := ⟨by decide +kernel, rfl⟩
theorem d_Gate_receiveInTurn_69 : ob_dv ob_ac k_Gate_receiveInTurn 69 70 0 (.aload_n 0) 1 := ⟨by decide +kernel, rfl, rfl⟩
theorem d_Gate_receiveInTurn_66 : ob_db k_Gate_receiveInTurn 66 (.ifCond .ne 20) 20 69 86 := ⟨by decide +kernel, rfl, by decide⟩
theorem d_Gate_receiveInTurn_63 : ob_dc k_Gate_receiveInTurn 63 (.invokevirtual 66) 3 66 := ⟨by decide +kernel, rfl⟩
theorem d_Gate_receiveInTurn_62 : ob_dv ob_ac k_Gate_receiveInTurn 62 63 1 (.aload_n 1) 1 := ⟨by decide +kernel, rfl, rfl⟩
theorem d_Gate_receiveInTurn_61 : ob_dv ob_ac k_Gate_receiveInTurn 61 62 0 (.aload_n 0) 1 := ⟨by decide +kernel, rfl, rfl⟩
theorem d_Gate_receiveInTurn_55 : ob_dk k_Gate_receiveInTurn 55 56 (1 : Int32) (.iconst 1) 1 := ⟨by decide +kernel, rfl, show Int32.ofInt 1 = (1 : Int32) by decide +kernel⟩
theorem d_Gate_receiveInTurn_59 : ob_dk k_Gate_receiveInTurn 59 60 (0 : Int32) (.iconst 0) 1 := ⟨by decide +kernel, rfl, show Int32.ofInt 0 = (0 : Int32) by decide +kernel⟩
theorem d_Gate_receiveInTurn_60 : ob_dc k_Gate_receiveInTurn 60 (.ireturn) 1 61 := ⟨by decide +kernel, rfl⟩
theorem d_Gate_receiveInTurn_56 : ob_dc k_Gate_receiveInTurn 56 (.putfield 62) 3 59 := ⟨by decide +kernel, rfl⟩
theorem d_Gate_receiveInTurn_54 : ob_dv ob_ac k_Gate_receiveInTurn 54 55 0 (.aload_n 0) 1 := ⟨by decide +kernel, rfl, rfl⟩
theorem d_Gate_receiveInTurn_51 : ob_db k_Gate_receiveInTurn 51 (.ifCond .le 10) 10 54 61 := ⟨by decide +kernel, rfl, by decide⟩
theorem d_Gate_receiveInTurn_50 : ob_dv ob_lc k_Gate_receiveInTurn 50 51 2 (.iload_n 2) 1 := ⟨by decide +kernel, rfl, rfl⟩
theorem d_Gate_receiveInTurn_45 : ob_db k_Gate_receiveInTurn 45 (.if_icmp .le 5) 5 48 50 := ⟨by decide +kernel, rfl, by decide⟩
theorem d_Gate_receiveInTurn_42 : ob_dv ob_lc k_Gate_receiveInTurn 42 43 2 (.iload_n 2) 1 := ⟨by decide +kernel, rfl, rfl⟩
theorem d_Gate_receiveInTurn_39 : ob_db k_Gate_receiveInTurn 39 (.if_icmp .ne 9) 9 42 48 := ⟨by decide +kernel, rfl, by decide⟩
theorem d_Gate_receiveInTurn_35 : ob_dc k_Gate_receiveInTurn 35 (.getfield 20) 3 38 := ⟨by decide +kernel, rfl⟩
theorem d_Gate_receiveInTurn_34 : ob_dv ob_ac k_Gate_receiveInTurn 34 35 0 (.aload_n 0) 1 := ⟨by decide +kernel, rfl, rfl⟩
theorem d_Gate_receiveInTurn_23 : ob_dk k_Gate_receiveInTurn 23 26 (245 : Int32) (.sipush 245) 3 := ⟨by decide +kernel, rfl, show (Int16.ofInt 245).toInt32 = (245 : Int32) by decide +kernel⟩
theorem d_Gate_receiveInTurn_30 : ob_dk k_Gate_receiveInTurn 30 31 (3 : Int32) (.iconst 3) 1 := ⟨by decide +kernel, rfl, show Int32.ofInt 3 = (3 : Int32) by decide +kernel⟩
theorem d_Gate_receiveInTurn_31 : ob_dc k_Gate_receiveInTurn 31 (.putfield 20) 3 34 := ⟨by decide +kernel, rfl⟩
theorem d_Gate_receiveInTurn_29 : ob_dv ob_ac k_Gate_receiveInTurn 29 30 0 (.aload_n 0) 1 := ⟨by decide +kernel, rfl, rfl⟩
theorem d_Gate_receiveInTurn_26 : ob_db k_Gate_receiveInTurn 26 (.if_icmp .gt 8) 8 29 34 := ⟨by decide +kernel, rfl, by decide⟩
theorem d_Gate_receiveInTurn_22 : ob_dv ob_lc k_Gate_receiveInTurn 22 23 2 (.iload_n 2) 1 := ⟨by decide +kernel, rfl, rfl⟩
theorem d_Gate_receiveInTurn_19 : ob_db k_Gate_receiveInTurn 19 (.if_icmp .lt 15) 15 22 34 := ⟨by decide +kernel, rfl, by decide⟩
theorem d_Gate_receiveInTurn_16 : ob_dv ob_lc k_Gate_receiveInTurn 16 17 2 (.iload_n 2) 1 := ⟨by decide +kernel, rfl, rfl⟩
theorem d_Gate_receiveInTurn_15 : ob_dv (ob_sc k_Gate_receiveInTurn.2.2.2.1) k_Gate_receiveInTurn 15 16 2 (.istore_n 2) 1 := ⟨by decide +kernel, rfl, ⟨rfl, by decide +kernel⟩⟩
theorem d_Gate_receiveInTurn_14 : ob_dc k_Gate_receiveInTurn 14 (.iand) 1 15 := ⟨by decide +kernel, rfl⟩
theorem d_Gate_receiveInTurn_10 : ob_dc k_Gate_receiveInTurn 10 (.isub) 1 11 := ⟨by decide +kernel, rfl⟩
theorem d_Gate_receiveInTurn_7 : ob_dc k_Gate_receiveInTurn 7 (.getfield 59) 3 10 := ⟨by decide +kernel, rfl⟩
theorem d_Gate_receiveInTurn_6 : ob_dv ob_ac k_Gate_receiveInTurn 6 7 0 (.aload_n 0) 1 := ⟨by decide +kernel, rfl, rfl⟩
theorem d_Gate_receiveInTurn_3 : ob_dc k_Gate_receiveInTurn 3 (.invokevirtual 31) 3 6 := ⟨by decide +kernel, rfl⟩
theorem d_Gate_receiveInTurn_0 : ob_dv ob_ac k_Gate_receiveInTurn 0 1 1 (.aload_n 1) 1 := ⟨by decide +kernel, rfl, rfl⟩
theorem c_Gate_receiveInTurn_66 : ob_vd k_Gate_receiveInTurn k_Gate_enqueue 66 1 4 := ⟨cw_Gate_enqueue, yd_Gate_enqueue, w_540, w_542, wp_6, w_4, ⟨_, _, rfl⟩, by decide, by decide⟩
theorem c_Gate_receiveInTurn_31 : ob_vd k_Gate_receiveInTurn k_Row_number 31 2 1 := ⟨cw_Row_number, yd_Row_number, w_523, w_479, w_480, w_2, ⟨_, _, rfl⟩, by decide, by decide⟩
def f_Gate_receiveInTurn_L34 (S : ob_S) (v0 : Nat) (v1 : Nat) (v2 : Int32) (D : ob_D) : Option (Int32 × ob_D) :=
  (if (D.1 v0 3) = (1 : Int32) then (if v2 ≤ (9 : Int32) then (if v2 ≤ 0 then ob_bd (f_Gate_enqueue S v0 v1 D) fun x6 D4 => (if x6 = 0 then ob_lt (ob_pI D4 v0 6 (1 : Int32)) fun D9 => ob_lt (ob_pI D9 v0 5 (1 : Int32)) fun D10 => ob_lt (ob_pI D10 v0 3 (2 : Int32)) fun D11 => some ((0 : Int32), D11) else ob_lt (ob_pI D4 v0 4 (((D4.1 v0 4) + (1 : Int32)) &&& (255 : Int32))) fun D7 => ob_lt (ob_pI D7 v0 6 (0 : Int32)) fun D8 => some ((1 : Int32), D8)) else ob_lt (ob_pI D v0 6 (1 : Int32)) fun D12 => some ((0 : Int32), D12)) else some ((0 : Int32), D)) else some ((0 : Int32), D))
theorem v_Gate_receiveInTurn_L34 {l : Launch} {E : ob_E} {S : ob_S} {r : Int32} {D' : ob_D} : ∀ (v0 : Nat) (v1 : Nat) (v2 : Int32) (D : ob_D), S.1 v0 = 5 → S.1 v1 = 2 → f_Gate_receiveInTurn_L34 S v0 v1 v2 D = some (r, D') → ob_V l E k_Gate_receiveInTurn 34 [(0, .ref v0), (1, .ref v1), (2, .int v2)] [] S D (some (.int r)) S D' := by
  intro v0 v1 v2 D hp_v0 hp_v1 h
  rw [f_Gate_receiveInTurn_L34] at h
  refine ob_aload d_Gate_receiveInTurn_34 rfl ?_
  refine ob_getI d_Gate_receiveInTurn_35 F_4_3 l_Gate_20 hp_v0 ?_
  refine ob_push d_Gate_receiveInTurn_38 ?_
  refine ob_icmp_ne d_Gate_receiveInTurn_39 (fun hc => ?_) (fun hc => ?_)
  · replace h := ob_iff hc h
    refine ob_push d_Gate_receiveInTurn_48 ?_
    exact ob_ie h (ob_iret d_Gate_receiveInTurn_49 rfl rfl)
  · replace h := ob_ift hc h
    refine ob_iload d_Gate_receiveInTurn_42 rfl ?_
    refine ob_push d_Gate_receiveInTurn_43 ?_
    refine ob_icmp_le d_Gate_receiveInTurn_45 (fun hc => ?_) (fun hc => ?_)
    · replace h := ob_ift hc h
      refine ob_iload d_Gate_receiveInTurn_50 rfl ?_
      refine ob_if_le d_Gate_receiveInTurn_51 (fun hc => ?_) (fun hc => ?_)
      · replace h := ob_ift hc h
        refine ob_aload d_Gate_receiveInTurn_61 rfl ?_
        refine ob_aload d_Gate_receiveInTurn_62 rfl ?_
        obtain ⟨x6, D4, h5, h⟩ := ob_bd_e h
        refine ob_callVi (As := [.ref v1]) (rest := []) d_Gate_receiveInTurn_63 c_Gate_receiveInTurn_66 hp_v0 rfl rfl (Nat.le_of_ble_eq_true rfl) (c_Gate_enqueue hp_v0 hp_v1 h5) ⟨Nat.le_refl _, Nat.le_refl _⟩ ⟨Nat.le_refl _, Nat.le_refl _⟩ ?_
        refine ob_if_ne d_Gate_receiveInTurn_66 (fun hc => ?_) (fun hc => ?_)
        · replace h := ob_iff hc h
          refine ob_aload d_Gate_receiveInTurn_86 rfl ?_
          refine ob_aload d_Gate_receiveInTurn_87 rfl ?_
          refine ob_getI d_Gate_receiveInTurn_88 F_4_4 l_Gate_59 hp_v0 ?_
          refine ob_push d_Gate_receiveInTurn_91 ?_
          refine ob_iadd d_Gate_receiveInTurn_92 ?_
          refine ob_push d_Gate_receiveInTurn_93 ?_
          refine ob_iand d_Gate_receiveInTurn_96 ?_
          replace h := ob_lt_e h
          refine ob_putI d_Gate_receiveInTurn_97 F_4_4 l_Gate_59 hp_v0 ?_
          refine ob_aload d_Gate_receiveInTurn_100 rfl ?_
          refine ob_push d_Gate_receiveInTurn_101 ?_
          replace h := ob_lt_e h
          refine ob_putZ d_Gate_receiveInTurn_102 F_4_6 l_Gate_62 hp_v0 (Or.inl rfl) ?_
          refine ob_push d_Gate_receiveInTurn_105 ?_
          exact ob_ie h (ob_iret d_Gate_receiveInTurn_106 rfl rfl)
        · replace h := ob_ift hc h
          refine ob_aload d_Gate_receiveInTurn_69 rfl ?_
          refine ob_push d_Gate_receiveInTurn_70 ?_
          replace h := ob_lt_e h
          refine ob_putZ d_Gate_receiveInTurn_71 F_4_6 l_Gate_62 hp_v0 (Or.inr rfl) ?_
          refine ob_aload d_Gate_receiveInTurn_74 rfl ?_
          refine ob_push d_Gate_receiveInTurn_75 ?_
          replace h := ob_lt_e h
          refine ob_putZ d_Gate_receiveInTurn_76 F_4_5 l_Gate_69 hp_v0 (Or.inr rfl) ?_
          refine ob_aload d_Gate_receiveInTurn_79 rfl ?_
          refine ob_push d_Gate_receiveInTurn_80 ?_
          replace h := ob_lt_e h
          refine ob_putI d_Gate_receiveInTurn_81 F_4_3 l_Gate_20 hp_v0 ?_
          refine ob_push d_Gate_receiveInTurn_84 ?_
          exact ob_ie h (ob_iret d_Gate_receiveInTurn_85 rfl rfl)
      · replace h := ob_iff hc h
        refine ob_aload d_Gate_receiveInTurn_54 rfl ?_
        refine ob_push d_Gate_receiveInTurn_55 ?_
        replace h := ob_lt_e h
        refine ob_putZ d_Gate_receiveInTurn_56 F_4_6 l_Gate_62 hp_v0 (Or.inr rfl) ?_
        refine ob_push d_Gate_receiveInTurn_59 ?_
        exact ob_ie h (ob_iret d_Gate_receiveInTurn_60 rfl rfl)
    · replace h := ob_iff hc h
      refine ob_push d_Gate_receiveInTurn_48 ?_
      exact ob_ie h (ob_iret d_Gate_receiveInTurn_49 rfl rfl)
def f_Gate_receiveInTurn (S : ob_S) (v0 : Nat) (v1 : Nat) (D : ob_D) : Option (Int32 × ob_D) :=
  ob_bd (f_Row_number S v1 (4 : Int32) (1 : Int32) D) fun x3 D1 => (if ((x3 - (D1.1 v0 4)) &&& (255 : Int32)) < (10 : Int32) then f_Gate_receiveInTurn_L34 S v0 v1 ((x3 - (D1.1 v0 4)) &&& (255 : Int32)) D1 else (if (245 : Int32) < ((x3 - (D1.1 v0 4)) &&& (255 : Int32)) then f_Gate_receiveInTurn_L34 S v0 v1 ((x3 - (D1.1 v0 4)) &&& (255 : Int32)) D1 else ob_lt (ob_pI D1 v0 3 (3 : Int32)) fun D13 => f_Gate_receiveInTurn_L34 S v0 v1 ((x3 - (D1.1 v0 4)) &&& (255 : Int32)) D13))
theorem c_Gate_receiveInTurn {l : Launch} {E : ob_E} {S : ob_S} {D : ob_D} {v0 : Nat} {v1 : Nat} {r : Int32} {D' : ob_D} (hp_v0 : S.1 v0 = 5) (hp_v1 : S.1 v1 = 2) (h : f_Gate_receiveInTurn S v0 v1 D = some (r, D')) : ob_M l E k_Gate_receiveInTurn [.ref v0, .ref v1] S D (some (.int r)) S D' := by
  refine ob_ofV (lo := [(0, .ref v0), (1, .ref v1)]) (by decide) rfl (Nat.le_of_ble_eq_true rfl) rfl (Nat.le_refl _) (Nat.le_refl _) ?_
  rw [f_Gate_receiveInTurn] at h
  refine ob_aload d_Gate_receiveInTurn_0 rfl ?_
  refine ob_push d_Gate_receiveInTurn_1 ?_
  refine ob_push d_Gate_receiveInTurn_2 ?_
  obtain ⟨x3, D1, h2, h⟩ := ob_bd_e h
  refine ob_callVi (As := [.int (4 : Int32), .int (1 : Int32)]) (rest := []) d_Gate_receiveInTurn_3 c_Gate_receiveInTurn_31 hp_v1 rfl rfl (Nat.le_of_ble_eq_true rfl) (c_Row_number hp_v1 h2) ⟨Nat.le_refl _, Nat.le_refl _⟩ ⟨Nat.le_refl _, Nat.le_refl _⟩ ?_
  refine ob_aload d_Gate_receiveInTurn_6 rfl ?_
  refine ob_getI d_Gate_receiveInTurn_7 F_4_4 l_Gate_59 hp_v0 ?_
  refine ob_isub d_Gate_receiveInTurn_10 ?_
  refine ob_push d_Gate_receiveInTurn_11 ?_
  refine ob_iand d_Gate_receiveInTurn_14 ?_
  refine ob_istore (lo2 := [(0, .ref v0), (1, .ref v1), (2, .int ((x3 - (D1.1 v0 4)) &&& (255 : Int32)))]) d_Gate_receiveInTurn_15 rfl ?_
  refine ob_iload d_Gate_receiveInTurn_16 rfl ?_
  refine ob_push d_Gate_receiveInTurn_17 ?_
  refine ob_icmp_lt d_Gate_receiveInTurn_19 (fun hc => ?_) (fun hc => ?_)
  · replace h := ob_ift hc h
    exact v_Gate_receiveInTurn_L34 v0 v1 ((x3 - (D1.1 v0 4)) &&& (255 : Int32)) D1 hp_v0 hp_v1 h
  · replace h := ob_iff hc h
    refine ob_iload d_Gate_receiveInTurn_22 rfl ?_
    refine ob_push d_Gate_receiveInTurn_23 ?_
    refine ob_icmp_gt d_Gate_receiveInTurn_26 (fun hc => ?_) (fun hc => ?_)
    · replace h := ob_ift hc h
      exact v_Gate_receiveInTurn_L34 v0 v1 ((x3 - (D1.1 v0 4)) &&& (255 : Int32)) D1 hp_v0 hp_v1 h
    · replace h := ob_iff hc h
      refine ob_aload d_Gate_receiveInTurn_29 rfl ?_
      refine ob_push d_Gate_receiveInTurn_30 ?_
      replace h := ob_lt_e h
      refine ob_putI d_Gate_receiveInTurn_31 F_4_3 l_Gate_20 hp_v0 ?_
      exact v_Gate_receiveInTurn_L34 v0 v1 ((x3 - (D1.1 v0 4)) &&& (255 : Int32)) (ob_pI D1 v0 3 (3 : Int32)) hp_v0 hp_v1 h
-- OrbitBox$Gate.receiveBeside(LOrbitBox$Row;)Z
theorem d_Gate_receiveBeside_25 : ob_dk k_Gate_receiveBeside 25 26 (1 : Int32) (.iconst 1) 1 := ⟨by decide +kernel, rfl, show Int32.ofInt 1 = (1 : Int32) by decide +kernel⟩
theorem d_Gate_receiveBeside_27 : ob_dk k_Gate_receiveBeside 27 28 (3 : Int32) (.iconst 3) 1 := ⟨by decide +kernel, rfl, show Int32.ofInt 3 = (3 : Int32) by decide +kernel⟩
theorem d_Gate_receiveBeside_32 : ob_dk k_Gate_receiveBeside 32 33 (1 : Int32) (.iconst 1) 1 := ⟨by decide +kernel, rfl, show Int32.ofInt 1 = (1 : Int32) by decide +kernel⟩
theorem d_Gate_receiveBeside_33 : ob_dc k_Gate_receiveBeside 33 (.ireturn) 1 34 := ⟨by decide +kernel, rfl⟩
theorem d_Gate_receiveBeside_29 : ob_dc k_Gate_receiveBeside 29 (.putfield 72) 3 32 := ⟨by decide +kernel, rfl⟩
theorem d_Gate_receiveBeside_28 : ob_dc k_Gate_receiveBeside 28 (.iand) 1 29 := ⟨by decide +kernel, rfl⟩
theorem d_Gate_receiveBeside_26 : ob_dc k_Gate_receiveBeside 26 (.iadd) 1 27 := ⟨by decide +kernel, rfl⟩
theorem d_Gate_receiveBeside_22 : ob_dc k_Gate_receiveBeside 22 (.getfield 72) 3 25 := ⟨by decide +kernel, rfl⟩
theorem d_Gate_receiveBeside_21 : ob_dv ob_ac k_Gate_receiveBeside 21 22 0 (.aload_n 0) 1 := ⟨by decide +kernel, rfl, rfl⟩
theorem d_Gate_receiveBeside_20 : ob_dv ob_ac k_Gate_receiveBeside 20 21 0 (.aload_n 0) 1 := ⟨by decide +kernel, rfl, rfl⟩
theorem d_Gate_receiveBeside_13 : ob_dk k_Gate_receiveBeside 13 14 (1 : Int32) (.iconst 1) 1 := ⟨by decide +kernel, rfl, show Int32.ofInt 1 = (1 : Int32) by decide +kernel⟩
theorem d_Gate_receiveBeside_18 : ob_dk k_Gate_receiveBeside 18 19 (0 : Int32) (.iconst 0) 1 := ⟨by decide +kernel, rfl, show Int32.ofInt 0 = (0 : Int32) by decide +kernel⟩
theorem d_Gate_receiveBeside_19 : ob_dc k_Gate_receiveBeside 19 (.ireturn) 1 20 := ⟨by decide +kernel, rfl⟩
theorem d_Gate_receiveBeside_15 : ob_dc k_Gate_receiveBeside 15 (.putfield 28) 3 18 := ⟨by decide +kernel, rfl⟩
theorem d_Gate_receiveBeside_14 : ob_dc k_Gate_receiveBeside 14 (.iadd) 1 15 := ⟨by decide +kernel, rfl⟩
theorem d_Gate_receiveBeside_10 : ob_dc k_Gate_receiveBeside 10 (.getfield 28) 3 13 := ⟨by decide +kernel, rfl⟩
theorem d_Gate_receiveBeside_9 : ob_dc k_Gate_receiveBeside 9 (.dup) 1 10 := ⟨by decide +kernel, rfl⟩
theorem d_Gate_receiveBeside_8 : ob_dv ob_ac k_Gate_receiveBeside 8 9 0 (.aload_n 0) 1 := ⟨by decide +kernel, rfl, rfl⟩
theorem d_Gate_receiveBeside_5 : ob_db k_Gate_receiveBeside 5 (.ifCond .ne 15) 15 8 20 := ⟨by decide +kernel, rfl, by decide⟩
theorem d_Gate_receiveBeside_2 : ob_dc k_Gate_receiveBeside 2 (.invokevirtual 66) 3 5 := ⟨by decide +kernel, rfl⟩
theorem d_Gate_receiveBeside_1 : ob_dv ob_ac k_Gate_receiveBeside 1 2 1 (.aload_n 1) 1 := ⟨by decide +kernel, rfl, rfl⟩
theorem d_Gate_receiveBeside_0 : ob_dv ob_ac k_Gate_receiveBeside 0 1 0 (.aload_n 0) 1 := ⟨by decide +kernel, rfl, rfl⟩
theorem c_Gate_receiveBeside_66 : ob_vd k_Gate_receiveBeside k_Gate_enqueue 66 1 4 := ⟨cw_Gate_enqueue, yd_Gate_enqueue, w_540, w_542, wp_6, w_4, ⟨_, _, rfl⟩, by decide, by decide⟩
def f_Gate_receiveBeside (S : ob_S) (v0 : Nat) (v1 : Nat) (D : ob_D) : Option (Int32 × ob_D) :=
  ob_bd (f_Gate_enqueue S v0 v1 D) fun x3 D1 => (if x3 = 0 then ob_lt (ob_pI D1 v0 8 ((D1.1 v0 8) + (1 : Int32))) fun D5 => some ((0 : Int32), D5) else ob_lt (ob_pI D1 v0 7 (((D1.1 v0 7) + (1 : Int32)) &&& (3 : Int32))) fun D4 => some ((1 : Int32), D4))
theorem c_Gate_receiveBeside {l : Launch} {E : ob_E} {S : ob_S} {D : ob_D} {v0 : Nat} {v1 : Nat} {r : Int32} {D' : ob_D} (hp_v0 : S.1 v0 = 5) (hp_v1 : S.1 v1 = 2) (h : f_Gate_receiveBeside S v0 v1 D = some (r, D')) : ob_M l E k_Gate_receiveBeside [.ref v0, .ref v1] S D (some (.int r)) S D' := by
  refine ob_ofV (lo := [(0, .ref v0), (1, .ref v1)]) (by decide) rfl (Nat.le_of_ble_eq_true rfl) rfl (Nat.le_refl _) (Nat.le_refl _) ?_
  rw [f_Gate_receiveBeside] at h
  refine ob_aload d_Gate_receiveBeside_0 rfl ?_
  refine ob_aload d_Gate_receiveBeside_1 rfl ?_
  obtain ⟨x3, D1, h2, h⟩ := ob_bd_e h
  refine ob_callVi (As := [.ref v1]) (rest := []) d_Gate_receiveBeside_2 c_Gate_receiveBeside_66 hp_v0 rfl rfl (Nat.le_of_ble_eq_true rfl) (c_Gate_enqueue hp_v0 hp_v1 h2) ⟨Nat.le_refl _, Nat.le_refl _⟩ ⟨Nat.le_refl _, Nat.le_refl _⟩ ?_
  refine ob_if_ne d_Gate_receiveBeside_5 (fun hc => ?_) (fun hc => ?_)
  · replace h := ob_iff hc h
    refine ob_aload d_Gate_receiveBeside_20 rfl ?_
    refine ob_aload d_Gate_receiveBeside_21 rfl ?_
    refine ob_getI d_Gate_receiveBeside_22 F_4_7 l_Gate_72 hp_v0 ?_
    refine ob_push d_Gate_receiveBeside_25 ?_
    refine ob_iadd d_Gate_receiveBeside_26 ?_
    refine ob_push d_Gate_receiveBeside_27 ?_
    refine ob_iand d_Gate_receiveBeside_28 ?_
    replace h := ob_lt_e h
    refine ob_putI d_Gate_receiveBeside_29 F_4_7 l_Gate_72 hp_v0 ?_
    refine ob_push d_Gate_receiveBeside_32 ?_
    exact ob_ie h (ob_iret d_Gate_receiveBeside_33 rfl rfl)
  · replace h := ob_ift hc h
    refine ob_aload d_Gate_receiveBeside_8 rfl ?_
    refine ob_dup d_Gate_receiveBeside_9 rfl ?_
    refine ob_getI d_Gate_receiveBeside_10 F_4_8 l_Gate_28 hp_v0 ?_
    refine ob_push d_Gate_receiveBeside_13 ?_
    refine ob_iadd d_Gate_receiveBeside_14 ?_
    replace h := ob_lt_e h
    refine ob_putI d_Gate_receiveBeside_15 F_4_8 l_Gate_28 hp_v0 ?_
    refine ob_push d_Gate_receiveBeside_18 ?_
    exact ob_ie h (ob_iret d_Gate_receiveBeside_19 rfl rfl)
-- OrbitBox$Gate.obey(LOrbitBox$Row;)V
theorem d_Gate_obey_5 : ob_dk k_Gate_obey 5 6 (1 : Int32) (.iconst 1) 1 := ⟨by decide +kernel, rfl, show Int32.ofInt 1 = (1 : Int32) by decide +kernel⟩
theorem d_Gate_obey_7 : ob_dk k_Gate_obey 7 8 (3 : Int32) (.iconst 3) 1 := ⟨by decide +kernel, rfl, show Int32.ofInt 3 = (3 : Int32) by decide +kernel⟩
theorem d_Gate_obey_16 : ob_dk k_Gate_obey 16 17 (3 : Int32) (.iconst 3) 1 := ⟨by decide +kernel, rfl, show Int32.ofInt 3 = (3 : Int32) by decide +kernel⟩
theorem d_Gate_obey_24 : ob_dk k_Gate_obey 24 25 (0 : Int32) (.iconst 0) 1 := ⟨by decide +kernel, rfl, show Int32.ofInt 0 = (0 : Int32) by decide +kernel⟩
theorem d_Gate_obey_55 : ob_dk k_Gate_obey 55 56 (0 : Int32) (.iconst 0) 1 := ⟨by decide +kernel, rfl, show Int32.ofInt 0 = (0 : Int32) by decide +kernel⟩
theorem d_Gate_obey_60 : ob_dk k_Gate_obey 60 61 (0 : Int32) (.iconst 0) 1 := ⟨by decide +kernel, rfl, show Int32.ofInt 0 = (0 : Int32) by decide +kernel⟩
theorem d_Gate_obey_65 : ob_dk k_Gate_obey 65 66 (1 : Int32) (.iconst 1) 1 := ⟨by decide +kernel, rfl, show Int32.ofInt 1 = (1 : Int32) by decide +kernel⟩
theorem d_Gate_obey_69 : ob_dc k_Gate_obey 69 (.return_) 1 70 := ⟨by decide +kernel, rfl⟩
theorem d_Gate_obey_66 : ob_dc k_Gate_obey 66 (.putfield 20) 3 69 := ⟨by decide +kernel, rfl⟩
theorem d_Gate_obey_64 : ob_dv ob_ac k_Gate_obey 64 65 0 (.aload_n 0) 1 := ⟨by decide +kernel, rfl, rfl⟩
theorem d_Gate_obey_61 : ob_dc k_Gate_obey 61 (.putfield 69) 3 64 := ⟨by decide +kernel, rfl⟩
theorem d_Gate_obey_59 : ob_dv ob_ac k_Gate_obey 59 60 0 (.aload_n 0) 1 := ⟨by decide +kernel, rfl, rfl⟩
theorem d_Gate_obey_56 : ob_dc k_Gate_obey 56 (.putfield 62) 3 59 := ⟨by decide +kernel, rfl⟩
theorem d_Gate_obey_54 : ob_dv ob_ac k_Gate_obey 54 55 0 (.aload_n 0) 1 := ⟨by decide +kernel, rfl, rfl⟩
theorem d_Gate_obey_45 : ob_dk k_Gate_obey 45 47 (7 : Int32) (.bipush 7) 2 := ⟨by decide +kernel, rfl, show (Int8.ofInt 7).toInt32 = (7 : Int32) by decide +kernel⟩
theorem d_Gate_obey_47 : ob_dk k_Gate_obey 47 48 (1 : Int32) (.iconst 1) 1 := ⟨by decide +kernel, rfl, show Int32.ofInt 1 = (1 : Int32) by decide +kernel⟩
theorem d_Gate_obey_51 : ob_dc k_Gate_obey 51 (.putfield 59) 3 54 := ⟨by decide +kernel, rfl⟩
theorem d_Gate_obey_48 : ob_dc k_Gate_obey 48 (.invokevirtual 31) 3 51 := ⟨by decide +kernel, rfl⟩
theorem d_Gate_obey_44 : ob_dv ob_ac k_Gate_obey 44 45 1 (.aload_n 1) 1 := ⟨by decide +kernel, rfl, rfl⟩
theorem d_Gate_obey_43 : ob_dv ob_ac k_Gate_obey 43 44 0 (.aload_n 0) 1 := ⟨by decide +kernel, rfl, rfl⟩
theorem d_Gate_obey_40 : ob_db k_Gate_obey 40 (.ifCond .eq 14) 14 43 54 := ⟨by decide +kernel, rfl, by decide⟩
theorem d_Gate_obey_39 : ob_dv ob_lc k_Gate_obey 39 40 2 (.iload_n 2) 1 := ⟨by decide +kernel, rfl, rfl⟩
theorem d_Gate_obey_34 : ob_dk k_Gate_obey 34 35 (3 : Int32) (.iconst 3) 1 := ⟨by decide +kernel, rfl, show Int32.ofInt 3 = (3 : Int32) by decide +kernel⟩
theorem d_Gate_obey_38 : ob_dc k_Gate_obey 38 (.return_) 1 39 := ⟨by decide +kernel, rfl⟩
theorem d_Gate_obey_35 : ob_db k_Gate_obey 35 (.if_icmp .ne 4) 4 38 39 := ⟨by decide +kernel, rfl, by decide⟩
theorem d_Gate_obey_31 : ob_dc k_Gate_obey 31 (.getfield 20) 3 34 := ⟨by decide +kernel, rfl⟩
theorem d_Gate_obey_30 : ob_dv ob_ac k_Gate_obey 30 31 0 (.aload_n 0) 1 := ⟨by decide +kernel, rfl, rfl⟩
theorem d_Gate_obey_27 : ob_db k_Gate_obey 27 (.ifCond .eq 12) 12 30 39 := ⟨by decide +kernel, rfl, by decide⟩
theorem d_Gate_obey_26 : ob_dv ob_lc k_Gate_obey 26 27 2 (.iload_n 2) 1 := ⟨by decide +kernel, rfl, rfl⟩
theorem d_Gate_obey_25 : ob_dv (ob_sc k_Gate_obey.2.2.2.1) k_Gate_obey 25 26 2 (.istore_n 2) 1 := ⟨by decide +kernel, rfl, ⟨rfl, by decide +kernel⟩⟩
theorem d_Gate_obey_20 : ob_dk k_Gate_obey 20 21 (1 : Int32) (.iconst 1) 1 := ⟨by decide +kernel, rfl, show Int32.ofInt 1 = (1 : Int32) by decide +kernel⟩
theorem d_Gate_obey_21 : ob_db k_Gate_obey 21 (.goto 4) 4 24 25 := ⟨by decide +kernel, rfl, by decide⟩
theorem d_Gate_obey_17 : ob_db k_Gate_obey 17 (.if_icmp .ne 7) 7 20 24 := ⟨by decide +kernel, rfl, by decide⟩
theorem d_Gate_obey_13 : ob_dc k_Gate_obey 13 (.invokestatic 54) 3 16 := ⟨by decide +kernel, rfl⟩
theorem d_Gate_obey_12 : ob_dv ob_ac k_Gate_obey 12 13 1 (.aload_n 1) 1 := ⟨by decide +kernel, rfl, rfl⟩
theorem d_Gate_obey_9 : ob_dc k_Gate_obey 9 (.putfield 72) 3 12 := ⟨by decide +kernel, rfl⟩
theorem d_Gate_obey_8 : ob_dc k_Gate_obey 8 (.iand) 1 9 := ⟨by decide +kernel, rfl⟩
theorem d_Gate_obey_6 : ob_dc k_Gate_obey 6 (.iadd) 1 7 := ⟨by decide +kernel, rfl⟩
theorem d_Gate_obey_2 : ob_dc k_Gate_obey 2 (.getfield 72) 3 5 := ⟨by decide +kernel, rfl⟩
theorem d_Gate_obey_1 : ob_dv ob_ac k_Gate_obey 1 2 0 (.aload_n 0) 1 := ⟨by decide +kernel, rfl, rfl⟩
theorem d_Gate_obey_0 : ob_dv ob_ac k_Gate_obey 0 1 0 (.aload_n 0) 1 := ⟨by decide +kernel, rfl, rfl⟩
theorem c_Gate_obey_31 : ob_vd k_Gate_obey k_Row_number 31 2 1 := ⟨cw_Row_number, yd_Row_number, w_523, w_479, w_480, w_2, ⟨_, _, rfl⟩, by decide, by decide⟩
theorem c_Gate_obey_54 : ob_sd k_Gate_obey k_Gate_bodyLength 54 1 := ⟨cw_Gate_bodyLength, yd_Gate_bodyLength, w_532, w_533, w_4, by decide, by decide⟩
def f_Gate_obey_L54 (S : ob_S) (v0 : Nat) (D : ob_D) : Option (ob_D) :=
  ob_lt (ob_pI D v0 6 (0 : Int32)) fun D5 => ob_lt (ob_pI D5 v0 5 (0 : Int32)) fun D6 => ob_lt (ob_pI D6 v0 3 (1 : Int32)) fun D7 => some D7
theorem v_Gate_obey_L54 {l : Launch} {E : ob_E} {S : ob_S} {D' : ob_D} : ∀ (v0 : Nat) (D : ob_D), S.1 v0 = 5 → f_Gate_obey_L54 S v0 D = some D' → ob_V l E k_Gate_obey 54 [(0, .ref v0)] [] S D none S D' := by
  intro v0 D hp_v0 h
  rw [f_Gate_obey_L54] at h
  refine ob_aload d_Gate_obey_54 rfl ?_
  refine ob_push d_Gate_obey_55 ?_
  replace h := ob_lt_e h
  refine ob_putZ d_Gate_obey_56 F_4_6 l_Gate_62 hp_v0 (Or.inl rfl) ?_
  refine ob_aload d_Gate_obey_59 rfl ?_
  refine ob_push d_Gate_obey_60 ?_
  replace h := ob_lt_e h
  refine ob_putZ d_Gate_obey_61 F_4_5 l_Gate_69 hp_v0 (Or.inl rfl) ?_
  refine ob_aload d_Gate_obey_64 rfl ?_
  refine ob_push d_Gate_obey_65 ?_
  replace h := ob_lt_e h
  refine ob_putI d_Gate_obey_66 F_4_3 l_Gate_20 hp_v0 ?_
  exact ob_ve h (ob_vret d_Gate_obey_69 rfl)
def f_Gate_obey_L39 (S : ob_S) (v0 : Nat) (v1 : Nat) (v2 : Int32) (D : ob_D) : Option (ob_D) :=
  (if v2 = 0 then f_Gate_obey_L54 S v0 D else ob_bd (f_Row_number S v1 (7 : Int32) (1 : Int32) D) fun x10 D8 => ob_lt (ob_pI D8 v0 4 x10) fun D11 => f_Gate_obey_L54 S v0 D11)
theorem v_Gate_obey_L39 {l : Launch} {E : ob_E} {S : ob_S} {D' : ob_D} : ∀ (v0 : Nat) (v1 : Nat) (v2 : Int32) (D : ob_D), S.1 v0 = 5 → S.1 v1 = 2 → f_Gate_obey_L39 S v0 v1 v2 D = some D' → ob_V l E k_Gate_obey 39 [(0, .ref v0), (1, .ref v1), (2, .int v2)] [] S D none S D' := by
  intro v0 v1 v2 D hp_v0 hp_v1 h
  rw [f_Gate_obey_L39] at h
  refine ob_iload d_Gate_obey_39 rfl ?_
  refine ob_if_eq d_Gate_obey_40 (fun hc => ?_) (fun hc => ?_)
  · replace h := ob_ift hc h
    refine ob_sub (lo2 := [(0, .ref v0)]) [0] rfl ?_
    exact v_Gate_obey_L54 v0 D hp_v0 h
  · replace h := ob_iff hc h
    refine ob_aload d_Gate_obey_43 rfl ?_
    refine ob_aload d_Gate_obey_44 rfl ?_
    refine ob_push d_Gate_obey_45 ?_
    refine ob_push d_Gate_obey_47 ?_
    obtain ⟨x10, D8, h9, h⟩ := ob_bd_e h
    refine ob_callVi (As := [.int (7 : Int32), .int (1 : Int32)]) (rest := [.ref v0]) d_Gate_obey_48 c_Gate_obey_31 hp_v1 rfl rfl (Nat.le_of_ble_eq_true rfl) (c_Row_number hp_v1 h9) ⟨Nat.le_refl _, Nat.le_refl _⟩ ⟨Nat.le_refl _, Nat.le_refl _⟩ ?_
    replace h := ob_lt_e h
    refine ob_putI d_Gate_obey_51 F_4_4 l_Gate_59 hp_v0 ?_
    refine ob_sub (lo2 := [(0, .ref v0)]) [0] rfl ?_
    exact v_Gate_obey_L54 v0 (ob_pI D8 v0 4 x10) hp_v0 h
def f_Gate_obey_L25 (S : ob_S) (v0 : Nat) (v1 : Nat) (s0 : Int32) (D : ob_D) : Option (ob_D) :=
  (if s0 = 0 then f_Gate_obey_L39 S v0 v1 s0 D else (if (D.1 v0 3) = (3 : Int32) then some D else f_Gate_obey_L39 S v0 v1 s0 D))
theorem v_Gate_obey_L25 {l : Launch} {E : ob_E} {S : ob_S} {D' : ob_D} : ∀ (v0 : Nat) (v1 : Nat) (s0 : Int32) (D : ob_D), S.1 v0 = 5 → S.1 v1 = 2 → f_Gate_obey_L25 S v0 v1 s0 D = some D' → ob_V l E k_Gate_obey 25 [(0, .ref v0), (1, .ref v1)] [.int s0] S D none S D' := by
  intro v0 v1 s0 D hp_v0 hp_v1 h
  rw [f_Gate_obey_L25] at h
  refine ob_istore (lo2 := [(0, .ref v0), (1, .ref v1), (2, .int s0)]) d_Gate_obey_25 rfl ?_
  refine ob_iload d_Gate_obey_26 rfl ?_
  refine ob_if_eq d_Gate_obey_27 (fun hc => ?_) (fun hc => ?_)
  · replace h := ob_ift hc h
    exact v_Gate_obey_L39 v0 v1 s0 D hp_v0 hp_v1 h
  · replace h := ob_iff hc h
    refine ob_aload d_Gate_obey_30 rfl ?_
    refine ob_getI d_Gate_obey_31 F_4_3 l_Gate_20 hp_v0 ?_
    refine ob_push d_Gate_obey_34 ?_
    refine ob_icmp_ne d_Gate_obey_35 (fun hc => ?_) (fun hc => ?_)
    · replace h := ob_iff hc h
      exact v_Gate_obey_L39 v0 v1 s0 D hp_v0 hp_v1 h
    · replace h := ob_ift hc h
      exact ob_ve h (ob_vret d_Gate_obey_38 rfl)
def f_Gate_obey (S : ob_S) (v0 : Nat) (v1 : Nat) (D : ob_D) : Option (ob_D) :=
  ob_lt (ob_pI D v0 7 (((D.1 v0 7) + (1 : Int32)) &&& (3 : Int32))) fun D1 => ob_bd (f_Gate_bodyLength S v1 D1) fun x4 D2 => (if x4 = (3 : Int32) then f_Gate_obey_L25 S v0 v1 (1 : Int32) D2 else f_Gate_obey_L25 S v0 v1 (0 : Int32) D2)
theorem c_Gate_obey {l : Launch} {E : ob_E} {S : ob_S} {D : ob_D} {v0 : Nat} {v1 : Nat} {D' : ob_D} (hp_v0 : S.1 v0 = 5) (hp_v1 : S.1 v1 = 2) (h : f_Gate_obey S v0 v1 D = some D') : ob_M l E k_Gate_obey [.ref v0, .ref v1] S D none S D' := by
  refine ob_ofV (lo := [(0, .ref v0), (1, .ref v1)]) (by decide) rfl (Nat.le_of_ble_eq_true rfl) rfl (Nat.le_refl _) (Nat.le_refl _) ?_
  rw [f_Gate_obey] at h
  refine ob_aload d_Gate_obey_0 rfl ?_
  refine ob_aload d_Gate_obey_1 rfl ?_
  refine ob_getI d_Gate_obey_2 F_4_7 l_Gate_72 hp_v0 ?_
  refine ob_push d_Gate_obey_5 ?_
  refine ob_iadd d_Gate_obey_6 ?_
  refine ob_push d_Gate_obey_7 ?_
  refine ob_iand d_Gate_obey_8 ?_
  replace h := ob_lt_e h
  refine ob_putI d_Gate_obey_9 F_4_7 l_Gate_72 hp_v0 ?_
  refine ob_aload d_Gate_obey_12 rfl ?_
  obtain ⟨x4, D2, h3, h⟩ := ob_bd_e h
  refine ob_callSi (As := [.ref v1]) (rest := []) d_Gate_obey_13 c_Gate_obey_54 rfl rfl (Nat.le_of_ble_eq_true rfl) (c_Gate_bodyLength hp_v1 h3) ⟨Nat.le_refl _, Nat.le_refl _⟩ ⟨Nat.le_refl _, Nat.le_refl _⟩ ?_
  refine ob_push d_Gate_obey_16 ?_
  refine ob_icmp_ne d_Gate_obey_17 (fun hc => ?_) (fun hc => ?_)
  · replace h := ob_iff hc h
    refine ob_push d_Gate_obey_24 ?_
    exact v_Gate_obey_L25 v0 v1 (0 : Int32) D2 hp_v0 hp_v1 h
  · replace h := ob_ift hc h
    refine ob_push d_Gate_obey_20 ?_
    refine ob_goto d_Gate_obey_21 ?_
    exact v_Gate_obey_L25 v0 v1 (1 : Int32) D2 hp_v0 hp_v1 h
-- OrbitBox$Gate.receive(LOrbitBox$Row;)Z
theorem d_Gate_receive_20 : ob_dk k_Gate_receive 20 21 (0 : Int32) (.iconst 0) 1 := ⟨by decide +kernel, rfl, show Int32.ofInt 0 = (0 : Int32) by decide +kernel⟩
theorem d_Gate_receive_21 : ob_dk k_Gate_receive 21 22 (2 : Int32) (.iconst 2) 1 := ⟨by decide +kernel, rfl, show Int32.ofInt 2 = (2 : Int32) by decide +kernel⟩
theorem d_Gate_receive_27 : ob_dk k_Gate_receive 27 30 (8192 : Int32) (.sipush 8192) 3 := ⟨by decide +kernel, rfl, show (Int16.ofInt 8192).toInt32 = (8192 : Int32) by decide +kernel⟩
theorem d_Gate_receive_41 : ob_dk k_Gate_receive 41 44 (4096 : Int32) (.sipush 4096) 3 := ⟨by decide +kernel, rfl, show (Int16.ofInt 4096).toInt32 = (4096 : Int32) by decide +kernel⟩
theorem d_Gate_receive_59 : ob_dk k_Gate_receive 59 60 (0 : Int32) (.iconst 0) 1 := ⟨by decide +kernel, rfl, show Int32.ofInt 0 = (0 : Int32) by decide +kernel⟩
theorem d_Gate_receive_60 : ob_dc k_Gate_receive 60 (.ireturn) 1 61 := ⟨by decide +kernel, rfl⟩
theorem d_Gate_receive_56 : ob_dc k_Gate_receive 56 (.invokevirtual 41) 3 59 := ⟨by decide +kernel, rfl⟩
theorem d_Gate_receive_55 : ob_dv ob_ac k_Gate_receive 55 56 1 (.aload_n 1) 1 := ⟨by decide +kernel, rfl, rfl⟩
theorem d_Gate_receive_54 : ob_dv ob_ac k_Gate_receive 54 55 0 (.aload_n 0) 1 := ⟨by decide +kernel, rfl, rfl⟩
theorem d_Gate_receive_53 : ob_dc k_Gate_receive 53 (.ireturn) 1 54 := ⟨by decide +kernel, rfl⟩
theorem d_Gate_receive_50 : ob_dc k_Gate_receive 50 (.invokevirtual 38) 3 53 := ⟨by decide +kernel, rfl⟩
theorem d_Gate_receive_49 : ob_dv ob_ac k_Gate_receive 49 50 1 (.aload_n 1) 1 := ⟨by decide +kernel, rfl, rfl⟩
theorem d_Gate_receive_48 : ob_dv ob_ac k_Gate_receive 48 49 0 (.aload_n 0) 1 := ⟨by decide +kernel, rfl, rfl⟩
theorem d_Gate_receive_45 : ob_db k_Gate_receive 45 (.ifCond .ne 9) 9 48 54 := ⟨by decide +kernel, rfl, by decide⟩
theorem d_Gate_receive_44 : ob_dc k_Gate_receive 44 (.iand) 1 45 := ⟨by decide +kernel, rfl⟩
theorem d_Gate_receive_40 : ob_dv ob_lc k_Gate_receive 40 41 2 (.iload_n 2) 1 := ⟨by decide +kernel, rfl, rfl⟩
theorem d_Gate_receive_39 : ob_dc k_Gate_receive 39 (.ireturn) 1 40 := ⟨by decide +kernel, rfl⟩
theorem d_Gate_receive_36 : ob_dc k_Gate_receive 36 (.invokevirtual 35) 3 39 := ⟨by decide +kernel, rfl⟩
theorem d_Gate_receive_35 : ob_dv ob_ac k_Gate_receive 35 36 1 (.aload_n 1) 1 := ⟨by decide +kernel, rfl, rfl⟩
theorem d_Gate_receive_34 : ob_dv ob_ac k_Gate_receive 34 35 0 (.aload_n 0) 1 := ⟨by decide +kernel, rfl, rfl⟩
theorem d_Gate_receive_31 : ob_db k_Gate_receive 31 (.ifCond .ne 9) 9 34 40 := ⟨by decide +kernel, rfl, by decide⟩
theorem d_Gate_receive_30 : ob_dc k_Gate_receive 30 (.iand) 1 31 := ⟨by decide +kernel, rfl⟩
theorem d_Gate_receive_26 : ob_dv ob_lc k_Gate_receive 26 27 2 (.iload_n 2) 1 := ⟨by decide +kernel, rfl, rfl⟩
theorem d_Gate_receive_25 : ob_dv (ob_sc k_Gate_receive.2.2.2.1) k_Gate_receive 25 26 2 (.istore_n 2) 1 := ⟨by decide +kernel, rfl, ⟨rfl, by decide +kernel⟩⟩
theorem d_Gate_receive_22 : ob_dc k_Gate_receive 22 (.invokevirtual 31) 3 25 := ⟨by decide +kernel, rfl⟩
theorem d_Gate_receive_19 : ob_dv ob_ac k_Gate_receive 19 20 1 (.aload_n 1) 1 := ⟨by decide +kernel, rfl, rfl⟩
theorem d_Gate_receive_12 : ob_dk k_Gate_receive 12 13 (1 : Int32) (.iconst 1) 1 := ⟨by decide +kernel, rfl, show Int32.ofInt 1 = (1 : Int32) by decide +kernel⟩
theorem d_Gate_receive_17 : ob_dk k_Gate_receive 17 18 (0 : Int32) (.iconst 0) 1 := ⟨by decide +kernel, rfl, show Int32.ofInt 0 = (0 : Int32) by decide +kernel⟩
theorem d_Gate_receive_18 : ob_dc k_Gate_receive 18 (.ireturn) 1 19 := ⟨by decide +kernel, rfl⟩
theorem d_Gate_receive_14 : ob_dc k_Gate_receive 14 (.putfield 28) 3 17 := ⟨by decide +kernel, rfl⟩
theorem d_Gate_receive_13 : ob_dc k_Gate_receive 13 (.iadd) 1 14 := ⟨by decide +kernel, rfl⟩
theorem d_Gate_receive_9 : ob_dc k_Gate_receive 9 (.getfield 28) 3 12 := ⟨by decide +kernel, rfl⟩
theorem d_Gate_receive_8 : ob_dc k_Gate_receive 8 (.dup) 1 9 := ⟨by decide +kernel, rfl⟩
theorem d_Gate_receive_7 : ob_dv ob_ac k_Gate_receive 7 8 0 (.aload_n 0) 1 := ⟨by decide +kernel, rfl, rfl⟩
theorem d_Gate_receive_4 : ob_db k_Gate_receive 4 (.ifCond .ne 15) 15 7 19 := ⟨by decide +kernel, rfl, by decide⟩
theorem d_Gate_receive_1 : ob_dc k_Gate_receive 1 (.invokestatic 24) 3 4 := ⟨by decide +kernel, rfl⟩
theorem d_Gate_receive_0 : ob_dv ob_ac k_Gate_receive 0 1 1 (.aload_n 1) 1 := ⟨by decide +kernel, rfl, rfl⟩
theorem c_Gate_receive_41 : ob_vd k_Gate_receive k_Gate_obey 41 1 4 := ⟨cw_Gate_obey, yd_Gate_obey, w_556, w_558, wp_8, w_4, ⟨_, _, rfl⟩, by decide, by decide⟩
theorem c_Gate_receive_38 : ob_vd k_Gate_receive k_Gate_receiveBeside 38 1 4 := ⟨cw_Gate_receiveBeside, yd_Gate_receiveBeside, w_552, w_554, wp_7, w_4, ⟨_, _, rfl⟩, by decide, by decide⟩
theorem c_Gate_receive_35 : ob_vd k_Gate_receive k_Gate_receiveInTurn 35 1 4 := ⟨cw_Gate_receiveInTurn, yd_Gate_receiveInTurn, w_536, w_538, wp_5, w_4, ⟨_, _, rfl⟩, by decide, by decide⟩
theorem c_Gate_receive_31 : ob_vd k_Gate_receive k_Row_number 31 2 1 := ⟨cw_Row_number, yd_Row_number, w_523, w_479, w_480, w_2, ⟨_, _, rfl⟩, by decide, by decide⟩
theorem c_Gate_receive_24 : ob_sd k_Gate_receive k_Gate_isValid 24 1 := ⟨cw_Gate_isValid, yd_Gate_isValid, w_520, w_521, w_4, by decide, by decide⟩
def f_Gate_receive (S : ob_S) (v0 : Nat) (v1 : Nat) (D : ob_D) : Option (Int32 × ob_D) :=
  ob_bd (f_Gate_isValid S v1 D) fun x3 D1 => (if x3 = 0 then ob_lt (ob_pI D1 v0 8 ((D1.1 v0 8) + (1 : Int32))) fun D17 => some ((0 : Int32), D17) else ob_bd (f_Row_number S v1 (0 : Int32) (2 : Int32) D1) fun x6 D4 => (if (x6 &&& (8192 : Int32)) = 0 then ob_bd (f_Gate_receiveInTurn S v0 v1 D4) fun x15 D13 => if (x15 = 0 ∨ x15 = 1) then some (x15, D13) else none else (if (x6 &&& (4096 : Int32)) = 0 then ob_bd (f_Gate_receiveBeside S v0 v1 D4) fun x11 D9 => if (x11 = 0 ∨ x11 = 1) then some (x11, D9) else none else ob_bv (f_Gate_obey S v0 v1 D4) fun D7 => some ((0 : Int32), D7))))
theorem c_Gate_receive {l : Launch} {E : ob_E} {S : ob_S} {D : ob_D} {v0 : Nat} {v1 : Nat} {r : Int32} {D' : ob_D} (hp_v0 : S.1 v0 = 5) (hp_v1 : S.1 v1 = 2) (h : f_Gate_receive S v0 v1 D = some (r, D')) : ob_M l E k_Gate_receive [.ref v0, .ref v1] S D (some (.int r)) S D' := by
  refine ob_ofV (lo := [(0, .ref v0), (1, .ref v1)]) (by decide) rfl (Nat.le_of_ble_eq_true rfl) rfl (Nat.le_refl _) (Nat.le_refl _) ?_
  rw [f_Gate_receive] at h
  refine ob_aload d_Gate_receive_0 rfl ?_
  obtain ⟨x3, D1, h2, h⟩ := ob_bd_e h
  refine ob_callSi (As := [.ref v1]) (rest := []) d_Gate_receive_1 c_Gate_receive_24 rfl rfl (Nat.le_of_ble_eq_true rfl) (c_Gate_isValid hp_v1 h2) ⟨Nat.le_refl _, Nat.le_refl _⟩ ⟨Nat.le_refl _, Nat.le_refl _⟩ ?_
  refine ob_if_ne d_Gate_receive_4 (fun hc => ?_) (fun hc => ?_)
  · replace h := ob_iff hc h
    refine ob_aload d_Gate_receive_19 rfl ?_
    refine ob_push d_Gate_receive_20 ?_
    refine ob_push d_Gate_receive_21 ?_
    obtain ⟨x6, D4, h5, h⟩ := ob_bd_e h
    refine ob_callVi (As := [.int (0 : Int32), .int (2 : Int32)]) (rest := []) d_Gate_receive_22 c_Gate_receive_31 hp_v1 rfl rfl (Nat.le_of_ble_eq_true rfl) (c_Row_number hp_v1 h5) ⟨Nat.le_refl _, Nat.le_refl _⟩ ⟨Nat.le_refl _, Nat.le_refl _⟩ ?_
    refine ob_istore (lo2 := [(0, .ref v0), (1, .ref v1), (2, .int x6)]) d_Gate_receive_25 rfl ?_
    refine ob_iload d_Gate_receive_26 rfl ?_
    refine ob_push d_Gate_receive_27 ?_
    refine ob_iand d_Gate_receive_30 ?_
    refine ob_if_ne d_Gate_receive_31 (fun hc => ?_) (fun hc => ?_)
    · replace h := ob_iff hc h
      refine ob_iload d_Gate_receive_40 rfl ?_
      refine ob_push d_Gate_receive_41 ?_
      refine ob_iand d_Gate_receive_44 ?_
      refine ob_if_ne d_Gate_receive_45 (fun hc => ?_) (fun hc => ?_)
      · replace h := ob_iff hc h
        refine ob_aload d_Gate_receive_54 rfl ?_
        refine ob_aload d_Gate_receive_55 rfl ?_
        obtain ⟨D7, h8, h⟩ := ob_bv_e h
        refine ob_callVv (As := [.ref v1]) (rest := []) d_Gate_receive_56 c_Gate_receive_41 hp_v0 rfl rfl (Nat.le_of_ble_eq_true rfl) (c_Gate_obey hp_v0 hp_v1 h8) ⟨Nat.le_refl _, Nat.le_refl _⟩ ⟨Nat.le_refl _, Nat.le_refl _⟩ ?_
        refine ob_push d_Gate_receive_59 ?_
        exact ob_ie h (ob_iret d_Gate_receive_60 rfl rfl)
      · replace h := ob_ift hc h
        refine ob_aload d_Gate_receive_48 rfl ?_
        refine ob_aload d_Gate_receive_49 rfl ?_
        obtain ⟨x11, D9, h10, h⟩ := ob_bd_e h
        refine ob_callVi (As := [.ref v1]) (rest := []) d_Gate_receive_50 c_Gate_receive_38 hp_v0 rfl rfl (Nat.le_of_ble_eq_true rfl) (c_Gate_receiveBeside hp_v0 hp_v1 h10) ⟨Nat.le_refl _, Nat.le_refl _⟩ ⟨Nat.le_refl _, Nat.le_refl _⟩ ?_
        obtain ⟨hz12, h⟩ := ob_gd h
        exact ob_ie h (ob_iret d_Gate_receive_53 rfl (ob_nar1 hz12))
    · replace h := ob_ift hc h
      refine ob_aload d_Gate_receive_34 rfl ?_
      refine ob_aload d_Gate_receive_35 rfl ?_
      obtain ⟨x15, D13, h14, h⟩ := ob_bd_e h
      refine ob_callVi (As := [.ref v1]) (rest := []) d_Gate_receive_36 c_Gate_receive_35 hp_v0 rfl rfl (Nat.le_of_ble_eq_true rfl) (c_Gate_receiveInTurn hp_v0 hp_v1 h14) ⟨Nat.le_refl _, Nat.le_refl _⟩ ⟨Nat.le_refl _, Nat.le_refl _⟩ ?_
      obtain ⟨hz16, h⟩ := ob_gd h
      exact ob_ie h (ob_iret d_Gate_receive_39 rfl (ob_nar1 hz16))
  · replace h := ob_ift hc h
    refine ob_aload d_Gate_receive_7 rfl ?_
    refine ob_dup d_Gate_receive_8 rfl ?_
    refine ob_getI d_Gate_receive_9 F_4_8 l_Gate_28 hp_v0 ?_
    refine ob_push d_Gate_receive_12 ?_
    refine ob_iadd d_Gate_receive_13 ?_
    replace h := ob_lt_e h
    refine ob_putI d_Gate_receive_14 F_4_8 l_Gate_28 hp_v0 ?_
    refine ob_push d_Gate_receive_17 ?_
    exact ob_ie h (ob_iret d_Gate_receive_18 rfl rfl)
-- OrbitBox$Gate.takeOut(LOrbitBox$Row;)Z
theorem d_Gate_takeOut_19 : ob_dk k_Gate_takeOut 19 20 (0 : Int32) (.iconst 0) 1 := ⟨by decide +kernel, rfl, show Int32.ofInt 0 = (0 : Int32) by decide +kernel⟩
theorem d_Gate_takeOut_40 : ob_dk k_Gate_takeOut 40 41 (1 : Int32) (.iconst 1) 1 := ⟨by decide +kernel, rfl, show Int32.ofInt 1 = (1 : Int32) by decide +kernel⟩
theorem d_Gate_takeOut_42 : ob_dk k_Gate_takeOut 42 44 (8 : Int32) (.bipush 8) 2 := ⟨by decide +kernel, rfl, show (Int8.ofInt 8).toInt32 = (8 : Int32) by decide +kernel⟩
theorem d_Gate_takeOut_53 : ob_dk k_Gate_takeOut 53 54 (1 : Int32) (.iconst 1) 1 := ⟨by decide +kernel, rfl, show Int32.ofInt 1 = (1 : Int32) by decide +kernel⟩
theorem d_Gate_takeOut_58 : ob_dk k_Gate_takeOut 58 59 (1 : Int32) (.iconst 1) 1 := ⟨by decide +kernel, rfl, show Int32.ofInt 1 = (1 : Int32) by decide +kernel⟩
theorem d_Gate_takeOut_59 : ob_dc k_Gate_takeOut 59 (.ireturn) 1 60 := ⟨by decide +kernel, rfl⟩
theorem d_Gate_takeOut_55 : ob_dc k_Gate_takeOut 55 (.putfield 75) 3 58 := ⟨by decide +kernel, rfl⟩
theorem d_Gate_takeOut_54 : ob_dc k_Gate_takeOut 54 (.isub) 1 55 := ⟨by decide +kernel, rfl⟩
theorem d_Gate_takeOut_50 : ob_dc k_Gate_takeOut 50 (.getfield 75) 3 53 := ⟨by decide +kernel, rfl⟩
theorem d_Gate_takeOut_49 : ob_dc k_Gate_takeOut 49 (.dup) 1 50 := ⟨by decide +kernel, rfl⟩
theorem d_Gate_takeOut_48 : ob_dv ob_ac k_Gate_takeOut 48 49 0 (.aload_n 0) 1 := ⟨by decide +kernel, rfl, rfl⟩
theorem d_Gate_takeOut_45 : ob_dc k_Gate_takeOut 45 (.putfield 78) 3 48 := ⟨by decide +kernel, rfl⟩
theorem d_Gate_takeOut_44 : ob_dc k_Gate_takeOut 44 (.irem) 1 45 := ⟨by decide +kernel, rfl⟩
theorem d_Gate_takeOut_41 : ob_dc k_Gate_takeOut 41 (.iadd) 1 42 := ⟨by decide +kernel, rfl⟩
theorem d_Gate_takeOut_37 : ob_dc k_Gate_takeOut 37 (.getfield 78) 3 40 := ⟨by decide +kernel, rfl⟩
theorem d_Gate_takeOut_36 : ob_dv ob_ac k_Gate_takeOut 36 37 0 (.aload_n 0) 1 := ⟨by decide +kernel, rfl, rfl⟩
theorem d_Gate_takeOut_35 : ob_dv ob_ac k_Gate_takeOut 35 36 0 (.aload_n 0) 1 := ⟨by decide +kernel, rfl, rfl⟩
theorem d_Gate_takeOut_32 : ob_dc k_Gate_takeOut 32 (.invokevirtual 81) 3 35 := ⟨by decide +kernel, rfl⟩
theorem d_Gate_takeOut_29 : ob_dc k_Gate_takeOut 29 (.getfield 45) 3 32 := ⟨by decide +kernel, rfl⟩
theorem d_Gate_takeOut_28 : ob_dc k_Gate_takeOut 28 (.aaload) 1 29 := ⟨by decide +kernel, rfl⟩
theorem d_Gate_takeOut_25 : ob_dc k_Gate_takeOut 25 (.getfield 78) 3 28 := ⟨by decide +kernel, rfl⟩
theorem d_Gate_takeOut_24 : ob_dv ob_ac k_Gate_takeOut 24 25 0 (.aload_n 0) 1 := ⟨by decide +kernel, rfl, rfl⟩
theorem d_Gate_takeOut_21 : ob_dc k_Gate_takeOut 21 (.getfield 13) 3 24 := ⟨by decide +kernel, rfl⟩
theorem d_Gate_takeOut_20 : ob_dv ob_ac k_Gate_takeOut 20 21 0 (.aload_n 0) 1 := ⟨by decide +kernel, rfl, rfl⟩
theorem d_Gate_takeOut_18 : ob_dc k_Gate_takeOut 18 (.aaload) 1 19 := ⟨by decide +kernel, rfl⟩
theorem d_Gate_takeOut_15 : ob_dc k_Gate_takeOut 15 (.getfield 78) 3 18 := ⟨by decide +kernel, rfl⟩
theorem d_Gate_takeOut_14 : ob_dv ob_ac k_Gate_takeOut 14 15 0 (.aload_n 0) 1 := ⟨by decide +kernel, rfl, rfl⟩
theorem d_Gate_takeOut_11 : ob_dc k_Gate_takeOut 11 (.getfield 13) 3 14 := ⟨by decide +kernel, rfl⟩
theorem d_Gate_takeOut_10 : ob_dv ob_ac k_Gate_takeOut 10 11 0 (.aload_n 0) 1 := ⟨by decide +kernel, rfl, rfl⟩
theorem d_Gate_takeOut_9 : ob_dv ob_ac k_Gate_takeOut 9 10 1 (.aload_n 1) 1 := ⟨by decide +kernel, rfl, rfl⟩
theorem d_Gate_takeOut_7 : ob_dk k_Gate_takeOut 7 8 (0 : Int32) (.iconst 0) 1 := ⟨by decide +kernel, rfl, show Int32.ofInt 0 = (0 : Int32) by decide +kernel⟩
theorem d_Gate_takeOut_8 : ob_dc k_Gate_takeOut 8 (.ireturn) 1 9 := ⟨by decide +kernel, rfl⟩
theorem d_Gate_takeOut_4 : ob_db k_Gate_takeOut 4 (.ifCond .ne 5) 5 7 9 := ⟨by decide +kernel, rfl, by decide⟩
theorem d_Gate_takeOut_1 : ob_dc k_Gate_takeOut 1 (.getfield 75) 3 4 := ⟨by decide +kernel, rfl⟩
theorem d_Gate_takeOut_0 : ob_dv ob_ac k_Gate_takeOut 0 1 0 (.aload_n 0) 1 := ⟨by decide +kernel, rfl, rfl⟩
theorem c_Gate_takeOut_81 : ob_vd k_Gate_takeOut k_Row_become 81 3 1 := ⟨cw_Row_become, yd_Row_become, w_544, w_545, w_546, w_2, ⟨_, _, rfl⟩, by decide, by decide⟩
def f_Gate_takeOut (S : ob_S) (v0 : Nat) (v1 : Nat) (D : ob_D) : Option (Int32 × ob_D) :=
  (if (D.1 v0 2) = 0 then some ((0 : Int32), D) else if D.2.1 v0 0 ≠ 0 then if ob_in (D.1 v0 1) (S.2.1 (D.2.1 v0 0)) then if D.2.1 (D.2.1 v0 0) (D.1 v0 1).toNatClampNeg ≠ 0 then if D.2.1 v0 0 ≠ 0 then if ob_in (D.1 v0 1) (S.2.1 (D.2.1 v0 0)) then if D.2.1 (D.2.1 v0 0) (D.1 v0 1).toNatClampNeg ≠ 0 then ob_bv (f_Row_become S v1 (D.2.1 (D.2.1 v0 0) (D.1 v0 1).toNatClampNeg) (0 : Int32) (D.1 (D.2.1 (D.2.1 v0 0) (D.1 v0 1).toNatClampNeg) 1) D) fun D11 => ob_lt (ob_pI D11 v0 1 (((D11.1 v0 1) + (1 : Int32)) - ((D11.1 v0 1) + (1 : Int32)) / (8 : Int32) * (8 : Int32))) fun D13 => ob_lt (ob_pI D13 v0 2 ((D13.1 v0 2) - (1 : Int32))) fun D14 => some ((1 : Int32), D14) else none else none else none else none else none else none)
theorem c_Gate_takeOut {l : Launch} {E : ob_E} {S : ob_S} {D : ob_D} {v0 : Nat} {v1 : Nat} {r : Int32} {D' : ob_D} (hp_v0 : S.1 v0 = 5) (hp_v1 : S.1 v1 = 2) (h : f_Gate_takeOut S v0 v1 D = some (r, D')) : ob_M l E k_Gate_takeOut [.ref v0, .ref v1] S D (some (.int r)) S D' := by
  refine ob_ofV (lo := [(0, .ref v0), (1, .ref v1)]) (by decide) rfl (Nat.le_of_ble_eq_true rfl) rfl (Nat.le_refl _) (Nat.le_refl _) ?_
  rw [f_Gate_takeOut] at h
  refine ob_aload d_Gate_takeOut_0 rfl ?_
  refine ob_getI d_Gate_takeOut_1 F_4_2 l_Gate_75 hp_v0 ?_
  refine ob_if_ne d_Gate_takeOut_4 (fun hc => ?_) (fun hc => ?_)
  · replace h := ob_iff hc h
    refine ob_aload d_Gate_takeOut_9 rfl ?_
    refine ob_aload d_Gate_takeOut_10 rfl ?_
    obtain ⟨hg2, h⟩ := ob_gd h
    refine ob_getR d_Gate_takeOut_11 F_4_0 l_Gate_13 hp_v0 hg2 (fun hk1 => ?_)
    refine ob_aload d_Gate_takeOut_14 rfl ?_
    refine ob_getI d_Gate_takeOut_15 F_4_1 l_Gate_78 hp_v0 ?_
    obtain ⟨hg3, h⟩ := ob_gd h
    obtain ⟨hz4, h⟩ := ob_gd h
    refine ob_aald (j := 4) (t := 1) d_Gate_takeOut_18 hk1 (by decide) rfl rfl rfl hg3 hz4 rfl (fun hk5 => ?_)
    refine ob_push d_Gate_takeOut_19 ?_
    refine ob_aload d_Gate_takeOut_20 rfl ?_
    obtain ⟨hg7, h⟩ := ob_gd h
    refine ob_getR d_Gate_takeOut_21 F_4_0 l_Gate_13 hp_v0 hg7 (fun hk6 => ?_)
    refine ob_aload d_Gate_takeOut_24 rfl ?_
    refine ob_getI d_Gate_takeOut_25 F_4_1 l_Gate_78 hp_v0 ?_
    obtain ⟨hg8, h⟩ := ob_gd h
    obtain ⟨hz9, h⟩ := ob_gd h
    refine ob_aald (j := 4) (t := 1) d_Gate_takeOut_28 hk6 (by decide) rfl rfl rfl hg8 hz9 rfl (fun hk10 => ?_)
    refine ob_getI d_Gate_takeOut_29 F_1_1 l_Gate_45 hk10 ?_
    obtain ⟨D11, h12, h⟩ := ob_bv_e h
    refine ob_callVv (As := [.ref (D.2.1 (D.2.1 v0 0) (D.1 v0 1).toNatClampNeg), .int (0 : Int32), .int (D.1 (D.2.1 (D.2.1 v0 0) (D.1 v0 1).toNatClampNeg) 1)]) (rest := []) d_Gate_takeOut_32 c_Gate_takeOut_81 hp_v1 rfl rfl (Nat.le_of_ble_eq_true rfl) (c_Row_become hp_v1 hk5 h12) ⟨Nat.le_refl _, Nat.le_refl _⟩ ⟨Nat.le_refl _, Nat.le_refl _⟩ ?_
    refine ob_aload d_Gate_takeOut_35 rfl ?_
    refine ob_aload d_Gate_takeOut_36 rfl ?_
    refine ob_getI d_Gate_takeOut_37 F_4_1 l_Gate_78 hp_v0 ?_
    refine ob_push d_Gate_takeOut_40 ?_
    refine ob_iadd d_Gate_takeOut_41 ?_
    refine ob_push d_Gate_takeOut_42 ?_
    refine ob_irem d_Gate_takeOut_44 (by decide) ?_
    replace h := ob_lt_e h
    refine ob_putI d_Gate_takeOut_45 F_4_1 l_Gate_78 hp_v0 ?_
    refine ob_aload d_Gate_takeOut_48 rfl ?_
    refine ob_dup d_Gate_takeOut_49 rfl ?_
    refine ob_getI d_Gate_takeOut_50 F_4_2 l_Gate_75 hp_v0 ?_
    refine ob_push d_Gate_takeOut_53 ?_
    refine ob_isub d_Gate_takeOut_54 ?_
    replace h := ob_lt_e h
    refine ob_putI d_Gate_takeOut_55 F_4_2 l_Gate_75 hp_v0 ?_
    refine ob_push d_Gate_takeOut_58 ?_
    exact ob_ie h (ob_iret d_Gate_takeOut_59 rfl rfl)
  · replace h := ob_ift hc h
    refine ob_push d_Gate_takeOut_7 ?_
    exact ob_ie h (ob_iret d_Gate_takeOut_8 rfl rfl)
-- OrbitBox$Gate.stopWaiting()V
theorem d_Gate_stopWaiting_1 : ob_dk k_Gate_stopWaiting 1 2 (0 : Int32) (.iconst 0) 1 := ⟨by decide +kernel, rfl, show Int32.ofInt 0 = (0 : Int32) by decide +kernel⟩
theorem d_Gate_stopWaiting_9 : ob_dk k_Gate_stopWaiting 9 10 (2 : Int32) (.iconst 2) 1 := ⟨by decide +kernel, rfl, show Int32.ofInt 2 = (2 : Int32) by decide +kernel⟩
theorem d_Gate_stopWaiting_18 : ob_dc k_Gate_stopWaiting 18 (.return_) 1 19 := ⟨by decide +kernel, rfl⟩
theorem d_Gate_stopWaiting_14 : ob_dk k_Gate_stopWaiting 14 15 (1 : Int32) (.iconst 1) 1 := ⟨by decide +kernel, rfl, show Int32.ofInt 1 = (1 : Int32) by decide +kernel⟩
theorem d_Gate_stopWaiting_15 : ob_dc k_Gate_stopWaiting 15 (.putfield 20) 3 18 := ⟨by decide +kernel, rfl⟩
theorem d_Gate_stopWaiting_13 : ob_dv ob_ac k_Gate_stopWaiting 13 14 0 (.aload_n 0) 1 := ⟨by decide +kernel, rfl, rfl⟩
theorem d_Gate_stopWaiting_10 : ob_db k_Gate_stopWaiting 10 (.if_icmp .ne 8) 8 13 18 := ⟨by decide +kernel, rfl, by decide⟩
theorem d_Gate_stopWaiting_6 : ob_dc k_Gate_stopWaiting 6 (.getfield 20) 3 9 := ⟨by decide +kernel, rfl⟩
theorem d_Gate_stopWaiting_5 : ob_dv ob_ac k_Gate_stopWaiting 5 6 0 (.aload_n 0) 1 := ⟨by decide +kernel, rfl, rfl⟩
theorem d_Gate_stopWaiting_2 : ob_dc k_Gate_stopWaiting 2 (.putfield 69) 3 5 := ⟨by decide +kernel, rfl⟩
theorem d_Gate_stopWaiting_0 : ob_dv ob_ac k_Gate_stopWaiting 0 1 0 (.aload_n 0) 1 := ⟨by decide +kernel, rfl, rfl⟩
def f_Gate_stopWaiting (S : ob_S) (v0 : Nat) (D : ob_D) : Option (ob_D) :=
  ob_lt (ob_pI D v0 5 (0 : Int32)) fun D1 => (if (D1.1 v0 3) = (2 : Int32) then ob_lt (ob_pI D1 v0 3 (1 : Int32)) fun D2 => some D2 else some D1)
theorem c_Gate_stopWaiting {l : Launch} {E : ob_E} {S : ob_S} {D : ob_D} {v0 : Nat} {D' : ob_D} (hp_v0 : S.1 v0 = 5) (h : f_Gate_stopWaiting S v0 D = some D') : ob_M l E k_Gate_stopWaiting [.ref v0] S D none S D' := by
  refine ob_ofV (lo := [(0, .ref v0)]) (by decide) rfl (Nat.le_of_ble_eq_true rfl) rfl (Nat.le_refl _) (Nat.le_refl _) ?_
  rw [f_Gate_stopWaiting] at h
  refine ob_aload d_Gate_stopWaiting_0 rfl ?_
  refine ob_push d_Gate_stopWaiting_1 ?_
  replace h := ob_lt_e h
  refine ob_putZ d_Gate_stopWaiting_2 F_4_5 l_Gate_69 hp_v0 (Or.inl rfl) ?_
  refine ob_aload d_Gate_stopWaiting_5 rfl ?_
  refine ob_getI d_Gate_stopWaiting_6 F_4_3 l_Gate_20 hp_v0 ?_
  refine ob_push d_Gate_stopWaiting_9 ?_
  refine ob_icmp_ne d_Gate_stopWaiting_10 (fun hc => ?_) (fun hc => ?_)
  · replace h := ob_iff hc h
    exact ob_ve h (ob_vret d_Gate_stopWaiting_18 rfl)
  · replace h := ob_ift hc h
    refine ob_aload d_Gate_stopWaiting_13 rfl ?_
    refine ob_push d_Gate_stopWaiting_14 ?_
    replace h := ob_lt_e h
    refine ob_putI d_Gate_stopWaiting_15 F_4_3 l_Gate_20 hp_v0 ?_
    exact ob_ve h (ob_vret d_Gate_stopWaiting_18 rfl)
-- OrbitBox$Gate.asWord()I
theorem d_Gate_asWord_6 : ob_dk k_Gate_asWord 6 7 (3 : Int32) (.iconst 3) 1 := ⟨by decide +kernel, rfl, show Int32.ofInt 3 = (3 : Int32) by decide +kernel⟩
theorem d_Gate_asWord_16 : ob_dk k_Gate_asWord 16 17 (0 : Int32) (.iconst 0) 1 := ⟨by decide +kernel, rfl, show Int32.ofInt 0 = (0 : Int32) by decide +kernel⟩
theorem d_Gate_asWord_31 : ob_dk k_Gate_asWord 31 32 (0 : Int32) (.iconst 0) 1 := ⟨by decide +kernel, rfl, show Int32.ofInt 0 = (0 : Int32) by decide +kernel⟩
theorem d_Gate_asWord_46 : ob_dk k_Gate_asWord 46 47 (0 : Int32) (.iconst 0) 1 := ⟨by decide +kernel, rfl, show Int32.ofInt 0 = (0 : Int32) by decide +kernel⟩
theorem d_Gate_asWord_52 : ob_dk k_Gate_asWord 52 54 (9 : Int32) (.bipush 9) 2 := ⟨by decide +kernel, rfl, show (Int8.ofInt 9).toInt32 = (9 : Int32) by decide +kernel⟩
theorem d_Gate_asWord_61 : ob_dc k_Gate_asWord 61 (.ireturn) 1 62 := ⟨by decide +kernel, rfl⟩
theorem d_Gate_asWord_60 : ob_dc k_Gate_asWord 60 (.ior) 1 61 := ⟨by decide +kernel, rfl⟩
theorem d_Gate_asWord_57 : ob_dc k_Gate_asWord 57 (.getfield 59) 3 60 := ⟨by decide +kernel, rfl⟩
theorem d_Gate_asWord_56 : ob_dv ob_ac k_Gate_asWord 56 57 0 (.aload_n 0) 1 := ⟨by decide +kernel, rfl, rfl⟩
theorem d_Gate_asWord_55 : ob_dc k_Gate_asWord 55 (.ior) 1 56 := ⟨by decide +kernel, rfl⟩
theorem d_Gate_asWord_54 : ob_dc k_Gate_asWord 54 (.ishl) 1 55 := ⟨by decide +kernel, rfl⟩
theorem d_Gate_asWord_49 : ob_dc k_Gate_asWord 49 (.getfield 72) 3 52 := ⟨by decide +kernel, rfl⟩
theorem d_Gate_asWord_48 : ob_dv ob_ac k_Gate_asWord 48 49 0 (.aload_n 0) 1 := ⟨by decide +kernel, rfl, rfl⟩
theorem d_Gate_asWord_47 : ob_dc k_Gate_asWord 47 (.ior) 1 48 := ⟨by decide +kernel, rfl⟩
theorem d_Gate_asWord_40 : ob_dk k_Gate_asWord 40 43 (2048 : Int32) (.sipush 2048) 3 := ⟨by decide +kernel, rfl, show (Int16.ofInt 2048).toInt32 = (2048 : Int32) by decide +kernel⟩
theorem d_Gate_asWord_43 : ob_db k_Gate_asWord 43 (.goto 4) 4 46 47 := ⟨by decide +kernel, rfl, by decide⟩
theorem d_Gate_asWord_37 : ob_db k_Gate_asWord 37 (.ifCond .eq 9) 9 40 46 := ⟨by decide +kernel, rfl, by decide⟩
theorem d_Gate_asWord_34 : ob_dc k_Gate_asWord 34 (.getfield 62) 3 37 := ⟨by decide +kernel, rfl⟩
theorem d_Gate_asWord_33 : ob_dv ob_ac k_Gate_asWord 33 34 0 (.aload_n 0) 1 := ⟨by decide +kernel, rfl, rfl⟩
theorem d_Gate_asWord_32 : ob_dc k_Gate_asWord 32 (.ior) 1 33 := ⟨by decide +kernel, rfl⟩
theorem d_Gate_asWord_25 : ob_dk k_Gate_asWord 25 28 (4096 : Int32) (.sipush 4096) 3 := ⟨by decide +kernel, rfl, show (Int16.ofInt 4096).toInt32 = (4096 : Int32) by decide +kernel⟩
theorem d_Gate_asWord_28 : ob_db k_Gate_asWord 28 (.goto 4) 4 31 32 := ⟨by decide +kernel, rfl, by decide⟩
theorem d_Gate_asWord_22 : ob_db k_Gate_asWord 22 (.ifCond .eq 9) 9 25 31 := ⟨by decide +kernel, rfl, by decide⟩
theorem d_Gate_asWord_19 : ob_dc k_Gate_asWord 19 (.getfield 69) 3 22 := ⟨by decide +kernel, rfl⟩
theorem d_Gate_asWord_18 : ob_dv ob_ac k_Gate_asWord 18 19 0 (.aload_n 0) 1 := ⟨by decide +kernel, rfl, rfl⟩
theorem d_Gate_asWord_17 : ob_dc k_Gate_asWord 17 (.ior) 1 18 := ⟨by decide +kernel, rfl⟩
theorem d_Gate_asWord_10 : ob_dk k_Gate_asWord 10 13 (8192 : Int32) (.sipush 8192) 3 := ⟨by decide +kernel, rfl, show (Int16.ofInt 8192).toInt32 = (8192 : Int32) by decide +kernel⟩
theorem d_Gate_asWord_13 : ob_db k_Gate_asWord 13 (.goto 4) 4 16 17 := ⟨by decide +kernel, rfl, by decide⟩
theorem d_Gate_asWord_7 : ob_db k_Gate_asWord 7 (.if_icmp .ne 9) 9 10 16 := ⟨by decide +kernel, rfl, by decide⟩
theorem d_Gate_asWord_3 : ob_dc k_Gate_asWord 3 (.getfield 20) 3 6 := ⟨by decide +kernel, rfl⟩
theorem d_Gate_asWord_2 : ob_dv ob_ac k_Gate_asWord 2 3 0 (.aload_n 0) 1 := ⟨by decide +kernel, rfl, rfl⟩
theorem d_Gate_asWord_0 : ob_dc k_Gate_asWord 0 (.ldc 88) 2 2 := ⟨by decide +kernel, rfl⟩
def f_Gate_asWord_L47 (S : ob_S) (v0 : Nat) (s0 : Int32) (s1 : Int32) (D : ob_D) : Option (Int32 × ob_D) :=
  some (((s1 ||| s0) ||| ((D.1 v0 7) <<< ((9 : Int32) &&& 31))) ||| (D.1 v0 4), D)
theorem v_Gate_asWord_L47 {l : Launch} {E : ob_E} {S : ob_S} {r : Int32} {D' : ob_D} : ∀ (v0 : Nat) (s0 : Int32) (s1 : Int32) (D : ob_D), S.1 v0 = 5 → f_Gate_asWord_L47 S v0 s0 s1 D = some (r, D') → ob_V l E k_Gate_asWord 47 [(0, .ref v0)] [.int s0, .int s1] S D (some (.int r)) S D' := by
  intro v0 s0 s1 D hp_v0 h
  rw [f_Gate_asWord_L47] at h
  refine ob_ior d_Gate_asWord_47 ?_
  refine ob_aload d_Gate_asWord_48 rfl ?_
  refine ob_getI d_Gate_asWord_49 F_4_7 l_Gate_72 hp_v0 ?_
  refine ob_push d_Gate_asWord_52 ?_
  refine ob_ishl d_Gate_asWord_54 ?_
  refine ob_ior d_Gate_asWord_55 ?_
  refine ob_aload d_Gate_asWord_56 rfl ?_
  refine ob_getI d_Gate_asWord_57 F_4_4 l_Gate_59 hp_v0 ?_
  refine ob_ior d_Gate_asWord_60 ?_
  exact ob_ie h (ob_iret d_Gate_asWord_61 rfl rfl)
def f_Gate_asWord_L17 (S : ob_S) (v0 : Nat) (s0 : Int32) (s1 : Int32) (D : ob_D) : Option (Int32 × ob_D) :=
  (if (D.1 v0 5) = 0 then (if (D.1 v0 6) = 0 then f_Gate_asWord_L47 S v0 (0 : Int32) ((s1 ||| s0) ||| (0 : Int32)) D else f_Gate_asWord_L47 S v0 (2048 : Int32) ((s1 ||| s0) ||| (0 : Int32)) D) else (if (D.1 v0 6) = 0 then f_Gate_asWord_L47 S v0 (0 : Int32) ((s1 ||| s0) ||| (4096 : Int32)) D else f_Gate_asWord_L47 S v0 (2048 : Int32) ((s1 ||| s0) ||| (4096 : Int32)) D))
theorem v_Gate_asWord_L17 {l : Launch} {E : ob_E} {S : ob_S} {r : Int32} {D' : ob_D} : ∀ (v0 : Nat) (s0 : Int32) (s1 : Int32) (D : ob_D), S.1 v0 = 5 → f_Gate_asWord_L17 S v0 s0 s1 D = some (r, D') → ob_V l E k_Gate_asWord 17 [(0, .ref v0)] [.int s0, .int s1] S D (some (.int r)) S D' := by
  intro v0 s0 s1 D hp_v0 h
  rw [f_Gate_asWord_L17] at h
  refine ob_ior d_Gate_asWord_17 ?_
  refine ob_aload d_Gate_asWord_18 rfl ?_
  refine ob_getI d_Gate_asWord_19 F_4_5 l_Gate_69 hp_v0 ?_
  refine ob_if_eq d_Gate_asWord_22 (fun hc => ?_) (fun hc => ?_)
  · replace h := ob_ift hc h
    refine ob_push d_Gate_asWord_31 ?_
    refine ob_ior d_Gate_asWord_32 ?_
    refine ob_aload d_Gate_asWord_33 rfl ?_
    refine ob_getI d_Gate_asWord_34 F_4_6 l_Gate_62 hp_v0 ?_
    refine ob_if_eq d_Gate_asWord_37 (fun hc => ?_) (fun hc => ?_)
    · replace h := ob_ift hc h
      refine ob_push d_Gate_asWord_46 ?_
      exact v_Gate_asWord_L47 v0 (0 : Int32) ((s1 ||| s0) ||| (0 : Int32)) D hp_v0 h
    · replace h := ob_iff hc h
      refine ob_push d_Gate_asWord_40 ?_
      refine ob_goto d_Gate_asWord_43 ?_
      exact v_Gate_asWord_L47 v0 (2048 : Int32) ((s1 ||| s0) ||| (0 : Int32)) D hp_v0 h
  · replace h := ob_iff hc h
    refine ob_push d_Gate_asWord_25 ?_
    refine ob_goto d_Gate_asWord_28 ?_
    refine ob_ior d_Gate_asWord_32 ?_
    refine ob_aload d_Gate_asWord_33 rfl ?_
    refine ob_getI d_Gate_asWord_34 F_4_6 l_Gate_62 hp_v0 ?_
    refine ob_if_eq d_Gate_asWord_37 (fun hc => ?_) (fun hc => ?_)
    · replace h := ob_ift hc h
      refine ob_push d_Gate_asWord_46 ?_
      exact v_Gate_asWord_L47 v0 (0 : Int32) ((s1 ||| s0) ||| (4096 : Int32)) D hp_v0 h
    · replace h := ob_iff hc h
      refine ob_push d_Gate_asWord_40 ?_
      refine ob_goto d_Gate_asWord_43 ?_
      exact v_Gate_asWord_L47 v0 (2048 : Int32) ((s1 ||| s0) ||| (4096 : Int32)) D hp_v0 h
def f_Gate_asWord (S : ob_S) (v0 : Nat) (D : ob_D) : Option (Int32 × ob_D) :=
  (if (D.1 v0 3) = (3 : Int32) then f_Gate_asWord_L17 S v0 (8192 : Int32) (16777216 : Int32) D else f_Gate_asWord_L17 S v0 (0 : Int32) (16777216 : Int32) D)
theorem c_Gate_asWord {l : Launch} {E : ob_E} {S : ob_S} {D : ob_D} {v0 : Nat} {r : Int32} {D' : ob_D} (hp_v0 : S.1 v0 = 5) (h : f_Gate_asWord S v0 D = some (r, D')) : ob_M l E k_Gate_asWord [.ref v0] S D (some (.int r)) S D' := by
  refine ob_ofV (lo := [(0, .ref v0)]) (by decide) rfl (Nat.le_of_ble_eq_true rfl) rfl (Nat.le_refl _) (Nat.le_refl _) ?_
  rw [f_Gate_asWord] at h
  refine ob_ldc (idx := 88) d_Gate_asWord_0 (Or.inl ⟨rfl, rfl⟩) w_943 ?_
  refine ob_aload d_Gate_asWord_2 rfl ?_
  refine ob_getI d_Gate_asWord_3 F_4_3 l_Gate_20 hp_v0 ?_
  refine ob_push d_Gate_asWord_6 ?_
  refine ob_icmp_ne d_Gate_asWord_7 (fun hc => ?_) (fun hc => ?_)
  · replace h := ob_iff hc h
    refine ob_push d_Gate_asWord_16 ?_
    exact v_Gate_asWord_L17 v0 (0 : Int32) (16777216 : Int32) D hp_v0 h
  · replace h := ob_ift hc h
    refine ob_push d_Gate_asWord_10 ?_
    refine ob_goto d_Gate_asWord_13 ?_
    exact v_Gate_asWord_L17 v0 (8192 : Int32) (16777216 : Int32) D hp_v0 h
