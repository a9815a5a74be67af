-- OrbitBox$Ring.<init>(I)V
theorem d_Ring_init_0 : ob_dv ob_ac k_Ring_init 0 1 0 (.aload_n 0) 1 := ⟨by decide +kernel, rfl, rfl⟩
theorem d_Ring_init_1 : ob_dc k_Ring_init 1 (.invokespecial 1) 3 4 := ⟨by decide +kernel, rfl⟩
theorem d_Ring_init_4 : ob_dv ob_ac k_Ring_init 4 5 0 (.aload_n 0) 1 := ⟨by decide +kernel, rfl, rfl⟩
theorem d_Ring_init_5 : ob_dv ob_lc k_Ring_init 5 6 1 (.iload_n 1) 1 := ⟨by decide +kernel, rfl, rfl⟩
theorem d_Ring_init_6 : ob_dc k_Ring_init 6 (.newarray .int) 2 8 := ⟨by decide +kernel, rfl⟩
theorem d_Ring_init_8 : ob_dc k_Ring_init 8 (.putfield 7) 3 11 := ⟨by decide +kernel, rfl⟩
theorem d_Ring_init_11 : ob_dv ob_ac k_Ring_init 11 12 0 (.aload_n 0) 1 := ⟨by decide +kernel, rfl, rfl⟩
theorem d_Ring_init_12 : ob_dk k_Ring_init 12 13 (0 : Int32) (.iconst 0) 1 := ⟨by decide +kernel, rfl, show Int32.ofInt 0 = (0 : Int32) by decide +kernel⟩
theorem d_Ring_init_13 : ob_dc k_Ring_init 13 (.putfield 13) 3 16 := ⟨by decide +kernel, rfl⟩
theorem d_Ring_init_16 : ob_dv ob_ac k_Ring_init 16 17 0 (.aload_n 0) 1 := ⟨by decide +kernel, rfl, rfl⟩
theorem d_Ring_init_17 : ob_dk k_Ring_init 17 18 (0 : Int32) (.iconst 0) 1 := ⟨by decide +kernel, rfl, show Int32.ofInt 0 = (0 : Int32) by decide +kernel⟩
theorem d_Ring_init_18 : ob_dc k_Ring_init 18 (.putfield 17) 3 21 := ⟨by decide +kernel, rfl⟩
theorem d_Ring_init_21 : ob_dc k_Ring_init 21 (.return_) 1 22 := ⟨by decide +kernel, rfl⟩
def f_Ring_init (v0 : Nat) (v1 : Int32) (S : ob_S) (D : ob_D) : Option (ob_S × ob_D) :=
  ob_gt (¬ v1 < 0 ∧ v1.toNatClampNeg ≤ 67108864) <| ob_lt (ob_new S 20 v1.toNatClampNeg v1.toNatClampNeg) fun S1 => ob_lt (ob_z D S.2.2.1) fun D2 => ob_lt (ob_pR D2 v0 0 (S.2.2.1)) fun D8 => ob_lt (ob_pI D8 v0 1 (0 : Int32)) fun D10 => ob_lt (ob_pI D10 v0 2 (0 : Int32)) fun D12 => some (S1, D12)
theorem e_Ring_init {v0 : Nat} {v1 : Int32} {S T : ob_S} {D D' : ob_D} (h : f_Ring_init v0 v1 S D = some (T, D')) : ob_ext S T := by
  rw [f_Ring_init] at h
  obtain ⟨hg5, h⟩ := ob_gt_e h
  obtain ⟨S1, hS3, h⟩ := ob_lt_x h
  obtain ⟨D2, hD4, h⟩ := ob_lt_x h
  obtain ⟨D8, hD9, h⟩ := ob_lt_x h
  obtain ⟨D10, hD11, h⟩ := ob_lt_x h
  obtain ⟨D12, hD13, h⟩ := ob_lt_x h
  obtain ⟨he1, he2⟩ := ob_pe h
  have x_S1 : ob_ext S1 T := ob_ext_eq he1
  have x_S : ob_ext S T := (ob_ext_new hS3).tr x_S1
  exact x_S
theorem c_Ring_init {l : Launch} {E : ob_E} {S T : ob_S} {D D' : ob_D} {v0 : Nat} {v1 : Int32} (hp_v0 : S.1 v0 = 3) (h : f_Ring_init v0 v1 S D = some (T, D')) : ob_M l E k_Ring_init [.ref v0, .int v1] S D none T D' := by
  have xx := e_Ring_init h
  refine ob_ofV (lo := [(0, .ref v0), (1, .int v1)]) (by decide) rfl (Nat.le_of_ble_eq_true rfl) rfl xx.1 xx.2.1 ?_
  rw [f_Ring_init] at h
  refine ob_withH fun H0 hH0 => ?_
  have kd_v0 := ob_kdH hH0 hp_v0
  obtain ⟨hg5, h⟩ := ob_gt_e h
  obtain ⟨S1, hS3, h⟩ := ob_lt_x h
  obtain ⟨D2, hD4, h⟩ := ob_lt_x h
  obtain ⟨D8, hD9, h⟩ := ob_lt_x h
  obtain ⟨D10, hD11, h⟩ := ob_lt_x h
  obtain ⟨D12, hD13, h⟩ := ob_lt_x h
  obtain ⟨he1, he2⟩ := ob_pe h
  have x_S1 : ob_ext S1 T := ob_ext_eq he1
  have x_S : ob_ext S T := (ob_ext_new hS3).tr x_S1
  refine ob_aload d_Ring_init_0 rfl ?_
  refine ob_objI d_Ring_init_1 w_177 w_27 w_28 (by decide) (Nat.le_of_ble_eq_true rfl) ?_
  refine ob_aload d_Ring_init_4 rfl ?_
  refine ob_iload d_Ring_init_5 rfl ?_
  refine ob_newIx d_Ring_init_6 w_52 hg5 hS3 hD4 x_S1 ?_
  have hk6 := ob_kd_new hS3 kd_v0
  have hk7 : ob_kd S1 S.2.2.1 20 := ob_kd_this hS3 (by decide)
  refine ob_xI hD9 (ob_putFR d_Ring_init_8 F_2_0 w_178 ⟨rfl, rfl⟩ (fty := (.array (.int))) (by decide) rfl rfl hk6.1 hk7.1) ?_
  refine ob_aload d_Ring_init_11 rfl ?_
  refine ob_push d_Ring_init_12 ?_
  refine ob_xI hD11 (ob_putI d_Ring_init_13 F_2_1 l_Ring_13 hk6.1) ?_
  refine ob_aload d_Ring_init_16 rfl ?_
  refine ob_push d_Ring_init_17 ?_
  refine ob_xI hD13 (ob_putI d_Ring_init_18 F_2_2 l_Ring_17 hk6.1) ?_
  exact ob_vee he1 he2 (ob_vret d_Ring_init_21 rfl)
-- OrbitBox$Table.<init>(II)V
theorem d_Table_init_0 : ob_dv ob_ac k_Table_init 0 1 0 (.aload_n 0) 1 := ⟨by decide +kernel, rfl, rfl⟩
theorem d_Table_init_1 : ob_dc k_Table_init 1 (.invokespecial 5) 3 4 := ⟨by decide +kernel, rfl⟩
theorem d_Table_init_4 : ob_dv ob_ac k_Table_init 4 5 0 (.aload_n 0) 1 := ⟨by decide +kernel, rfl, rfl⟩
theorem d_Table_init_5 : ob_dv ob_lc k_Table_init 5 6 1 (.iload_n 1) 1 := ⟨by decide +kernel, rfl, rfl⟩
theorem d_Table_init_6 : ob_dc k_Table_init 6 (.putfield 11) 3 9 := ⟨by decide +kernel, rfl⟩
theorem d_Table_init_9 : ob_dv ob_ac k_Table_init 9 10 0 (.aload_n 0) 1 := ⟨by decide +kernel, rfl, rfl⟩
theorem d_Table_init_10 : ob_dv ob_lc k_Table_init 10 11 2 (.iload_n 2) 1 := ⟨by decide +kernel, rfl, rfl⟩
theorem d_Table_init_11 : ob_dc k_Table_init 11 (.putfield 15) 3 14 := ⟨by decide +kernel, rfl⟩
theorem d_Table_init_14 : ob_dv ob_ac k_Table_init 14 15 0 (.aload_n 0) 1 := ⟨by decide +kernel, rfl, rfl⟩
theorem d_Table_init_15 : ob_dv ob_lc k_Table_init 15 16 1 (.iload_n 1) 1 := ⟨by decide +kernel, rfl, rfl⟩
theorem d_Table_init_16 : ob_dv ob_lc k_Table_init 16 17 2 (.iload_n 2) 1 := ⟨by decide +kernel, rfl, rfl⟩
theorem d_Table_init_17 : ob_dc k_Table_init 17 (.imul) 1 18 := ⟨by decide +kernel, rfl⟩
theorem d_Table_init_18 : ob_dc k_Table_init 18 (.newarray .int) 2 20 := ⟨by decide +kernel, rfl⟩
theorem d_Table_init_20 : ob_dc k_Table_init 20 (.putfield 18) 3 23 := ⟨by decide +kernel, rfl⟩
theorem d_Table_init_23 : ob_dc k_Table_init 23 (.return_) 1 24 := ⟨by decide +kernel, rfl⟩
def f_Table_init (v0 : Nat) (v1 : Int32) (v2 : Int32) (S : ob_S) (D : ob_D) : Option (ob_S × ob_D) :=
  ob_lt (ob_pI D v0 0 v1) fun D1 => ob_lt (ob_pI D1 v0 1 v2) fun D3 => ob_gt (¬ (v1 * v2) < 0 ∧ (v1 * v2).toNatClampNeg ≤ 67108864) <| ob_lt (ob_new S 20 (v1 * v2).toNatClampNeg (v1 * v2).toNatClampNeg) fun S5 => ob_lt (ob_z D3 S.2.2.1) fun D6 => ob_lt (ob_pR D6 v0 2 (S.2.2.1)) fun D12 => some (S5, D12)
theorem e_Table_init {v0 : Nat} {v1 : Int32} {v2 : Int32} {S T : ob_S} {D D' : ob_D} (h : f_Table_init v0 v1 v2 S D = some (T, D')) : ob_ext S T := by
  rw [f_Table_init] at h
  obtain ⟨D1, hD2, h⟩ := ob_lt_x h
  obtain ⟨D3, hD4, h⟩ := ob_lt_x h
  obtain ⟨hg9, h⟩ := ob_gt_e h
  obtain ⟨S5, hS7, h⟩ := ob_lt_x h
  obtain ⟨D6, hD8, h⟩ := ob_lt_x h
  obtain ⟨D12, hD13, h⟩ := ob_lt_x h
  obtain ⟨he1, he2⟩ := ob_pe h
  have x_S5 : ob_ext S5 T := ob_ext_eq he1
  have x_S : ob_ext S T := (ob_ext_new hS7).tr x_S5
  exact x_S
theorem c_Table_init {l : Launch} {E : ob_E} {S T : ob_S} {D D' : ob_D} {v0 : Nat} {v1 : Int32} {v2 : Int32} (hp_v0 : S.1 v0 = 8) (h : f_Table_init v0 v1 v2 S D = some (T, D')) : ob_M l E k_Table_init [.ref v0, .int v1, .int v2] S D none T D' := by
  have xx := e_Table_init h
  refine ob_ofV (lo := [(0, .ref v0), (1, .int v1), (2, .int v2)]) (by decide) rfl (Nat.le_of_ble_eq_true rfl) rfl xx.1 xx.2.1 ?_
  rw [f_Table_init] at h
  refine ob_withH fun H0 hH0 => ?_
  have kd_v0 := ob_kdH hH0 hp_v0
  obtain ⟨D1, hD2, h⟩ := ob_lt_x h
  obtain ⟨D3, hD4, h⟩ := ob_lt_x h
  obtain ⟨hg9, h⟩ := ob_gt_e h
  obtain ⟨S5, hS7, h⟩ := ob_lt_x h
  obtain ⟨D6, hD8, h⟩ := ob_lt_x h
  obtain ⟨D12, hD13, h⟩ := ob_lt_x h
  obtain ⟨he1, he2⟩ := ob_pe h
  have x_S5 : ob_ext S5 T := ob_ext_eq he1
  have x_S : ob_ext S T := (ob_ext_new hS7).tr x_S5
  refine ob_aload d_Table_init_0 rfl ?_
  refine ob_objI d_Table_init_1 w_228 w_27 w_28 (by decide) (Nat.le_of_ble_eq_true rfl) ?_
  refine ob_aload d_Table_init_4 rfl ?_
  refine ob_iload d_Table_init_5 rfl ?_
  refine ob_xI hD2 (ob_putFI d_Table_init_6 F_7_0 w_229 ⟨rfl, rfl⟩ kd_v0.1) ?_
  refine ob_aload d_Table_init_9 rfl ?_
  refine ob_iload d_Table_init_10 rfl ?_
  refine ob_xI hD4 (ob_putFI d_Table_init_11 F_7_1 w_230 ⟨rfl, rfl⟩ kd_v0.1) ?_
  refine ob_aload d_Table_init_14 rfl ?_
  refine ob_iload d_Table_init_15 rfl ?_
  refine ob_iload d_Table_init_16 rfl ?_
  refine ob_imul d_Table_init_17 ?_
  refine ob_newIx d_Table_init_18 w_52 hg9 hS7 hD8 x_S5 ?_
  have hk10 := ob_kd_new hS7 kd_v0
  have hk11 : ob_kd S5 S.2.2.1 20 := ob_kd_this hS7 (by decide)
  refine ob_xI hD13 (ob_putFR d_Table_init_20 F_7_2 w_231 ⟨rfl, rfl⟩ (fty := (.array (.int))) (by decide) rfl rfl hk10.1 hk11.1) ?_
  exact ob_vee he1 he2 (ob_vret d_Table_init_23 rfl)
-- OrbitBox$Ring.hasRoom(I)Z
theorem d_Ring_hasRoom_18 : ob_dk k_Ring_hasRoom 18 19 (0 : Int32) (.iconst 0) 1 := ⟨by decide +kernel, rfl, show Int32.ofInt 0 = (0 : Int32) by decide +kernel⟩
theorem d_Ring_hasRoom_19 : ob_dc k_Ring_hasRoom 19 (.ireturn) 1 20 := ⟨by decide +kernel, rfl⟩
theorem d_Ring_hasRoom_14 : ob_dk k_Ring_hasRoom 14 15 (1 : Int32) (.iconst 1) 1 := ⟨by decide +kernel, rfl, show Int32.ofInt 1 = (1 : Int32) by decide +kernel⟩
theorem d_Ring_hasRoom_15 : ob_db k_Ring_hasRoom 15 (.goto 4) 4 18 19 := ⟨by decide +kernel, rfl, by decide⟩
theorem d_Ring_hasRoom_11 : ob_db k_Ring_hasRoom 11 (.if_icmp .gt 7) 7 14 18 := ⟨by decide +kernel, rfl, by decide⟩
theorem d_Ring_hasRoom_10 : ob_dc k_Ring_hasRoom 10 (.isub) 1 11 := ⟨by decide +kernel, rfl⟩
theorem d_Ring_hasRoom_7 : ob_dc k_Ring_hasRoom 7 (.getfield 17) 3 10 := ⟨by decide +kernel, rfl⟩
theorem d_Ring_hasRoom_6 : ob_dv ob_ac k_Ring_hasRoom 6 7 0 (.aload_n 0) 1 := ⟨by decide +kernel, rfl, rfl⟩
theorem d_Ring_hasRoom_5 : ob_dc k_Ring_hasRoom 5 (.arraylength) 1 6 := ⟨by decide +kernel, rfl⟩
theorem d_Ring_hasRoom_2 : ob_dc k_Ring_hasRoom 2 (.getfield 7) 3 5 := ⟨by decide +kernel, rfl⟩
theorem d_Ring_hasRoom_1 : ob_dv ob_ac k_Ring_hasRoom 1 2 0 (.aload_n 0) 1 := ⟨by decide +kernel, rfl, rfl⟩
theorem d_Ring_hasRoom_0 : ob_dv ob_lc k_Ring_hasRoom 0 1 1 (.iload_n 1) 1 := ⟨by decide +kernel, rfl, rfl⟩
def f_Ring_hasRoom (S : ob_S) (v0 : Nat) (v1 : Int32) (D : ob_D) : Option (Int32 × ob_D) :=
  if D.2.1 v0 0 ≠ 0 then (if ((Int32.ofNat (S.2.1 (D.2.1 v0 0))) - (D.1 v0 2)) < v1 then some ((0 : Int32), D) else some ((1 : Int32), D)) else none
theorem c_Ring_hasRoom {l : Launch} {E : ob_E} {S : ob_S} {D : ob_D} {v0 : Nat} {v1 : Int32} {r : Int32} {D' : ob_D} (hp_v0 : S.1 v0 = 3) (h : f_Ring_hasRoom S v0 v1 D = some (r, D')) : ob_M l E k_Ring_hasRoom [.ref v0, .int v1] S D (some (.int r)) S D' := by
  refine ob_ofV (lo := [(0, .ref v0), (1, .int v1)]) (by decide) rfl (Nat.le_of_ble_eq_true rfl) rfl (Nat.le_refl _) (Nat.le_refl _) ?_
  rw [f_Ring_hasRoom] at h
  refine ob_iload d_Ring_hasRoom_0 rfl ?_
  refine ob_aload d_Ring_hasRoom_1 rfl ?_
  obtain ⟨hg2, h⟩ := ob_gd h
  refine ob_getR d_Ring_hasRoom_2 F_2_0 l_Ring_7 hp_v0 hg2 (fun hk1 => ?_)
  refine ob_alen (i := 0) d_Ring_hasRoom_5 hk1 (by decide) ?_
  refine ob_aload d_Ring_hasRoom_6 rfl ?_
  refine ob_getI d_Ring_hasRoom_7 F_2_2 l_Ring_17 hp_v0 ?_
  refine ob_isub d_Ring_hasRoom_10 ?_
  refine ob_icmp_gt d_Ring_hasRoom_11 (fun hc => ?_) (fun hc => ?_)
  · replace h := ob_ift hc h
    refine ob_push d_Ring_hasRoom_18 ?_
    exact ob_ie h (ob_iret d_Ring_hasRoom_19 rfl rfl)
  · replace h := ob_iff hc h
    refine ob_push d_Ring_hasRoom_14 ?_
    refine ob_goto d_Ring_hasRoom_15 ?_
    exact ob_ie h (ob_iret d_Ring_hasRoom_19 rfl rfl)
-- OrbitBox$Ring.put(I)V
theorem d_Ring_put_58 : ob_dc k_Ring_put 58 (.return_) 1 59 := ⟨by decide +kernel, rfl⟩
theorem d_Ring_put_53 : ob_dk k_Ring_put 53 54 (1 : Int32) (.iconst 1) 1 := ⟨by decide +kernel, rfl, show Int32.ofInt 1 = (1 : Int32) by decide +kernel⟩
theorem d_Ring_put_55 : ob_dc k_Ring_put 55 (.putfield 17) 3 58 := ⟨by decide +kernel, rfl⟩
theorem d_Ring_put_54 : ob_dc k_Ring_put 54 (.iadd) 1 55 := ⟨by decide +kernel, rfl⟩
theorem d_Ring_put_50 : ob_dc k_Ring_put 50 (.getfield 17) 3 53 := ⟨by decide +kernel, rfl⟩
theorem d_Ring_put_49 : ob_dc k_Ring_put 49 (.dup) 1 50 := ⟨by decide +kernel, rfl⟩
theorem d_Ring_put_48 : ob_dv ob_ac k_Ring_put 48 49 0 (.aload_n 0) 1 := ⟨by decide +kernel, rfl, rfl⟩
theorem d_Ring_put_47 : ob_dc k_Ring_put 47 (.iastore) 1 48 := ⟨by decide +kernel, rfl⟩
theorem d_Ring_put_46 : ob_dv ob_lc k_Ring_put 46 47 1 (.iload_n 1) 1 := ⟨by decide +kernel, rfl, rfl⟩
theorem d_Ring_put_45 : ob_dc k_Ring_put 45 (.isub) 1 46 := ⟨by decide +kernel, rfl⟩
theorem d_Ring_put_44 : ob_dc k_Ring_put 44 (.arraylength) 1 45 := ⟨by decide +kernel, rfl⟩
theorem d_Ring_put_41 : ob_dc k_Ring_put 41 (.getfield 7) 3 44 := ⟨by decide +kernel, rfl⟩
theorem d_Ring_put_40 : ob_dv ob_ac k_Ring_put 40 41 0 (.aload_n 0) 1 := ⟨by decide +kernel, rfl, rfl⟩
theorem d_Ring_put_39 : ob_dv ob_lc k_Ring_put 39 40 2 (.iload_n 2) 1 := ⟨by decide +kernel, rfl, rfl⟩
theorem d_Ring_put_36 : ob_db k_Ring_put 36 (.goto 10) 10 39 46 := ⟨by decide +kernel, rfl, by decide⟩
theorem d_Ring_put_35 : ob_dv ob_lc k_Ring_put 35 36 2 (.iload_n 2) 1 := ⟨by decide +kernel, rfl, rfl⟩
theorem d_Ring_put_32 : ob_db k_Ring_put 32 (.if_icmp .ge 7) 7 35 39 := ⟨by decide +kernel, rfl, by decide⟩
theorem d_Ring_put_31 : ob_dc k_Ring_put 31 (.arraylength) 1 32 := ⟨by decide +kernel, rfl⟩
theorem d_Ring_put_28 : ob_dc k_Ring_put 28 (.getfield 7) 3 31 := ⟨by decide +kernel, rfl⟩
theorem d_Ring_put_27 : ob_dv ob_ac k_Ring_put 27 28 0 (.aload_n 0) 1 := ⟨by decide +kernel, rfl, rfl⟩
theorem d_Ring_put_26 : ob_dv ob_lc k_Ring_put 26 27 2 (.iload_n 2) 1 := ⟨by decide +kernel, rfl, rfl⟩
theorem d_Ring_put_23 : ob_dc k_Ring_put 23 (.getfield 7) 3 26 := ⟨by decide +kernel, rfl⟩
theorem d_Ring_put_22 : ob_dv ob_ac k_Ring_put 22 23 0 (.aload_n 0) 1 := ⟨by decide +kernel, rfl, rfl⟩
theorem d_Ring_put_21 : ob_dv (ob_sc k_Ring_put.2.2.2.1) k_Ring_put 21 22 2 (.istore_n 2) 1 := ⟨by decide +kernel, rfl, ⟨rfl, by decide +kernel⟩⟩
theorem d_Ring_put_20 : ob_dc k_Ring_put 20 (.iadd) 1 21 := ⟨by decide +kernel, rfl⟩
theorem d_Ring_put_17 : ob_dc k_Ring_put 17 (.getfield 17) 3 20 := ⟨by decide +kernel, rfl⟩
theorem d_Ring_put_16 : ob_dv ob_ac k_Ring_put 16 17 0 (.aload_n 0) 1 := ⟨by decide +kernel, rfl, rfl⟩
theorem d_Ring_put_13 : ob_dc k_Ring_put 13 (.getfield 13) 3 16 := ⟨by decide +kernel, rfl⟩
theorem d_Ring_put_12 : ob_dv ob_ac k_Ring_put 12 13 0 (.aload_n 0) 1 := ⟨by decide +kernel, rfl, rfl⟩
theorem d_Ring_put_9 : ob_db k_Ring_put 9 (.if_icmp .ge 49) 49 12 58 := ⟨by decide +kernel, rfl, by decide⟩
theorem d_Ring_put_8 : ob_dc k_Ring_put 8 (.arraylength) 1 9 := ⟨by decide +kernel, rfl⟩
theorem d_Ring_put_5 : ob_dc k_Ring_put 5 (.getfield 7) 3 8 := ⟨by decide +kernel, rfl⟩
theorem d_Ring_put_4 : ob_dv ob_ac k_Ring_put 4 5 0 (.aload_n 0) 1 := ⟨by decide +kernel, rfl, rfl⟩
theorem d_Ring_put_1 : ob_dc k_Ring_put 1 (.getfield 17) 3 4 := ⟨by decide +kernel, rfl⟩
theorem d_Ring_put_0 : ob_dv ob_ac k_Ring_put 0 1 0 (.aload_n 0) 1 := ⟨by decide +kernel, rfl, rfl⟩
def f_Ring_put (S : ob_S) (v0 : Nat) (v1 : Int32) (D : ob_D) : Option (ob_D) :=
  if D.2.1 v0 0 ≠ 0 then (if (Int32.ofNat (S.2.1 (D.2.1 v0 0))) ≤ (D.1 v0 2) then some D else if D.2.1 v0 0 ≠ 0 then if D.2.1 v0 0 ≠ 0 then (if (Int32.ofNat (S.2.1 (D.2.1 v0 0))) ≤ ((D.1 v0 1) + (D.1 v0 2)) then if D.2.1 v0 0 ≠ 0 then if ob_in (((D.1 v0 1) + (D.1 v0 2)) - (Int32.ofNat (S.2.1 (D.2.1 v0 0)))) (S.2.1 (D.2.1 v0 0)) then ob_lt (ob_pI D (D.2.1 v0 0) (((D.1 v0 1) + (D.1 v0 2)) - (Int32.ofNat (S.2.1 (D.2.1 v0 0)))).toNatClampNeg v1) fun D10 => ob_lt (ob_pI D10 v0 2 ((D10.1 v0 2) + (1 : Int32))) fun D11 => some D11 else none else none else if ob_in ((D.1 v0 1) + (D.1 v0 2)) (S.2.1 (D.2.1 v0 0)) then ob_lt (ob_pI D (D.2.1 v0 0) ((D.1 v0 1) + (D.1 v0 2)).toNatClampNeg v1) fun D13 => ob_lt (ob_pI D13 v0 2 ((D13.1 v0 2) + (1 : Int32))) fun D14 => some D14 else none) else none else none) else none
theorem c_Ring_put {l : Launch} {E : ob_E} {S : ob_S} {D : ob_D} {v0 : Nat} {v1 : Int32} {D' : ob_D} (hp_v0 : S.1 v0 = 3) (h : f_Ring_put S v0 v1 D = some D') : ob_M l E k_Ring_put [.ref v0, .int v1] S D none S D' := by
  refine ob_ofV (lo := [(0, .ref v0), (1, .int v1)]) (by decide) rfl (Nat.le_of_ble_eq_true rfl) rfl (Nat.le_refl _) (Nat.le_refl _) ?_
  rw [f_Ring_put] at h
  refine ob_aload d_Ring_put_0 rfl ?_
  refine ob_getI d_Ring_put_1 F_2_2 l_Ring_17 hp_v0 ?_
  refine ob_aload d_Ring_put_4 rfl ?_
  obtain ⟨hg2, h⟩ := ob_gd h
  refine ob_getR d_Ring_put_5 F_2_0 l_Ring_7 hp_v0 hg2 (fun hk1 => ?_)
  refine ob_alen (i := 0) d_Ring_put_8 hk1 (by decide) ?_
  refine ob_icmp_ge d_Ring_put_9 (fun hc => ?_) (fun hc => ?_)
  · replace h := ob_ift hc h
    exact ob_ve h (ob_vret d_Ring_put_58 rfl)
  · replace h := ob_iff hc h
    refine ob_aload d_Ring_put_12 rfl ?_
    refine ob_getI d_Ring_put_13 F_2_1 l_Ring_13 hp_v0 ?_
    refine ob_aload d_Ring_put_16 rfl ?_
    refine ob_getI d_Ring_put_17 F_2_2 l_Ring_17 hp_v0 ?_
    refine ob_iadd d_Ring_put_20 ?_
    refine ob_istore (lo2 := [(0, .ref v0), (1, .int v1), (2, .int ((D.1 v0 1) + (D.1 v0 2)))]) d_Ring_put_21 rfl ?_
    refine ob_aload d_Ring_put_22 rfl ?_
    obtain ⟨hg4, h⟩ := ob_gd h
    refine ob_getR d_Ring_put_23 F_2_0 l_Ring_7 hp_v0 hg4 (fun hk3 => ?_)
    refine ob_iload d_Ring_put_26 rfl ?_
    refine ob_aload d_Ring_put_27 rfl ?_
    obtain ⟨hg6, h⟩ := ob_gd h
    refine ob_getR d_Ring_put_28 F_2_0 l_Ring_7 hp_v0 hg6 (fun hk5 => ?_)
    refine ob_alen (i := 0) d_Ring_put_31 hk5 (by decide) ?_
    refine ob_icmp_ge d_Ring_put_32 (fun hc => ?_) (fun hc => ?_)
    · replace h := ob_ift hc h
      refine ob_iload d_Ring_put_39 rfl ?_
      refine ob_aload d_Ring_put_40 rfl ?_
      obtain ⟨hg8, h⟩ := ob_gd h
      refine ob_getR d_Ring_put_41 F_2_0 l_Ring_7 hp_v0 hg8 (fun hk7 => ?_)
      refine ob_alen (i := 0) d_Ring_put_44 hk7 (by decide) ?_
      refine ob_isub d_Ring_put_45 ?_
      refine ob_iload d_Ring_put_46 rfl ?_
      obtain ⟨hg9, h⟩ := ob_gd h
      replace h := ob_lt_e h
      refine ob_iast d_Ring_put_47 hk3 hg9 ?_
      refine ob_aload d_Ring_put_48 rfl ?_
      refine ob_dup d_Ring_put_49 rfl ?_
      refine ob_getI d_Ring_put_50 F_2_2 l_Ring_17 hp_v0 ?_
      refine ob_push d_Ring_put_53 ?_
      refine ob_iadd d_Ring_put_54 ?_
      replace h := ob_lt_e h
      refine ob_putI d_Ring_put_55 F_2_2 l_Ring_17 hp_v0 ?_
      exact ob_ve h (ob_vret d_Ring_put_58 rfl)
    · replace h := ob_iff hc h
      refine ob_iload d_Ring_put_35 rfl ?_
      refine ob_goto d_Ring_put_36 ?_
      refine ob_iload d_Ring_put_46 rfl ?_
      obtain ⟨hg12, h⟩ := ob_gd h
      replace h := ob_lt_e h
      refine ob_iast d_Ring_put_47 hk3 hg12 ?_
      refine ob_aload d_Ring_put_48 rfl ?_
      refine ob_dup d_Ring_put_49 rfl ?_
      refine ob_getI d_Ring_put_50 F_2_2 l_Ring_17 hp_v0 ?_
      refine ob_push d_Ring_put_53 ?_
      refine ob_iadd d_Ring_put_54 ?_
      replace h := ob_lt_e h
      refine ob_putI d_Ring_put_55 F_2_2 l_Ring_17 hp_v0 ?_
      exact ob_ve h (ob_vret d_Ring_put_58 rfl)
-- OrbitBox$Ring.putPacket(LOrbitBox$Row;)Z
theorem d_Ring_putPacket_13 : ob_dk k_Ring_putPacket 13 14 (0 : Int32) (.iconst 0) 1 := ⟨by decide +kernel, rfl, show Int32.ofInt 0 = (0 : Int32) by decide +kernel⟩
theorem d_Ring_putPacket_56 : ob_dk k_Ring_putPacket 56 57 (1 : Int32) (.iconst 1) 1 := ⟨by decide +kernel, rfl, show Int32.ofInt 1 = (1 : Int32) by decide +kernel⟩
theorem d_Ring_putPacket_57 : ob_dc k_Ring_putPacket 57 (.ireturn) 1 58 := ⟨by decide +kernel, rfl⟩
theorem d_Ring_putPacket_50 : ob_di k_Ring_putPacket 50 53 2 1 (1 : Int32) := ⟨by decide +kernel, rfl, by decide +kernel, by decide +kernel⟩
theorem d_Ring_putPacket_53 : ob_db k_Ring_putPacket 53 (.goto (-38)) (-38) 56 15 := ⟨by decide +kernel, rfl, by decide⟩
theorem d_Ring_putPacket_47 : ob_dc k_Ring_putPacket 47 (.invokevirtual 32) 3 50 := ⟨by decide +kernel, rfl⟩
theorem d_Ring_putPacket_46 : ob_dc k_Ring_putPacket 46 (.iaload) 1 47 := ⟨by decide +kernel, rfl⟩
theorem d_Ring_putPacket_45 : ob_dv ob_lc k_Ring_putPacket 45 46 2 (.iload_n 2) 1 := ⟨by decide +kernel, rfl, rfl⟩
theorem d_Ring_putPacket_42 : ob_dc k_Ring_putPacket 42 (.getfield 29) 3 45 := ⟨by decide +kernel, rfl⟩
theorem d_Ring_putPacket_41 : ob_dv ob_ac k_Ring_putPacket 41 42 1 (.aload_n 1) 1 := ⟨by decide +kernel, rfl, rfl⟩
theorem d_Ring_putPacket_34 : ob_dk k_Ring_putPacket 34 37 (256 : Int32) (.sipush 256) 3 := ⟨by decide +kernel, rfl, show (Int16.ofInt 256).toInt32 = (256 : Int32) by decide +kernel⟩
theorem d_Ring_putPacket_38 : ob_db k_Ring_putPacket 38 (.goto 9) 9 41 47 := ⟨by decide +kernel, rfl, by decide⟩
theorem d_Ring_putPacket_37 : ob_dc k_Ring_putPacket 37 (.ior) 1 38 := ⟨by decide +kernel, rfl⟩
theorem d_Ring_putPacket_33 : ob_dc k_Ring_putPacket 33 (.iaload) 1 34 := ⟨by decide +kernel, rfl⟩
theorem d_Ring_putPacket_32 : ob_dv ob_lc k_Ring_putPacket 32 33 2 (.iload_n 2) 1 := ⟨by decide +kernel, rfl, rfl⟩
theorem d_Ring_putPacket_29 : ob_dc k_Ring_putPacket 29 (.getfield 29) 3 32 := ⟨by decide +kernel, rfl⟩
theorem d_Ring_putPacket_28 : ob_dv ob_ac k_Ring_putPacket 28 29 1 (.aload_n 1) 1 := ⟨by decide +kernel, rfl, rfl⟩
theorem d_Ring_putPacket_25 : ob_db k_Ring_putPacket 25 (.ifCond .ne 16) 16 28 41 := ⟨by decide +kernel, rfl, by decide⟩
theorem d_Ring_putPacket_24 : ob_dv ob_lc k_Ring_putPacket 24 25 2 (.iload_n 2) 1 := ⟨by decide +kernel, rfl, rfl⟩
theorem d_Ring_putPacket_23 : ob_dv ob_ac k_Ring_putPacket 23 24 0 (.aload_n 0) 1 := ⟨by decide +kernel, rfl, rfl⟩
theorem d_Ring_putPacket_20 : ob_db k_Ring_putPacket 20 (.if_icmp .ge 36) 36 23 56 := ⟨by decide +kernel, rfl, by decide⟩
theorem d_Ring_putPacket_17 : ob_dc k_Ring_putPacket 17 (.getfield 20) 3 20 := ⟨by decide +kernel, rfl⟩
theorem d_Ring_putPacket_16 : ob_dv ob_ac k_Ring_putPacket 16 17 1 (.aload_n 1) 1 := ⟨by decide +kernel, rfl, rfl⟩
theorem d_Ring_putPacket_15 : ob_dv ob_lc k_Ring_putPacket 15 16 2 (.iload_n 2) 1 := ⟨by decide +kernel, rfl, rfl⟩
theorem d_Ring_putPacket_14 : ob_dv (ob_sc k_Ring_putPacket.2.2.2.1) k_Ring_putPacket 14 15 2 (.istore_n 2) 1 := ⟨by decide +kernel, rfl, ⟨rfl, by decide +kernel⟩⟩
theorem d_Ring_putPacket_11 : ob_dk k_Ring_putPacket 11 12 (0 : Int32) (.iconst 0) 1 := ⟨by decide +kernel, rfl, show Int32.ofInt 0 = (0 : Int32) by decide +kernel⟩
theorem d_Ring_putPacket_12 : ob_dc k_Ring_putPacket 12 (.ireturn) 1 13 := ⟨by decide +kernel, rfl⟩
theorem d_Ring_putPacket_8 : ob_db k_Ring_putPacket 8 (.ifCond .ne 5) 5 11 13 := ⟨by decide +kernel, rfl, by decide⟩
theorem d_Ring_putPacket_5 : ob_dc k_Ring_putPacket 5 (.invokevirtual 25) 3 8 := ⟨by decide +kernel, rfl⟩
theorem d_Ring_putPacket_2 : ob_dc k_Ring_putPacket 2 (.getfield 20) 3 5 := ⟨by decide +kernel, rfl⟩
theorem d_Ring_putPacket_1 : ob_dv ob_ac k_Ring_putPacket 1 2 1 (.aload_n 1) 1 := ⟨by decide +kernel, rfl, rfl⟩
theorem d_Ring_putPacket_0 : ob_dv ob_ac k_Ring_putPacket 0 1 0 (.aload_n 0) 1 := ⟨by decide +kernel, rfl, rfl⟩
theorem c_Ring_putPacket_32 : ob_vd k_Ring_putPacket k_Ring_put 32 1 2 := ⟨cw_Ring_put, yd_Ring_put, w_630, w_631, w_632, w_8, ⟨_, _, rfl⟩, by decide, by decide⟩
theorem c_Ring_putPacket_25 : ob_vd k_Ring_putPacket k_Ring_hasRoom 25 1 2 := ⟨cw_Ring_hasRoom, yd_Ring_hasRoom, w_626, w_627, w_628, w_8, ⟨_, _, rfl⟩, by decide, by decide⟩
def f_Ring_putPacket_L15 (S : ob_S) : Nat → Nat → Nat → Int32 → ob_D → Option (Int32 × ob_D)
  | 0, _, _, _, _ => none
  | n + 1, v0, v1, v2, D => (if (D.1 v1 1) ≤ v2 then some ((1 : Int32), D) else (if v2 = 0 then if D.2.1 v1 0 ≠ 0 then if ob_in v2 (S.2.1 (D.2.1 v1 0)) then ob_bv (f_Ring_put S v0 ((D.1 (D.2.1 v1 0) v2.toNatClampNeg) ||| (256 : Int32)) D) fun D12 => f_Ring_putPacket_L15 S n v0 v1 (v2 + (1 : Int32)) D12 else none else none else if D.2.1 v1 0 ≠ 0 then if ob_in v2 (S.2.1 (D.2.1 v1 0)) then ob_bv (f_Ring_put S v0 (D.1 (D.2.1 v1 0) v2.toNatClampNeg) D) fun D7 => f_Ring_putPacket_L15 S n v0 v1 (v2 + (1 : Int32)) D7 else none else none))
theorem v_Ring_putPacket_L15 {l : Launch} {E : ob_E} {S : ob_S} {r : Int32} {D' : ob_D} : ∀ (n : Nat), ∀ (v0 : Nat) (v1 : Nat) (v2 : Int32) (D : ob_D), S.1 v0 = 3 → S.1 v1 = 2 → f_Ring_putPacket_L15 S n v0 v1 v2 D = some (r, D') → ob_V l E k_Ring_putPacket 15 [(0, .ref v0), (1, .ref v1), (2, .int v2)] [] S D (some (.int r)) S D' := by
  intro n
  induction n with
  | zero =>
    intro v0 v1 v2 D hp_v0 hp_v1 h
    have h : none = some (r, D') := h
    cases h
  | succ n ih =>
    intro v0 v1 v2 D hp_v0 hp_v1 h
    rw [f_Ring_putPacket_L15] at h
    refine ob_iload d_Ring_putPacket_15 rfl ?_
    refine ob_aload d_Ring_putPacket_16 rfl ?_
    refine ob_getI d_Ring_putPacket_17 F_1_1 l_Ring_20 hp_v1 ?_
    refine ob_icmp_ge d_Ring_putPacket_20 (fun hc => ?_) (fun hc => ?_)
    · replace h := ob_ift hc h
      refine ob_push d_Ring_putPacket_56 ?_
      exact ob_ie h (ob_iret d_Ring_putPacket_57 rfl rfl)
    · replace h := ob_iff hc h
      refine ob_aload d_Ring_putPacket_23 rfl ?_
      refine ob_iload d_Ring_putPacket_24 rfl ?_
      refine ob_if_ne d_Ring_putPacket_25 (fun hc => ?_) (fun hc => ?_)
      · replace h := ob_iff hc h
        refine ob_aload d_Ring_putPacket_41 rfl ?_
        obtain ⟨hg5, h⟩ := ob_gd h
        refine ob_getR d_Ring_putPacket_42 F_1_0 l_Ring_29 hp_v1 hg5 (fun hk4 => ?_)
        refine ob_iload d_Ring_putPacket_45 rfl ?_
        obtain ⟨hg6, h⟩ := ob_gd h
        refine ob_iald d_Ring_putPacket_46 hk4 hg6 ?_
        obtain ⟨D7, h8, h⟩ := ob_bv_e h
        refine ob_callVv (As := [.int (D.1 (D.2.1 v1 0) v2.toNatClampNeg)]) (rest := []) d_Ring_putPacket_47 c_Ring_putPacket_32 hp_v0 rfl rfl (Nat.le_of_ble_eq_true rfl) (c_Ring_put hp_v0 h8) ⟨Nat.le_refl _, Nat.le_refl _⟩ ⟨Nat.le_refl _, Nat.le_refl _⟩ ?_
        refine ob_iinc (lo2 := [(0, .ref v0), (1, .ref v1), (2, .int (v2 + (1 : Int32)))]) d_Ring_putPacket_50 rfl rfl ?_
        refine ob_goto d_Ring_putPacket_53 ?_
        exact ih v0 v1 (v2 + (1 : Int32)) D7 hp_v0 hp_v1 h
      · replace h := ob_ift hc h
        refine ob_aload d_Ring_putPacket_28 rfl ?_
        obtain ⟨hg10, h⟩ := ob_gd h
        refine ob_getR d_Ring_putPacket_29 F_1_0 l_Ring_29 hp_v1 hg10 (fun hk9 => ?_)
        refine ob_iload d_Ring_putPacket_32 rfl ?_
        obtain ⟨hg11, h⟩ := ob_gd h
        refine ob_iald d_Ring_putPacket_33 hk9 hg11 ?_
        refine ob_push d_Ring_putPacket_34 ?_
        refine ob_ior d_Ring_putPacket_37 ?_
        refine ob_goto d_Ring_putPacket_38 ?_
        obtain ⟨D12, h13, h⟩ := ob_bv_e h
        refine ob_callVv (As := [.int ((D.1 (D.2.1 v1 0) v2.toNatClampNeg) ||| (256 : Int32))]) (rest := []) d_Ring_putPacket_47 c_Ring_putPacket_32 hp_v0 rfl rfl (Nat.le_of_ble_eq_true rfl) (c_Ring_put hp_v0 h13) ⟨Nat.le_refl _, Nat.le_refl _⟩ ⟨Nat.le_refl _, Nat.le_refl _⟩ ?_
        refine ob_iinc (lo2 := [(0, .ref v0), (1, .ref v1), (2, .int (v2 + (1 : Int32)))]) d_Ring_putPacket_50 rfl rfl ?_
        refine ob_goto d_Ring_putPacket_53 ?_
        exact ih v0 v1 (v2 + (1 : Int32)) D12 hp_v0 hp_v1 h
def f_Ring_putPacket (S : ob_S) (v0 : Nat) (v1 : Nat) (D : ob_D) : Option (Int32 × ob_D) :=
  ob_bd (f_Ring_hasRoom S v0 (D.1 v1 1) D) fun x3 D1 => (if x3 = 0 then some ((0 : Int32), D1) else f_Ring_putPacket_L15 S ob_FU v0 v1 (0 : Int32) D1)
theorem c_Ring_putPacket {l : Launch} {E : ob_E} {S : ob_S} {D : ob_D} {v0 : Nat} {v1 : Nat} {r : Int32} {D' : ob_D} (hp_v0 : S.1 v0 = 3) (hp_v1 : S.1 v1 = 2) (h : f_Ring_putPacket S v0 v1 D = some (r, D')) : ob_M l E k_Ring_putPacket [.ref v0, .ref v1] S D (some (.int r)) S D' := by
  refine ob_ofV (lo := [(0, .ref v0), (1, .ref v1)]) (by decide) rfl (Nat.le_of_ble_eq_true rfl) rfl (Nat.le_refl _) (Nat.le_refl _) ?_
  rw [f_Ring_putPacket] at h
  refine ob_aload d_Ring_putPacket_0 rfl ?_
  refine ob_aload d_Ring_putPacket_1 rfl ?_
  refine ob_getI d_Ring_putPacket_2 F_1_1 l_Ring_20 hp_v1 ?_
  obtain ⟨x3, D1, h2, h⟩ := ob_bd_e h
  refine ob_callVi (As := [.int (D.1 v1 1)]) (rest := []) d_Ring_putPacket_5 c_Ring_putPacket_25 hp_v0 rfl rfl (Nat.le_of_ble_eq_true rfl) (c_Ring_hasRoom hp_v0 h2) ⟨Nat.le_refl _, Nat.le_refl _⟩ ⟨Nat.le_refl _, Nat.le_refl _⟩ ?_
  refine ob_if_ne d_Ring_putPacket_8 (fun hc => ?_) (fun hc => ?_)
  · replace h := ob_iff hc h
    refine ob_push d_Ring_putPacket_13 ?_
    refine ob_istore (lo2 := [(0, .ref v0), (1, .ref v1), (2, .int (0 : Int32))]) d_Ring_putPacket_14 rfl ?_
    exact v_Ring_putPacket_L15 ob_FU v0 v1 (0 : Int32) D1 hp_v0 hp_v1 h
  · replace h := ob_ift hc h
    refine ob_push d_Ring_putPacket_11 ?_
    exact ob_ie h (ob_iret d_Ring_putPacket_12 rfl rfl)
-- OrbitBox$Ring.number(II)I
theorem d_Ring_number_0 : ob_dk k_Ring_number 0 1 (0 : Int32) (.iconst 0) 1 := ⟨by decide +kernel, rfl, show Int32.ofInt 0 = (0 : Int32) by decide +kernel⟩
theorem d_Ring_number_81 : ob_dc k_Ring_number 81 (.ireturn) 1 82 := ⟨by decide +kernel, rfl⟩
theorem d_Ring_number_80 : ob_dv ob_lc k_Ring_number 80 81 3 (.iload_n 3) 1 := ⟨by decide +kernel, rfl, rfl⟩
theorem d_Ring_number_74 : ob_di k_Ring_number 74 77 4 1 (1 : Int32) := ⟨by decide +kernel, rfl, by decide +kernel, by decide +kernel⟩
theorem d_Ring_number_77 : ob_db k_Ring_number 77 (.goto (-72)) (-72) 80 5 := ⟨by decide +kernel, rfl, by decide⟩
theorem d_Ring_number_37 : ob_dk k_Ring_number 37 39 (8 : Int32) (.bipush 8) 2 := ⟨by decide +kernel, rfl, show (Int8.ofInt 8).toInt32 = (8 : Int32) by decide +kernel⟩
theorem d_Ring_number_68 : ob_dk k_Ring_number 68 71 (255 : Int32) (.sipush 255) 3 := ⟨by decide +kernel, rfl, show (Int16.ofInt 255).toInt32 = (255 : Int32) by decide +kernel⟩
theorem d_Ring_number_73 : ob_dv (ob_sc k_Ring_number.2.2.2.1) k_Ring_number 73 74 3 (.istore_n 3) 1 := ⟨by decide +kernel, rfl, ⟨rfl, by decide +kernel⟩⟩
theorem d_Ring_number_72 : ob_dc k_Ring_number 72 (.ior) 1 73 := ⟨by decide +kernel, rfl⟩
theorem d_Ring_number_71 : ob_dc k_Ring_number 71 (.iand) 1 72 := ⟨by decide +kernel, rfl⟩
theorem d_Ring_number_67 : ob_dc k_Ring_number 67 (.iaload) 1 68 := ⟨by decide +kernel, rfl⟩
theorem d_Ring_number_66 : ob_dc k_Ring_number 66 (.isub) 1 67 := ⟨by decide +kernel, rfl⟩
theorem d_Ring_number_65 : ob_dc k_Ring_number 65 (.arraylength) 1 66 := ⟨by decide +kernel, rfl⟩
theorem d_Ring_number_62 : ob_dc k_Ring_number 62 (.getfield 7) 3 65 := ⟨by decide +kernel, rfl⟩
theorem d_Ring_number_61 : ob_dv ob_ac k_Ring_number 61 62 0 (.aload_n 0) 1 := ⟨by decide +kernel, rfl, rfl⟩
theorem d_Ring_number_59 : ob_dv ob_lc k_Ring_number 59 61 5 (.iload 5) 2 := ⟨by decide +kernel, rfl, rfl⟩
theorem d_Ring_number_56 : ob_db k_Ring_number 56 (.goto 11) 11 59 67 := ⟨by decide +kernel, rfl, by decide⟩
theorem d_Ring_number_54 : ob_dv ob_lc k_Ring_number 54 56 5 (.iload 5) 2 := ⟨by decide +kernel, rfl, rfl⟩
theorem d_Ring_number_51 : ob_db k_Ring_number 51 (.if_icmp .ge 8) 8 54 59 := ⟨by decide +kernel, rfl, by decide⟩
theorem d_Ring_number_50 : ob_dc k_Ring_number 50 (.arraylength) 1 51 := ⟨by decide +kernel, rfl⟩
theorem d_Ring_number_47 : ob_dc k_Ring_number 47 (.getfield 7) 3 50 := ⟨by decide +kernel, rfl⟩
theorem d_Ring_number_46 : ob_dv ob_ac k_Ring_number 46 47 0 (.aload_n 0) 1 := ⟨by decide +kernel, rfl, rfl⟩
theorem d_Ring_number_44 : ob_dv ob_lc k_Ring_number 44 46 5 (.iload 5) 2 := ⟨by decide +kernel, rfl, rfl⟩
theorem d_Ring_number_41 : ob_dc k_Ring_number 41 (.getfield 7) 3 44 := ⟨by decide +kernel, rfl⟩
theorem d_Ring_number_40 : ob_dv ob_ac k_Ring_number 40 41 0 (.aload_n 0) 1 := ⟨by decide +kernel, rfl, rfl⟩
theorem d_Ring_number_39 : ob_dc k_Ring_number 39 (.ishl) 1 40 := ⟨by decide +kernel, rfl⟩
theorem d_Ring_number_36 : ob_dv ob_lc k_Ring_number 36 37 3 (.iload_n 3) 1 := ⟨by decide +kernel, rfl, rfl⟩
theorem d_Ring_number_34 : ob_dv (ob_sc k_Ring_number.2.2.2.1) k_Ring_number 34 36 5 (.istore 5) 2 := ⟨by decide +kernel, rfl, ⟨rfl, by decide +kernel⟩⟩
theorem d_Ring_number_33 : ob_dc k_Ring_number 33 (.iadd) 1 34 := ⟨by decide +kernel, rfl⟩
theorem d_Ring_number_31 : ob_dv ob_lc k_Ring_number 31 33 4 (.iload 4) 2 := ⟨by decide +kernel, rfl, rfl⟩
theorem d_Ring_number_28 : ob_dc k_Ring_number 28 (.getfield 13) 3 31 := ⟨by decide +kernel, rfl⟩
theorem d_Ring_number_27 : ob_dv ob_ac k_Ring_number 27 28 0 (.aload_n 0) 1 := ⟨by decide +kernel, rfl, rfl⟩
theorem d_Ring_number_24 : ob_db k_Ring_number 24 (.if_icmp .ge 50) 50 27 74 := ⟨by decide +kernel, rfl, by decide⟩
theorem d_Ring_number_21 : ob_dc k_Ring_number 21 (.getfield 17) 3 24 := ⟨by decide +kernel, rfl⟩
theorem d_Ring_number_20 : ob_dv ob_ac k_Ring_number 20 21 0 (.aload_n 0) 1 := ⟨by decide +kernel, rfl, rfl⟩
theorem d_Ring_number_18 : ob_dv ob_lc k_Ring_number 18 20 4 (.iload 4) 2 := ⟨by decide +kernel, rfl, rfl⟩
theorem d_Ring_number_15 : ob_db k_Ring_number 15 (.ifCond .lt 59) 59 18 74 := ⟨by decide +kernel, rfl, by decide⟩
theorem d_Ring_number_13 : ob_dv ob_lc k_Ring_number 13 15 4 (.iload 4) 2 := ⟨by decide +kernel, rfl, rfl⟩
theorem d_Ring_number_10 : ob_db k_Ring_number 10 (.if_icmp .ge 70) 70 13 80 := ⟨by decide +kernel, rfl, by decide⟩
theorem d_Ring_number_9 : ob_dc k_Ring_number 9 (.iadd) 1 10 := ⟨by decide +kernel, rfl⟩
theorem d_Ring_number_8 : ob_dv ob_lc k_Ring_number 8 9 2 (.iload_n 2) 1 := ⟨by decide +kernel, rfl, rfl⟩
theorem d_Ring_number_7 : ob_dv ob_lc k_Ring_number 7 8 1 (.iload_n 1) 1 := ⟨by decide +kernel, rfl, rfl⟩
theorem d_Ring_number_5 : ob_dv ob_lc k_Ring_number 5 7 4 (.iload 4) 2 := ⟨by decide +kernel, rfl, rfl⟩
theorem d_Ring_number_3 : ob_dv (ob_sc k_Ring_number.2.2.2.1) k_Ring_number 3 5 4 (.istore 4) 2 := ⟨by decide +kernel, rfl, ⟨rfl, by decide +kernel⟩⟩
theorem d_Ring_number_2 : ob_dv ob_lc k_Ring_number 2 3 1 (.iload_n 1) 1 := ⟨by decide +kernel, rfl, rfl⟩
theorem d_Ring_number_1 : ob_dv (ob_sc k_Ring_number.2.2.2.1) k_Ring_number 1 2 3 (.istore_n 3) 1 := ⟨by decide +kernel, rfl, ⟨rfl, by decide +kernel⟩⟩
def f_Ring_number_L5 (S : ob_S) : Nat → Nat → Int32 → Int32 → Int32 → Int32 → ob_D → Option (Int32 × ob_D)
  | 0, _, _, _, _, _, _ => none
  | n + 1, v0, v1, v2, v3, v4, D => (if (v1 + v2) ≤ v4 then some (v3, D) else (if v4 < 0 then f_Ring_number_L5 S n v0 v1 v2 v3 (v4 + (1 : Int32)) D else (if (D.1 v0 2) ≤ v4 then f_Ring_number_L5 S n v0 v1 v2 v3 (v4 + (1 : Int32)) D else if D.2.1 v0 0 ≠ 0 then if D.2.1 v0 0 ≠ 0 then (if (Int32.ofNat (S.2.1 (D.2.1 v0 0))) ≤ ((D.1 v0 1) + v4) then if D.2.1 v0 0 ≠ 0 then if ob_in (((D.1 v0 1) + v4) - (Int32.ofNat (S.2.1 (D.2.1 v0 0)))) (S.2.1 (D.2.1 v0 0)) then ob_lt ((v3 <<< ((8 : Int32) &&& 31)) ||| ((D.1 (D.2.1 v0 0) (((D.1 v0 1) + v4) - (Int32.ofNat (S.2.1 (D.2.1 v0 0)))).toNatClampNeg) &&& (255 : Int32))) fun x8 => f_Ring_number_L5 S n v0 v1 v2 x8 (v4 + (1 : Int32)) D else none else none else if ob_in ((D.1 v0 1) + v4) (S.2.1 (D.2.1 v0 0)) then ob_lt ((v3 <<< ((8 : Int32) &&& 31)) ||| ((D.1 (D.2.1 v0 0) ((D.1 v0 1) + v4).toNatClampNeg) &&& (255 : Int32))) fun x10 => f_Ring_number_L5 S n v0 v1 v2 x10 (v4 + (1 : Int32)) D else none) else none else none)))
theorem v_Ring_number_L5 {l : Launch} {E : ob_E} {S : ob_S} {r : Int32} {D' : ob_D} : ∀ (n : Nat), ∀ (v0 : Nat) (v1 : Int32) (v2 : Int32) (v3 : Int32) (v4 : Int32) (D : ob_D), S.1 v0 = 3 → f_Ring_number_L5 S n v0 v1 v2 v3 v4 D = some (r, D') → ob_V l E k_Ring_number 5 [(0, .ref v0), (1, .int v1), (2, .int v2), (3, .int v3), (4, .int v4)] [] S D (some (.int r)) S D' := by
  intro n
  induction n with
  | zero =>
    intro v0 v1 v2 v3 v4 D hp_v0 h
    have h : none = some (r, D') := h
    cases h
  | succ n ih =>
    intro v0 v1 v2 v3 v4 D hp_v0 h
    rw [f_Ring_number_L5] at h
    refine ob_iload d_Ring_number_5 rfl ?_
    refine ob_iload d_Ring_number_7 rfl ?_
    refine ob_iload d_Ring_number_8 rfl ?_
    refine ob_iadd d_Ring_number_9 ?_
    refine ob_icmp_ge d_Ring_number_10 (fun hc => ?_) (fun hc => ?_)
    · replace h := ob_ift hc h
      refine ob_iload d_Ring_number_80 rfl ?_
      exact ob_ie h (ob_iret d_Ring_number_81 rfl rfl)
    · replace h := ob_iff hc h
      refine ob_iload d_Ring_number_13 rfl ?_
      refine ob_if_lt d_Ring_number_15 (fun hc => ?_) (fun hc => ?_)
      · replace h := ob_ift hc h
        refine ob_iinc (lo2 := [(0, .ref v0), (1, .int v1), (2, .int v2), (3, .int v3), (4, .int (v4 + (1 : Int32)))]) d_Ring_number_74 rfl rfl ?_
        refine ob_goto d_Ring_number_77 ?_
        exact ih v0 v1 v2 v3 (v4 + (1 : Int32)) D hp_v0 h
      · replace h := ob_iff hc h
        refine ob_iload d_Ring_number_18 rfl ?_
        refine ob_aload d_Ring_number_20 rfl ?_
        refine ob_getI d_Ring_number_21 F_2_2 l_Ring_17 hp_v0 ?_
        refine ob_icmp_ge d_Ring_number_24 (fun hc => ?_) (fun hc => ?_)
        · replace h := ob_ift hc h
          refine ob_iinc (lo2 := [(0, .ref v0), (1, .int v1), (2, .int v2), (3, .int v3), (4, .int (v4 + (1 : Int32)))]) d_Ring_number_74 rfl rfl ?_
          refine ob_goto d_Ring_number_77 ?_
          exact ih v0 v1 v2 v3 (v4 + (1 : Int32)) D hp_v0 h
        · replace h := ob_iff hc h
          refine ob_aload d_Ring_number_27 rfl ?_
          refine ob_getI d_Ring_number_28 F_2_1 l_Ring_13 hp_v0 ?_
          refine ob_iload d_Ring_number_31 rfl ?_
          refine ob_iadd d_Ring_number_33 ?_
          refine ob_istore (lo2 := [(0, .ref v0), (1, .int v1), (2, .int v2), (3, .int v3), (4, .int v4), (5, .int ((D.1 v0 1) + v4))]) d_Ring_number_34 rfl ?_
          refine ob_iload d_Ring_number_36 rfl ?_
          refine ob_push d_Ring_number_37 ?_
          refine ob_ishl d_Ring_number_39 ?_
          refine ob_aload d_Ring_number_40 rfl ?_
          obtain ⟨hg2, h⟩ := ob_gd h
          refine ob_getR d_Ring_number_41 F_2_0 l_Ring_7 hp_v0 hg2 (fun hk1 => ?_)
          refine ob_iload d_Ring_number_44 rfl ?_
          refine ob_aload d_Ring_number_46 rfl ?_
          obtain ⟨hg4, h⟩ := ob_gd h
          refine ob_getR d_Ring_number_47 F_2_0 l_Ring_7 hp_v0 hg4 (fun hk3 => ?_)
          refine ob_alen (i := 0) d_Ring_number_50 hk3 (by decide) ?_
          refine ob_icmp_ge d_Ring_number_51 (fun hc => ?_) (fun hc => ?_)
          · replace h := ob_ift hc h
            refine ob_iload d_Ring_number_59 rfl ?_
            refine ob_aload d_Ring_number_61 rfl ?_
            obtain ⟨hg6, h⟩ := ob_gd h
            refine ob_getR d_Ring_number_62 F_2_0 l_Ring_7 hp_v0 hg6 (fun hk5 => ?_)
            refine ob_alen (i := 0) d_Ring_number_65 hk5 (by decide) ?_
            refine ob_isub d_Ring_number_66 ?_
            obtain ⟨hg7, h⟩ := ob_gd h
            refine ob_iald d_Ring_number_67 hk1 hg7 ?_
            refine ob_push d_Ring_number_68 ?_
            refine ob_iand d_Ring_number_71 ?_
            refine ob_ior d_Ring_number_72 ?_
            replace h := ob_lt_e h
            refine ob_istore (lo2 := [(0, .ref v0), (1, .int v1), (2, .int v2), (3, .int ((v3 <<< ((8 : Int32) &&& 31)) ||| ((D.1 (D.2.1 v0 0) (((D.1 v0 1) + v4) - (Int32.ofNat (S.2.1 (D.2.1 v0 0)))).toNatClampNeg) &&& (255 : Int32)))), (4, .int v4), (5, .int ((D.1 v0 1) + v4))]) d_Ring_number_73 rfl ?_
            refine ob_iinc (lo2 := [(0, .ref v0), (1, .int v1), (2, .int v2), (3, .int ((v3 <<< ((8 : Int32) &&& 31)) ||| ((D.1 (D.2.1 v0 0) (((D.1 v0 1) + v4) - (Int32.ofNat (S.2.1 (D.2.1 v0 0)))).toNatClampNeg) &&& (255 : Int32)))), (4, .int (v4 + (1 : Int32))), (5, .int ((D.1 v0 1) + v4))]) d_Ring_number_74 rfl rfl ?_
            refine ob_goto d_Ring_number_77 ?_
            refine ob_sub (lo2 := [(0, .ref v0), (1, .int v1), (2, .int v2), (3, .int ((v3 <<< ((8 : Int32) &&& 31)) ||| ((D.1 (D.2.1 v0 0) (((D.1 v0 1) + v4) - (Int32.ofNat (S.2.1 (D.2.1 v0 0)))).toNatClampNeg) &&& (255 : Int32)))), (4, .int (v4 + (1 : Int32)))]) [0, 1, 2, 3, 4] rfl ?_
            exact ih v0 v1 v2 ((v3 <<< ((8 : Int32) &&& 31)) ||| ((D.1 (D.2.1 v0 0) (((D.1 v0 1) + v4) - (Int32.ofNat (S.2.1 (D.2.1 v0 0)))).toNatClampNeg) &&& (255 : Int32))) (v4 + (1 : Int32)) D hp_v0 h
          · replace h := ob_iff hc h
            refine ob_iload d_Ring_number_54 rfl ?_
            refine ob_goto d_Ring_number_56 ?_
            obtain ⟨hg9, h⟩ := ob_gd h
            refine ob_iald d_Ring_number_67 hk1 hg9 ?_
            refine ob_push d_Ring_number_68 ?_
            refine ob_iand d_Ring_number_71 ?_
            refine ob_ior d_Ring_number_72 ?_
            replace h := ob_lt_e h
            refine ob_istore (lo2 := [(0, .ref v0), (1, .int v1), (2, .int v2), (3, .int ((v3 <<< ((8 : Int32) &&& 31)) ||| ((D.1 (D.2.1 v0 0) ((D.1 v0 1) + v4).toNatClampNeg) &&& (255 : Int32)))), (4, .int v4), (5, .int ((D.1 v0 1) + v4))]) d_Ring_number_73 rfl ?_
            refine ob_iinc (lo2 := [(0, .ref v0), (1, .int v1), (2, .int v2), (3, .int ((v3 <<< ((8 : Int32) &&& 31)) ||| ((D.1 (D.2.1 v0 0) ((D.1 v0 1) + v4).toNatClampNeg) &&& (255 : Int32)))), (4, .int (v4 + (1 : Int32))), (5, .int ((D.1 v0 1) + v4))]) d_Ring_number_74 rfl rfl ?_
            refine ob_goto d_Ring_number_77 ?_
            refine ob_sub (lo2 := [(0, .ref v0), (1, .int v1), (2, .int v2), (3, .int ((v3 <<< ((8 : Int32) &&& 31)) ||| ((D.1 (D.2.1 v0 0) ((D.1 v0 1) + v4).toNatClampNeg) &&& (255 : Int32)))), (4, .int (v4 + (1 : Int32)))]) [0, 1, 2, 3, 4] rfl ?_
            exact ih v0 v1 v2 ((v3 <<< ((8 : Int32) &&& 31)) ||| ((D.1 (D.2.1 v0 0) ((D.1 v0 1) + v4).toNatClampNeg) &&& (255 : Int32))) (v4 + (1 : Int32)) D hp_v0 h
def f_Ring_number (S : ob_S) (v0 : Nat) (v1 : Int32) (v2 : Int32) (D : ob_D) : Option (Int32 × ob_D) :=
  f_Ring_number_L5 S ob_FU v0 v1 v2 (0 : Int32) v1 D
theorem c_Ring_number {l : Launch} {E : ob_E} {S : ob_S} {D : ob_D} {v0 : Nat} {v1 : Int32} {v2 : Int32} {r : Int32} {D' : ob_D} (hp_v0 : S.1 v0 = 3) (h : f_Ring_number S v0 v1 v2 D = some (r, D')) : ob_M l E k_Ring_number [.ref v0, .int v1, .int v2] S D (some (.int r)) S D' := by
  refine ob_ofV (lo := [(0, .ref v0), (1, .int v1), (2, .int v2)]) (by decide) rfl (Nat.le_of_ble_eq_true rfl) rfl (Nat.le_refl _) (Nat.le_refl _) ?_
  rw [f_Ring_number] at h
  refine ob_push d_Ring_number_0 ?_
  refine ob_istore (lo2 := [(0, .ref v0), (1, .int v1), (2, .int v2), (3, .int (0 : Int32))]) d_Ring_number_1 rfl ?_
  refine ob_iload d_Ring_number_2 rfl ?_
  refine ob_istore (lo2 := [(0, .ref v0), (1, .int v1), (2, .int v2), (3, .int (0 : Int32)), (4, .int v1)]) d_Ring_number_3 rfl ?_
  exact v_Ring_number_L5 ob_FU v0 v1 v2 (0 : Int32) v1 D hp_v0 h
-- OrbitBox$Ring.drop(I)V
theorem d_Ring_drop_63 : ob_dc k_Ring_drop 63 (.return_) 1 64 := ⟨by decide +kernel, rfl⟩
theorem d_Ring_drop_60 : ob_dc k_Ring_drop 60 (.putfield 17) 3 63 := ⟨by decide +kernel, rfl⟩
theorem d_Ring_drop_59 : ob_dc k_Ring_drop 59 (.isub) 1 60 := ⟨by decide +kernel, rfl⟩
theorem d_Ring_drop_58 : ob_dv ob_lc k_Ring_drop 58 59 2 (.iload_n 2) 1 := ⟨by decide +kernel, rfl, rfl⟩
theorem d_Ring_drop_55 : ob_dc k_Ring_drop 55 (.getfield 17) 3 58 := ⟨by decide +kernel, rfl⟩
theorem d_Ring_drop_54 : ob_dc k_Ring_drop 54 (.dup) 1 55 := ⟨by decide +kernel, rfl⟩
theorem d_Ring_drop_53 : ob_dv ob_ac k_Ring_drop 53 54 0 (.aload_n 0) 1 := ⟨by decide +kernel, rfl, rfl⟩
theorem d_Ring_drop_50 : ob_dc k_Ring_drop 50 (.putfield 13) 3 53 := ⟨by decide +kernel, rfl⟩
theorem d_Ring_drop_49 : ob_dc k_Ring_drop 49 (.isub) 1 50 := ⟨by decide +kernel, rfl⟩
theorem d_Ring_drop_48 : ob_dc k_Ring_drop 48 (.arraylength) 1 49 := ⟨by decide +kernel, rfl⟩
theorem d_Ring_drop_45 : ob_dc k_Ring_drop 45 (.getfield 7) 3 48 := ⟨by decide +kernel, rfl⟩
theorem d_Ring_drop_44 : ob_dv ob_ac k_Ring_drop 44 45 0 (.aload_n 0) 1 := ⟨by decide +kernel, rfl, rfl⟩
theorem d_Ring_drop_41 : ob_dc k_Ring_drop 41 (.getfield 13) 3 44 := ⟨by decide +kernel, rfl⟩
theorem d_Ring_drop_40 : ob_dc k_Ring_drop 40 (.dup) 1 41 := ⟨by decide +kernel, rfl⟩
theorem d_Ring_drop_39 : ob_dv ob_ac k_Ring_drop 39 40 0 (.aload_n 0) 1 := ⟨by decide +kernel, rfl, rfl⟩
theorem d_Ring_drop_36 : ob_db k_Ring_drop 36 (.if_icmp .lt 17) 17 39 53 := ⟨by decide +kernel, rfl, by decide⟩
theorem d_Ring_drop_35 : ob_dc k_Ring_drop 35 (.arraylength) 1 36 := ⟨by decide +kernel, rfl⟩
theorem d_Ring_drop_32 : ob_dc k_Ring_drop 32 (.getfield 7) 3 35 := ⟨by decide +kernel, rfl⟩
theorem d_Ring_drop_31 : ob_dv ob_ac k_Ring_drop 31 32 0 (.aload_n 0) 1 := ⟨by decide +kernel, rfl, rfl⟩
theorem d_Ring_drop_28 : ob_dc k_Ring_drop 28 (.getfield 13) 3 31 := ⟨by decide +kernel, rfl⟩
theorem d_Ring_drop_27 : ob_dv ob_ac k_Ring_drop 27 28 0 (.aload_n 0) 1 := ⟨by decide +kernel, rfl, rfl⟩
theorem d_Ring_drop_24 : ob_dc k_Ring_drop 24 (.putfield 13) 3 27 := ⟨by decide +kernel, rfl⟩
theorem d_Ring_drop_23 : ob_dc k_Ring_drop 23 (.iadd) 1 24 := ⟨by decide +kernel, rfl⟩
theorem d_Ring_drop_22 : ob_dv ob_lc k_Ring_drop 22 23 2 (.iload_n 2) 1 := ⟨by decide +kernel, rfl, rfl⟩
theorem d_Ring_drop_19 : ob_dc k_Ring_drop 19 (.getfield 13) 3 22 := ⟨by decide +kernel, rfl⟩
theorem d_Ring_drop_18 : ob_dc k_Ring_drop 18 (.dup) 1 19 := ⟨by decide +kernel, rfl⟩
theorem d_Ring_drop_17 : ob_dv ob_ac k_Ring_drop 17 18 0 (.aload_n 0) 1 := ⟨by decide +kernel, rfl, rfl⟩
theorem d_Ring_drop_16 : ob_dv (ob_sc k_Ring_drop.2.2.2.1) k_Ring_drop 16 17 2 (.istore_n 2) 1 := ⟨by decide +kernel, rfl, ⟨rfl, by decide +kernel⟩⟩
theorem d_Ring_drop_13 : ob_dc k_Ring_drop 13 (.getfield 17) 3 16 := ⟨by decide +kernel, rfl⟩
theorem d_Ring_drop_12 : ob_dv ob_ac k_Ring_drop 12 13 0 (.aload_n 0) 1 := ⟨by decide +kernel, rfl, rfl⟩
theorem d_Ring_drop_9 : ob_db k_Ring_drop 9 (.goto 7) 7 12 16 := ⟨by decide +kernel, rfl, by decide⟩
theorem d_Ring_drop_8 : ob_dv ob_lc k_Ring_drop 8 9 1 (.iload_n 1) 1 := ⟨by decide +kernel, rfl, rfl⟩
theorem d_Ring_drop_5 : ob_db k_Ring_drop 5 (.if_icmp .ge 7) 7 8 12 := ⟨by decide +kernel, rfl, by decide⟩
theorem d_Ring_drop_2 : ob_dc k_Ring_drop 2 (.getfield 17) 3 5 := ⟨by decide +kernel, rfl⟩
theorem d_Ring_drop_1 : ob_dv ob_ac k_Ring_drop 1 2 0 (.aload_n 0) 1 := ⟨by decide +kernel, rfl, rfl⟩
theorem d_Ring_drop_0 : ob_dv ob_lc k_Ring_drop 0 1 1 (.iload_n 1) 1 := ⟨by decide +kernel, rfl, rfl⟩
def f_Ring_drop_L16 (S : ob_S) (v0 : Nat) (s0 : Int32) (D : ob_D) : Option (ob_D) :=
  ob_lt (ob_pI D v0 1 ((D.1 v0 1) + s0)) fun D1 => if D1.2.1 v0 0 ≠ 0 then (if (D1.1 v0 1) < (Int32.ofNat (S.2.1 (D1.2.1 v0 0))) then ob_lt (ob_pI D1 v0 2 ((D1.1 v0 2) - s0)) fun D4 => some D4 else if D1.2.1 v0 0 ≠ 0 then ob_lt (ob_pI D1 v0 1 ((D1.1 v0 1) - (Int32.ofNat (S.2.1 (D1.2.1 v0 0))))) fun D7 => ob_lt (ob_pI D7 v0 2 ((D7.1 v0 2) - s0)) fun D8 => some D8 else none) else none
theorem v_Ring_drop_L16 {l : Launch} {E : ob_E} {S : ob_S} {D' : ob_D} : ∀ (v0 : Nat) (s0 : Int32) (D : ob_D), S.1 v0 = 3 → f_Ring_drop_L16 S v0 s0 D = some D' → ob_V l E k_Ring_drop 16 [(0, .ref v0)] [.int s0] S D none S D' := by
  intro v0 s0 D hp_v0 h
  rw [f_Ring_drop_L16] at h
  refine ob_istore (lo2 := [(0, .ref v0), (2, .int s0)]) d_Ring_drop_16 rfl ?_
  refine ob_aload d_Ring_drop_17 rfl ?_
  refine ob_dup d_Ring_drop_18 rfl ?_
  refine ob_getI d_Ring_drop_19 F_2_1 l_Ring_13 hp_v0 ?_
  refine ob_iload d_Ring_drop_22 rfl ?_
  refine ob_iadd d_Ring_drop_23 ?_
  replace h := ob_lt_e h
  refine ob_putI d_Ring_drop_24 F_2_1 l_Ring_13 hp_v0 ?_
  refine ob_aload d_Ring_drop_27 rfl ?_
  refine ob_getI d_Ring_drop_28 F_2_1 l_Ring_13 hp_v0 ?_
  refine ob_aload d_Ring_drop_31 rfl ?_
  obtain ⟨hg3, h⟩ := ob_gd h
  refine ob_getR d_Ring_drop_32 F_2_0 l_Ring_7 hp_v0 hg3 (fun hk2 => ?_)
  refine ob_alen (i := 0) d_Ring_drop_35 hk2 (by decide) ?_
  refine ob_icmp_lt d_Ring_drop_36 (fun hc => ?_) (fun hc => ?_)
  · replace h := ob_ift hc h
    refine ob_aload d_Ring_drop_53 rfl ?_
    refine ob_dup d_Ring_drop_54 rfl ?_
    refine ob_getI d_Ring_drop_55 F_2_2 l_Ring_17 hp_v0 ?_
    refine ob_iload d_Ring_drop_58 rfl ?_
    refine ob_isub d_Ring_drop_59 ?_
    replace h := ob_lt_e h
    refine ob_putI d_Ring_drop_60 F_2_2 l_Ring_17 hp_v0 ?_
    exact ob_ve h (ob_vret d_Ring_drop_63 rfl)
  · replace h := ob_iff hc h
    refine ob_aload d_Ring_drop_39 rfl ?_
    refine ob_dup d_Ring_drop_40 rfl ?_
    refine ob_getI d_Ring_drop_41 F_2_1 l_Ring_13 hp_v0 ?_
    refine ob_aload d_Ring_drop_44 rfl ?_
    obtain ⟨hg6, h⟩ := ob_gd h
    refine ob_getR d_Ring_drop_45 F_2_0 l_Ring_7 hp_v0 hg6 (fun hk5 => ?_)
    refine ob_alen (i := 0) d_Ring_drop_48 hk5 (by decide) ?_
    refine ob_isub d_Ring_drop_49 ?_
    replace h := ob_lt_e h
    refine ob_putI d_Ring_drop_50 F_2_1 l_Ring_13 hp_v0 ?_
    refine ob_aload d_Ring_drop_53 rfl ?_
    refine ob_dup d_Ring_drop_54 rfl ?_
    refine ob_getI d_Ring_drop_55 F_2_2 l_Ring_17 hp_v0 ?_
    refine ob_iload d_Ring_drop_58 rfl ?_
    refine ob_isub d_Ring_drop_59 ?_
    replace h := ob_lt_e h
    refine ob_putI d_Ring_drop_60 F_2_2 l_Ring_17 hp_v0 ?_
    exact ob_ve h (ob_vret d_Ring_drop_63 rfl)
def f_Ring_drop (S : ob_S) (v0 : Nat) (v1 : Int32) (D : ob_D) : Option (ob_D) :=
  (if (D.1 v0 2) ≤ v1 then f_Ring_drop_L16 S v0 (D.1 v0 2) D else f_Ring_drop_L16 S v0 v1 D)
theorem c_Ring_drop {l : Launch} {E : ob_E} {S : ob_S} {D : ob_D} {v0 : Nat} {v1 : Int32} {D' : ob_D} (hp_v0 : S.1 v0 = 3) (h : f_Ring_drop S v0 v1 D = some D') : ob_M l E k_Ring_drop [.ref v0, .int v1] S D none S D' := by
  refine ob_ofV (lo := [(0, .ref v0), (1, .int v1)]) (by decide) rfl (Nat.le_of_ble_eq_true rfl) rfl (Nat.le_refl _) (Nat.le_refl _) ?_
  rw [f_Ring_drop] at h
  refine ob_iload d_Ring_drop_0 rfl ?_
  refine ob_aload d_Ring_drop_1 rfl ?_
  refine ob_getI d_Ring_drop_2 F_2_2 l_Ring_17 hp_v0 ?_
  refine ob_icmp_ge d_Ring_drop_5 (fun hc => ?_) (fun hc => ?_)
  · replace h := ob_ift hc h
    refine ob_aload d_Ring_drop_12 rfl ?_
    refine ob_getI d_Ring_drop_13 F_2_2 l_Ring_17 hp_v0 ?_
    refine ob_sub (lo2 := [(0, .ref v0)]) [0] rfl ?_
    exact v_Ring_drop_L16 v0 (D.1 v0 2) D hp_v0 h
  · replace h := ob_iff hc h
    refine ob_iload d_Ring_drop_8 rfl ?_
    refine ob_goto d_Ring_drop_9 ?_
    refine ob_sub (lo2 := [(0, .ref v0)]) [0] rfl ?_
    exact v_Ring_drop_L16 v0 v1 D hp_v0 h
-- OrbitBox$Table.find(I)I
theorem d_Table_find_0 : ob_dk k_Table_find 0 1 (0 : Int32) (.iconst 0) 1 := ⟨by decide +kernel, rfl, show Int32.ofInt 0 = (0 : Int32) by decide +kernel⟩
theorem d_Table_find_35 : ob_dk k_Table_find 35 36 (-1 : Int32) (.iconst (-1)) 1 := ⟨by decide +kernel, rfl, show Int32.ofInt (-1) = (-1 : Int32) by decide +kernel⟩
theorem d_Table_find_36 : ob_dc k_Table_find 36 (.ireturn) 1 37 := ⟨by decide +kernel, rfl⟩
theorem d_Table_find_20 : ob_dk k_Table_find 20 21 (0 : Int32) (.iconst 0) 1 := ⟨by decide +kernel, rfl, show Int32.ofInt 0 = (0 : Int32) by decide +kernel⟩
theorem d_Table_find_29 : ob_di k_Table_find 29 32 2 1 (1 : Int32) := ⟨by decide +kernel, rfl, by decide +kernel, by decide +kernel⟩
theorem d_Table_find_32 : ob_db k_Table_find 32 (.goto (-30)) (-30) 35 2 := ⟨by decide +kernel, rfl, by decide⟩
theorem d_Table_find_28 : ob_dc k_Table_find 28 (.ireturn) 1 29 := ⟨by decide +kernel, rfl⟩
theorem d_Table_find_27 : ob_dv ob_lc k_Table_find 27 28 2 (.iload_n 2) 1 := ⟨by decide +kernel, rfl, rfl⟩
theorem d_Table_find_24 : ob_db k_Table_find 24 (.if_icmp .ne 5) 5 27 29 := ⟨by decide +kernel, rfl, by decide⟩
theorem d_Table_find_23 : ob_dv ob_lc k_Table_find 23 24 1 (.iload_n 1) 1 := ⟨by decide +kernel, rfl, rfl⟩
theorem d_Table_find_22 : ob_dc k_Table_find 22 (.iaload) 1 23 := ⟨by decide +kernel, rfl⟩
theorem d_Table_find_21 : ob_dc k_Table_find 21 (.iadd) 1 22 := ⟨by decide +kernel, rfl⟩
theorem d_Table_find_19 : ob_dc k_Table_find 19 (.imul) 1 20 := ⟨by decide +kernel, rfl⟩
theorem d_Table_find_16 : ob_dc k_Table_find 16 (.getfield 15) 3 19 := ⟨by decide +kernel, rfl⟩
theorem d_Table_find_15 : ob_dv ob_ac k_Table_find 15 16 0 (.aload_n 0) 1 := ⟨by decide +kernel, rfl, rfl⟩
theorem d_Table_find_14 : ob_dv ob_lc k_Table_find 14 15 2 (.iload_n 2) 1 := ⟨by decide +kernel, rfl, rfl⟩
theorem d_Table_find_11 : ob_dc k_Table_find 11 (.getfield 18) 3 14 := ⟨by decide +kernel, rfl⟩
theorem d_Table_find_10 : ob_dv ob_ac k_Table_find 10 11 0 (.aload_n 0) 1 := ⟨by decide +kernel, rfl, rfl⟩
theorem d_Table_find_7 : ob_db k_Table_find 7 (.if_icmp .ge 28) 28 10 35 := ⟨by decide +kernel, rfl, by decide⟩
theorem d_Table_find_4 : ob_dc k_Table_find 4 (.getfield 22) 3 7 := ⟨by decide +kernel, rfl⟩
theorem d_Table_find_3 : ob_dv ob_ac k_Table_find 3 4 0 (.aload_n 0) 1 := ⟨by decide +kernel, rfl, rfl⟩
theorem d_Table_find_2 : ob_dv ob_lc k_Table_find 2 3 2 (.iload_n 2) 1 := ⟨by decide +kernel, rfl, rfl⟩
theorem d_Table_find_1 : ob_dv (ob_sc k_Table_find.2.2.2.1) k_Table_find 1 2 2 (.istore_n 2) 1 := ⟨by decide +kernel, rfl, ⟨rfl, by decide +kernel⟩⟩
def f_Table_find_L2 (S : ob_S) : Nat → Nat → Int32 → Int32 → ob_D → Option (Int32 × ob_D)
  | 0, _, _, _, _ => none
  | n + 1, v0, v1, v2, D => (if (D.1 v0 3) ≤ v2 then some ((-1 : Int32), D) else if D.2.1 v0 2 ≠ 0 then if ob_in ((v2 * (D.1 v0 1)) + (0 : Int32)) (S.2.1 (D.2.1 v0 2)) then (if (D.1 (D.2.1 v0 2) ((v2 * (D.1 v0 1)) + (0 : Int32)).toNatClampNeg) = v1 then some (v2, D) else f_Table_find_L2 S n v0 v1 (v2 + (1 : Int32)) D) else none else none)
theorem v_Table_find_L2 {l : Launch} {E : ob_E} {S : ob_S} {r : Int32} {D' : ob_D} : ∀ (n : Nat), ∀ (v0 : Nat) (v1 : Int32) (v2 : Int32) (D : ob_D), S.1 v0 = 8 → f_Table_find_L2 S n v0 v1 v2 D = some (r, D') → ob_V l E k_Table_find 2 [(0, .ref v0), (1, .int v1), (2, .int v2)] [] S D (some (.int r)) S D' := by
  intro n
  induction n with
  | zero =>
    intro v0 v1 v2 D hp_v0 h
    have h : none = some (r, D') := h
    cases h
  | succ n ih =>
    intro v0 v1 v2 D hp_v0 h
    rw [f_Table_find_L2] at h
    refine ob_iload d_Table_find_2 rfl ?_
    refine ob_aload d_Table_find_3 rfl ?_
    refine ob_getI d_Table_find_4 F_7_3 l_Table_22 hp_v0 ?_
    refine ob_icmp_ge d_Table_find_7 (fun hc => ?_) (fun hc => ?_)
    · replace h := ob_ift hc h
      refine ob_push d_Table_find_35 ?_
      exact ob_ie h (ob_iret d_Table_find_36 rfl rfl)
    · replace h := ob_iff hc h
      refine ob_aload d_Table_find_10 rfl ?_
      obtain ⟨hg2, h⟩ := ob_gd h
      refine ob_getR d_Table_find_11 F_7_2 l_Table_18 hp_v0 hg2 (fun hk1 => ?_)
      refine ob_iload d_Table_find_14 rfl ?_
      refine ob_aload d_Table_find_15 rfl ?_
      refine ob_getI d_Table_find_16 F_7_1 l_Table_15 hp_v0 ?_
      refine ob_imul d_Table_find_19 ?_
      refine ob_push d_Table_find_20 ?_
      refine ob_iadd d_Table_find_21 ?_
      obtain ⟨hg3, h⟩ := ob_gd h
      refine ob_iald d_Table_find_22 hk1 hg3 ?_
      refine ob_iload d_Table_find_23 rfl ?_
      refine ob_icmp_ne d_Table_find_24 (fun hc => ?_) (fun hc => ?_)
      · replace h := ob_iff hc h
        refine ob_iinc (lo2 := [(0, .ref v0), (1, .int v1), (2, .int (v2 + (1 : Int32)))]) d_Table_find_29 rfl rfl ?_
        refine ob_goto d_Table_find_32 ?_
        exact ih v0 v1 (v2 + (1 : Int32)) D hp_v0 h
      · replace h := ob_ift hc h
        refine ob_iload d_Table_find_27 rfl ?_
        exact ob_ie h (ob_iret d_Table_find_28 rfl rfl)
def f_Table_find (S : ob_S) (v0 : Nat) (v1 : Int32) (D : ob_D) : Option (Int32 × ob_D) :=
  f_Table_find_L2 S ob_FU v0 v1 (0 : Int32) D
theorem c_Table_find {l : Launch} {E : ob_E} {S : ob_S} {D : ob_D} {v0 : Nat} {v1 : Int32} {r : Int32} {D' : ob_D} (hp_v0 : S.1 v0 = 8) (h : f_Table_find S v0 v1 D = some (r, D')) : ob_M l E k_Table_find [.ref v0, .int v1] S D (some (.int r)) S D' := by
  refine ob_ofV (lo := [(0, .ref v0), (1, .int v1)]) (by decide) rfl (Nat.le_of_ble_eq_true rfl) rfl (Nat.le_refl _) (Nat.le_refl _) ?_
  rw [f_Table_find] at h
  refine ob_push d_Table_find_0 ?_
  refine ob_istore (lo2 := [(0, .ref v0), (1, .int v1), (2, .int (0 : Int32))]) d_Table_find_1 rfl ?_
  exact v_Table_find_L2 ob_FU v0 v1 (0 : Int32) D hp_v0 h
-- OrbitBox$Table.isFull()Z
theorem d_Table_isFull_15 : ob_dk k_Table_isFull 15 16 (0 : Int32) (.iconst 0) 1 := ⟨by decide +kernel, rfl, show Int32.ofInt 0 = (0 : Int32) by decide +kernel⟩
theorem d_Table_isFull_16 : ob_dc k_Table_isFull 16 (.ireturn) 1 17 := ⟨by decide +kernel, rfl⟩
theorem d_Table_isFull_11 : ob_dk k_Table_isFull 11 12 (1 : Int32) (.iconst 1) 1 := ⟨by decide +kernel, rfl, show Int32.ofInt 1 = (1 : Int32) by decide +kernel⟩
theorem d_Table_isFull_12 : ob_db k_Table_isFull 12 (.goto 4) 4 15 16 := ⟨by decide +kernel, rfl, by decide⟩
theorem d_Table_isFull_8 : ob_db k_Table_isFull 8 (.if_icmp .lt 7) 7 11 15 := ⟨by decide +kernel, rfl, by decide⟩
theorem d_Table_isFull_5 : ob_dc k_Table_isFull 5 (.getfield 11) 3 8 := ⟨by decide +kernel, rfl⟩
theorem d_Table_isFull_4 : ob_dv ob_ac k_Table_isFull 4 5 0 (.aload_n 0) 1 := ⟨by decide +kernel, rfl, rfl⟩
theorem d_Table_isFull_1 : ob_dc k_Table_isFull 1 (.getfield 22) 3 4 := ⟨by decide +kernel, rfl⟩
theorem d_Table_isFull_0 : ob_dv ob_ac k_Table_isFull 0 1 0 (.aload_n 0) 1 := ⟨by decide +kernel, rfl, rfl⟩
def f_Table_isFull (S : ob_S) (v0 : Nat) (D : ob_D) : Option (Int32 × ob_D) :=
  (if (D.1 v0 3) < (D.1 v0 0) then some ((0 : Int32), D) else some ((1 : Int32), D))
theorem c_Table_isFull {l : Launch} {E : ob_E} {S : ob_S} {D : ob_D} {v0 : Nat} {r : Int32} {D' : ob_D} (hp_v0 : S.1 v0 = 8) (h : f_Table_isFull S v0 D = some (r, D')) : ob_M l E k_Table_isFull [.ref v0] S D (some (.int r)) S D' := by
  refine ob_ofV (lo := [(0, .ref v0)]) (by decide) rfl (Nat.le_of_ble_eq_true rfl) rfl (Nat.le_refl _) (Nat.le_refl _) ?_
  rw [f_Table_isFull] at h
  refine ob_aload d_Table_isFull_0 rfl ?_
  refine ob_getI d_Table_isFull_1 F_7_3 l_Table_22 hp_v0 ?_
  refine ob_aload d_Table_isFull_4 rfl ?_
  refine ob_getI d_Table_isFull_5 F_7_0 l_Table_11 hp_v0 ?_
  refine ob_icmp_lt d_Table_isFull_8 (fun hc => ?_) (fun hc => ?_)
  · replace h := ob_ift hc h
    refine ob_push d_Table_isFull_15 ?_
    exact ob_ie h (ob_iret d_Table_isFull_16 rfl rfl)
  · replace h := ob_iff hc h
    refine ob_push d_Table_isFull_11 ?_
    refine ob_goto d_Table_isFull_12 ?_
    exact ob_ie h (ob_iret d_Table_isFull_16 rfl rfl)
-- OrbitBox$Table.get(II)I
theorem d_Table_get_40 : ob_dk k_Table_get 40 41 (0 : Int32) (.iconst 0) 1 := ⟨by decide +kernel, rfl, show Int32.ofInt 0 = (0 : Int32) by decide +kernel⟩
theorem d_Table_get_41 : ob_dc k_Table_get 41 (.ireturn) 1 42 := ⟨by decide +kernel, rfl⟩
theorem d_Table_get_37 : ob_db k_Table_get 37 (.goto 4) 4 40 41 := ⟨by decide +kernel, rfl, by decide⟩
theorem d_Table_get_36 : ob_dc k_Table_get 36 (.iaload) 1 37 := ⟨by decide +kernel, rfl⟩
theorem d_Table_get_35 : ob_dc k_Table_get 35 (.iadd) 1 36 := ⟨by decide +kernel, rfl⟩
theorem d_Table_get_34 : ob_dv ob_lc k_Table_get 34 35 2 (.iload_n 2) 1 := ⟨by decide +kernel, rfl, rfl⟩
theorem d_Table_get_33 : ob_dc k_Table_get 33 (.imul) 1 34 := ⟨by decide +kernel, rfl⟩
theorem d_Table_get_30 : ob_dc k_Table_get 30 (.getfield 15) 3 33 := ⟨by decide +kernel, rfl⟩
theorem d_Table_get_29 : ob_dv ob_ac k_Table_get 29 30 0 (.aload_n 0) 1 := ⟨by decide +kernel, rfl, rfl⟩
theorem d_Table_get_28 : ob_dv ob_lc k_Table_get 28 29 1 (.iload_n 1) 1 := ⟨by decide +kernel, rfl, rfl⟩
theorem d_Table_get_25 : ob_dc k_Table_get 25 (.getfield 18) 3 28 := ⟨by decide +kernel, rfl⟩
theorem d_Table_get_24 : ob_dv ob_ac k_Table_get 24 25 0 (.aload_n 0) 1 := ⟨by decide +kernel, rfl, rfl⟩
theorem d_Table_get_21 : ob_db k_Table_get 21 (.if_icmp .ge 19) 19 24 40 := ⟨by decide +kernel, rfl, by decide⟩
theorem d_Table_get_18 : ob_dc k_Table_get 18 (.getfield 15) 3 21 := ⟨by decide +kernel, rfl⟩
theorem d_Table_get_17 : ob_dv ob_ac k_Table_get 17 18 0 (.aload_n 0) 1 := ⟨by decide +kernel, rfl, rfl⟩
theorem d_Table_get_16 : ob_dv ob_lc k_Table_get 16 17 2 (.iload_n 2) 1 := ⟨by decide +kernel, rfl, rfl⟩
theorem d_Table_get_13 : ob_db k_Table_get 13 (.ifCond .lt 27) 27 16 40 := ⟨by decide +kernel, rfl, by decide⟩
theorem d_Table_get_12 : ob_dv ob_lc k_Table_get 12 13 2 (.iload_n 2) 1 := ⟨by decide +kernel, rfl, rfl⟩
theorem d_Table_get_9 : ob_db k_Table_get 9 (.if_icmp .ge 31) 31 12 40 := ⟨by decide +kernel, rfl, by decide⟩
theorem d_Table_get_6 : ob_dc k_Table_get 6 (.getfield 22) 3 9 := ⟨by decide +kernel, rfl⟩
theorem d_Table_get_5 : ob_dv ob_ac k_Table_get 5 6 0 (.aload_n 0) 1 := ⟨by decide +kernel, rfl, rfl⟩
theorem d_Table_get_4 : ob_dv ob_lc k_Table_get 4 5 1 (.iload_n 1) 1 := ⟨by decide +kernel, rfl, rfl⟩
theorem d_Table_get_1 : ob_db k_Table_get 1 (.ifCond .lt 39) 39 4 40 := ⟨by decide +kernel, rfl, by decide⟩
theorem d_Table_get_0 : ob_dv ob_lc k_Table_get 0 1 1 (.iload_n 1) 1 := ⟨by decide +kernel, rfl, rfl⟩
def f_Table_get (S : ob_S) (v0 : Nat) (v1 : Int32) (v2 : Int32) (D : ob_D) : Option (Int32 × ob_D) :=
  (if v1 < 0 then some ((0 : Int32), D) else (if (D.1 v0 3) ≤ v1 then some ((0 : Int32), D) else (if v2 < 0 then some ((0 : Int32), D) else (if (D.1 v0 1) ≤ v2 then some ((0 : Int32), D) else if D.2.1 v0 2 ≠ 0 then if ob_in ((v1 * (D.1 v0 1)) + v2) (S.2.1 (D.2.1 v0 2)) then some (D.1 (D.2.1 v0 2) ((v1 * (D.1 v0 1)) + v2).toNatClampNeg, D) else none else none))))
theorem c_Table_get {l : Launch} {E : ob_E} {S : ob_S} {D : ob_D} {v0 : Nat} {v1 : Int32} {v2 : Int32} {r : Int32} {D' : ob_D} (hp_v0 : S.1 v0 = 8) (h : f_Table_get S v0 v1 v2 D = some (r, D')) : ob_M l E k_Table_get [.ref v0, .int v1, .int v2] S D (some (.int r)) S D' := by
  refine ob_ofV (lo := [(0, .ref v0), (1, .int v1), (2, .int v2)]) (by decide) rfl (Nat.le_of_ble_eq_true rfl) rfl (Nat.le_refl _) (Nat.le_refl _) ?_
  rw [f_Table_get] at h
  refine ob_iload d_Table_get_0 rfl ?_
  refine ob_if_lt d_Table_get_1 (fun hc => ?_) (fun hc => ?_)
  · replace h := ob_ift hc h
    refine ob_push d_Table_get_40 ?_
    exact ob_ie h (ob_iret d_Table_get_41 rfl rfl)
  · replace h := ob_iff hc h
    refine ob_iload d_Table_get_4 rfl ?_
    refine ob_aload d_Table_get_5 rfl ?_
    refine ob_getI d_Table_get_6 F_7_3 l_Table_22 hp_v0 ?_
    refine ob_icmp_ge d_Table_get_9 (fun hc => ?_) (fun hc => ?_)
    · replace h := ob_ift hc h
      refine ob_push d_Table_get_40 ?_
      exact ob_ie h (ob_iret d_Table_get_41 rfl rfl)
    · replace h := ob_iff hc h
      refine ob_iload d_Table_get_12 rfl ?_
      refine ob_if_lt d_Table_get_13 (fun hc => ?_) (fun hc => ?_)
      · replace h := ob_ift hc h
        refine ob_push d_Table_get_40 ?_
        exact ob_ie h (ob_iret d_Table_get_41 rfl rfl)
      · replace h := ob_iff hc h
        refine ob_iload d_Table_get_16 rfl ?_
        refine ob_aload d_Table_get_17 rfl ?_
        refine ob_getI d_Table_get_18 F_7_1 l_Table_15 hp_v0 ?_
        refine ob_icmp_ge d_Table_get_21 (fun hc => ?_) (fun hc => ?_)
        · replace h := ob_ift hc h
          refine ob_push d_Table_get_40 ?_
          exact ob_ie h (ob_iret d_Table_get_41 rfl rfl)
        · replace h := ob_iff hc h
          refine ob_aload d_Table_get_24 rfl ?_
          obtain ⟨hg2, h⟩ := ob_gd h
          refine ob_getR d_Table_get_25 F_7_2 l_Table_18 hp_v0 hg2 (fun hk1 => ?_)
          refine ob_iload d_Table_get_28 rfl ?_
          refine ob_aload d_Table_get_29 rfl ?_
          refine ob_getI d_Table_get_30 F_7_1 l_Table_15 hp_v0 ?_
          refine ob_imul d_Table_get_33 ?_
          refine ob_iload d_Table_get_34 rfl ?_
          refine ob_iadd d_Table_get_35 ?_
          obtain ⟨hg3, h⟩ := ob_gd h
          refine ob_iald d_Table_get_36 hk1 hg3 ?_
          refine ob_goto d_Table_get_37 ?_
          exact ob_ie h (ob_iret d_Table_get_41 rfl rfl)
-- OrbitBox$Table.add(I)I
theorem d_Table_add_9 : ob_dk k_Table_add 9 10 (0 : Int32) (.iconst 0) 1 := ⟨by decide +kernel, rfl, show Int32.ofInt 0 = (0 : Int32) by decide +kernel⟩
theorem d_Table_add_51 : ob_dk k_Table_add 51 52 (1 : Int32) (.iconst 1) 1 := ⟨by decide +kernel, rfl, show Int32.ofInt 1 = (1 : Int32) by decide +kernel⟩
theorem d_Table_add_92 : ob_dk k_Table_add 92 93 (1 : Int32) (.iconst 1) 1 := ⟨by decide +kernel, rfl, show Int32.ofInt 1 = (1 : Int32) by decide +kernel⟩
theorem d_Table_add_97 : ob_dk k_Table_add 97 98 (0 : Int32) (.iconst 0) 1 := ⟨by decide +kernel, rfl, show Int32.ofInt 0 = (0 : Int32) by decide +kernel⟩
theorem d_Table_add_136 : ob_dc k_Table_add 136 (.ireturn) 1 137 := ⟨by decide +kernel, rfl⟩
theorem d_Table_add_135 : ob_dv ob_lc k_Table_add 135 136 2 (.iload_n 2) 1 := ⟨by decide +kernel, rfl, rfl⟩
theorem d_Table_add_127 : ob_dk k_Table_add 127 128 (0 : Int32) (.iconst 0) 1 := ⟨by decide +kernel, rfl, show Int32.ofInt 0 = (0 : Int32) by decide +kernel⟩
theorem d_Table_add_129 : ob_di k_Table_add 129 132 3 1 (1 : Int32) := ⟨by decide +kernel, rfl, by decide +kernel, by decide +kernel⟩
theorem d_Table_add_132 : ob_db k_Table_add 132 (.goto (-33)) (-33) 135 99 := ⟨by decide +kernel, rfl, by decide⟩
theorem d_Table_add_128 : ob_dc k_Table_add 128 (.iastore) 1 129 := ⟨by decide +kernel, rfl⟩
theorem d_Table_add_124 : ob_db k_Table_add 124 (.goto 4) 4 127 128 := ⟨by decide +kernel, rfl, by decide⟩
theorem d_Table_add_123 : ob_dv ob_lc k_Table_add 123 124 1 (.iload_n 1) 1 := ⟨by decide +kernel, rfl, rfl⟩
theorem d_Table_add_120 : ob_db k_Table_add 120 (.ifCond .ne 7) 7 123 127 := ⟨by decide +kernel, rfl, by decide⟩
theorem d_Table_add_119 : ob_dv ob_lc k_Table_add 119 120 3 (.iload_n 3) 1 := ⟨by decide +kernel, rfl, rfl⟩
theorem d_Table_add_118 : ob_dc k_Table_add 118 (.iadd) 1 119 := ⟨by decide +kernel, rfl⟩
theorem d_Table_add_117 : ob_dv ob_lc k_Table_add 117 118 3 (.iload_n 3) 1 := ⟨by decide +kernel, rfl, rfl⟩
theorem d_Table_add_116 : ob_dc k_Table_add 116 (.imul) 1 117 := ⟨by decide +kernel, rfl⟩
theorem d_Table_add_113 : ob_dc k_Table_add 113 (.getfield 15) 3 116 := ⟨by decide +kernel, rfl⟩
theorem d_Table_add_112 : ob_dv ob_ac k_Table_add 112 113 0 (.aload_n 0) 1 := ⟨by decide +kernel, rfl, rfl⟩
theorem d_Table_add_111 : ob_dv ob_lc k_Table_add 111 112 2 (.iload_n 2) 1 := ⟨by decide +kernel, rfl, rfl⟩
theorem d_Table_add_108 : ob_dc k_Table_add 108 (.getfield 18) 3 111 := ⟨by decide +kernel, rfl⟩
theorem d_Table_add_107 : ob_dv ob_ac k_Table_add 107 108 0 (.aload_n 0) 1 := ⟨by decide +kernel, rfl, rfl⟩
theorem d_Table_add_104 : ob_db k_Table_add 104 (.if_icmp .ge 31) 31 107 135 := ⟨by decide +kernel, rfl, by decide⟩
theorem d_Table_add_101 : ob_dc k_Table_add 101 (.getfield 15) 3 104 := ⟨by decide +kernel, rfl⟩
theorem d_Table_add_100 : ob_dv ob_ac k_Table_add 100 101 0 (.aload_n 0) 1 := ⟨by decide +kernel, rfl, rfl⟩
theorem d_Table_add_99 : ob_dv ob_lc k_Table_add 99 100 3 (.iload_n 3) 1 := ⟨by decide +kernel, rfl, rfl⟩
theorem d_Table_add_98 : ob_dv (ob_sc k_Table_add.2.2.2.1) k_Table_add 98 99 3 (.istore_n 3) 1 := ⟨by decide +kernel, rfl, ⟨rfl, by decide +kernel⟩⟩
theorem d_Table_add_94 : ob_dc k_Table_add 94 (.putfield 22) 3 97 := ⟨by decide +kernel, rfl⟩
theorem d_Table_add_93 : ob_dc k_Table_add 93 (.iadd) 1 94 := ⟨by decide +kernel, rfl⟩
theorem d_Table_add_89 : ob_dc k_Table_add 89 (.getfield 22) 3 92 := ⟨by decide +kernel, rfl⟩
theorem d_Table_add_88 : ob_dc k_Table_add 88 (.dup) 1 89 := ⟨by decide +kernel, rfl⟩
theorem d_Table_add_87 : ob_dv ob_ac k_Table_add 87 88 0 (.aload_n 0) 1 := ⟨by decide +kernel, rfl, rfl⟩
theorem d_Table_add_81 : ob_di k_Table_add 81 84 3 (-1) (-1 : Int32) := ⟨by decide +kernel, rfl, by decide +kernel, by decide +kernel⟩
theorem d_Table_add_84 : ob_db k_Table_add 84 (.goto (-30)) (-30) 87 54 := ⟨by decide +kernel, rfl, by decide⟩
theorem d_Table_add_80 : ob_dc k_Table_add 80 (.iastore) 1 81 := ⟨by decide +kernel, rfl⟩
theorem d_Table_add_79 : ob_dc k_Table_add 79 (.iaload) 1 80 := ⟨by decide +kernel, rfl⟩
theorem d_Table_add_78 : ob_dv ob_lc k_Table_add 78 79 3 (.iload_n 3) 1 := ⟨by decide +kernel, rfl, rfl⟩
theorem d_Table_add_75 : ob_dc k_Table_add 75 (.getfield 18) 3 78 := ⟨by decide +kernel, rfl⟩
theorem d_Table_add_74 : ob_dv ob_ac k_Table_add 74 75 0 (.aload_n 0) 1 := ⟨by decide +kernel, rfl, rfl⟩
theorem d_Table_add_73 : ob_dc k_Table_add 73 (.iadd) 1 74 := ⟨by decide +kernel, rfl⟩
theorem d_Table_add_70 : ob_dc k_Table_add 70 (.getfield 15) 3 73 := ⟨by decide +kernel, rfl⟩
theorem d_Table_add_69 : ob_dv ob_ac k_Table_add 69 70 0 (.aload_n 0) 1 := ⟨by decide +kernel, rfl, rfl⟩
theorem d_Table_add_68 : ob_dv ob_lc k_Table_add 68 69 3 (.iload_n 3) 1 := ⟨by decide +kernel, rfl, rfl⟩
theorem d_Table_add_65 : ob_dc k_Table_add 65 (.getfield 18) 3 68 := ⟨by decide +kernel, rfl⟩
theorem d_Table_add_64 : ob_dv ob_ac k_Table_add 64 65 0 (.aload_n 0) 1 := ⟨by decide +kernel, rfl, rfl⟩
theorem d_Table_add_61 : ob_db k_Table_add 61 (.if_icmp .lt 26) 26 64 87 := ⟨by decide +kernel, rfl, by decide⟩
theorem d_Table_add_60 : ob_dc k_Table_add 60 (.imul) 1 61 := ⟨by decide +kernel, rfl⟩
theorem d_Table_add_57 : ob_dc k_Table_add 57 (.getfield 15) 3 60 := ⟨by decide +kernel, rfl⟩
theorem d_Table_add_56 : ob_dv ob_ac k_Table_add 56 57 0 (.aload_n 0) 1 := ⟨by decide +kernel, rfl, rfl⟩
theorem d_Table_add_55 : ob_dv ob_lc k_Table_add 55 56 2 (.iload_n 2) 1 := ⟨by decide +kernel, rfl, rfl⟩
theorem d_Table_add_54 : ob_dv ob_lc k_Table_add 54 55 3 (.iload_n 3) 1 := ⟨by decide +kernel, rfl, rfl⟩
theorem d_Table_add_53 : ob_dv (ob_sc k_Table_add.2.2.2.1) k_Table_add 53 54 3 (.istore_n 3) 1 := ⟨by decide +kernel, rfl, ⟨rfl, by decide +kernel⟩⟩
theorem d_Table_add_52 : ob_dc k_Table_add 52 (.isub) 1 53 := ⟨by decide +kernel, rfl⟩
theorem d_Table_add_50 : ob_dc k_Table_add 50 (.imul) 1 51 := ⟨by decide +kernel, rfl⟩
theorem d_Table_add_47 : ob_dc k_Table_add 47 (.getfield 15) 3 50 := ⟨by decide +kernel, rfl⟩
theorem d_Table_add_46 : ob_dv ob_ac k_Table_add 46 47 0 (.aload_n 0) 1 := ⟨by decide +kernel, rfl, rfl⟩
theorem d_Table_add_43 : ob_dc k_Table_add 43 (.getfield 22) 3 46 := ⟨by decide +kernel, rfl⟩
theorem d_Table_add_42 : ob_dv ob_ac k_Table_add 42 43 0 (.aload_n 0) 1 := ⟨by decide +kernel, rfl, rfl⟩
theorem d_Table_add_29 : ob_dk k_Table_add 29 30 (0 : Int32) (.iconst 0) 1 := ⟨by decide +kernel, rfl, show Int32.ofInt 0 = (0 : Int32) by decide +kernel⟩
theorem d_Table_add_36 : ob_di k_Table_add 36 39 2 1 (1 : Int32) := ⟨by decide +kernel, rfl, by decide +kernel, by decide +kernel⟩
theorem d_Table_add_39 : ob_db k_Table_add 39 (.goto (-28)) (-28) 42 11 := ⟨by decide +kernel, rfl, by decide⟩
theorem d_Table_add_33 : ob_db k_Table_add 33 (.if_icmp .ge 9) 9 36 42 := ⟨by decide +kernel, rfl, by decide⟩
theorem d_Table_add_32 : ob_dv ob_lc k_Table_add 32 33 1 (.iload_n 1) 1 := ⟨by decide +kernel, rfl, rfl⟩
theorem d_Table_add_31 : ob_dc k_Table_add 31 (.iaload) 1 32 := ⟨by decide +kernel, rfl⟩
theorem d_Table_add_30 : ob_dc k_Table_add 30 (.iadd) 1 31 := ⟨by decide +kernel, rfl⟩
theorem d_Table_add_28 : ob_dc k_Table_add 28 (.imul) 1 29 := ⟨by decide +kernel, rfl⟩
theorem d_Table_add_25 : ob_dc k_Table_add 25 (.getfield 15) 3 28 := ⟨by decide +kernel, rfl⟩
theorem d_Table_add_24 : ob_dv ob_ac k_Table_add 24 25 0 (.aload_n 0) 1 := ⟨by decide +kernel, rfl, rfl⟩
theorem d_Table_add_23 : ob_dv ob_lc k_Table_add 23 24 2 (.iload_n 2) 1 := ⟨by decide +kernel, rfl, rfl⟩
theorem d_Table_add_20 : ob_dc k_Table_add 20 (.getfield 18) 3 23 := ⟨by decide +kernel, rfl⟩
theorem d_Table_add_19 : ob_dv ob_ac k_Table_add 19 20 0 (.aload_n 0) 1 := ⟨by decide +kernel, rfl, rfl⟩
theorem d_Table_add_16 : ob_db k_Table_add 16 (.if_icmp .ge 26) 26 19 42 := ⟨by decide +kernel, rfl, by decide⟩
theorem d_Table_add_13 : ob_dc k_Table_add 13 (.getfield 22) 3 16 := ⟨by decide +kernel, rfl⟩
theorem d_Table_add_12 : ob_dv ob_ac k_Table_add 12 13 0 (.aload_n 0) 1 := ⟨by decide +kernel, rfl, rfl⟩
theorem d_Table_add_11 : ob_dv ob_lc k_Table_add 11 12 2 (.iload_n 2) 1 := ⟨by decide +kernel, rfl, rfl⟩
theorem d_Table_add_10 : ob_dv (ob_sc k_Table_add.2.2.2.1) k_Table_add 10 11 2 (.istore_n 2) 1 := ⟨by decide +kernel, rfl, ⟨rfl, by decide +kernel⟩⟩
theorem d_Table_add_7 : ob_dk k_Table_add 7 8 (-1 : Int32) (.iconst (-1)) 1 := ⟨by decide +kernel, rfl, show Int32.ofInt (-1) = (-1 : Int32) by decide +kernel⟩
theorem d_Table_add_8 : ob_dc k_Table_add 8 (.ireturn) 1 9 := ⟨by decide +kernel, rfl⟩
theorem d_Table_add_4 : ob_db k_Table_add 4 (.ifCond .eq 5) 5 7 9 := ⟨by decide +kernel, rfl, by decide⟩
theorem d_Table_add_1 : ob_dc k_Table_add 1 (.invokevirtual 25) 3 4 := ⟨by decide +kernel, rfl⟩
theorem d_Table_add_0 : ob_dv ob_ac k_Table_add 0 1 0 (.aload_n 0) 1 := ⟨by decide +kernel, rfl, rfl⟩
theorem c_Table_add_25 : ob_vd k_Table_add k_Table_isFull 25 0 7 := ⟨cw_Table_isFull, yd_Table_isFull, w_748, w_676, w_677, w_9, ⟨_, _, rfl⟩, by decide, by decide⟩
def f_Table_add_L99 (S : ob_S) : Nat → Nat → Int32 → Int32 → Int32 → ob_D → Option (Int32 × ob_D)
  | 0, _, _, _, _, _ => none
  | n + 1, v0, v1, v2, v3, D => (if (D.1 v0 1) ≤ v3 then some (v2, D) else if D.2.1 v0 2 ≠ 0 then (if v3 = 0 then if ob_in ((v2 * (D.1 v0 1)) + v3) (S.2.1 (D.2.1 v0 2)) then ob_lt (ob_pI D (D.2.1 v0 2) ((v2 * (D.1 v0 1)) + v3).toNatClampNeg v1) fun D10 => f_Table_add_L99 S n v0 v1 v2 (v3 + (1 : Int32)) D10 else none else if ob_in ((v2 * (D.1 v0 1)) + v3) (S.2.1 (D.2.1 v0 2)) then ob_lt (ob_pI D (D.2.1 v0 2) ((v2 * (D.1 v0 1)) + v3).toNatClampNeg (0 : Int32)) fun D8 => f_Table_add_L99 S n v0 v1 v2 (v3 + (1 : Int32)) D8 else none) else none)
theorem v_Table_add_L99 {l : Launch} {E : ob_E} {S : ob_S} {r : Int32} {D' : ob_D} : ∀ (n : Nat), ∀ (v0 : Nat) (v1 : Int32) (v2 : Int32) (v3 : Int32) (D : ob_D), S.1 v0 = 8 → f_Table_add_L99 S n v0 v1 v2 v3 D = some (r, D') → ob_V l E k_Table_add 99 [(0, .ref v0), (1, .int v1), (2, .int v2), (3, .int v3)] [] S D (some (.int r)) S D' := by
  intro n
  induction n with
  | zero =>
    intro v0 v1 v2 v3 D hp_v0 h
    have h : none = some (r, D') := h
    cases h
  | succ n ih =>
    intro v0 v1 v2 v3 D hp_v0 h
    rw [f_Table_add_L99] at h
    refine ob_iload d_Table_add_99 rfl ?_
    refine ob_aload d_Table_add_100 rfl ?_
    refine ob_getI d_Table_add_101 F_7_1 l_Table_15 hp_v0 ?_
    refine ob_icmp_ge d_Table_add_104 (fun hc => ?_) (fun hc => ?_)
    · replace h := ob_ift hc h
      refine ob_iload d_Table_add_135 rfl ?_
      exact ob_ie h (ob_iret d_Table_add_136 rfl rfl)
    · replace h := ob_iff hc h
      refine ob_aload d_Table_add_107 rfl ?_
      obtain ⟨hg6, h⟩ := ob_gd h
      refine ob_getR d_Table_add_108 F_7_2 l_Table_18 hp_v0 hg6 (fun hk5 => ?_)
      refine ob_iload d_Table_add_111 rfl ?_
      refine ob_aload d_Table_add_112 rfl ?_
      refine ob_getI d_Table_add_113 F_7_1 l_Table_15 hp_v0 ?_
      refine ob_imul d_Table_add_116 ?_
      refine ob_iload d_Table_add_117 rfl ?_
      refine ob_iadd d_Table_add_118 ?_
      refine ob_iload d_Table_add_119 rfl ?_
      refine ob_if_ne d_Table_add_120 (fun hc => ?_) (fun hc => ?_)
      · replace h := ob_iff hc h
        refine ob_push d_Table_add_127 ?_
        obtain ⟨hg7, h⟩ := ob_gd h
        replace h := ob_lt_e h
        refine ob_iast d_Table_add_128 hk5 hg7 ?_
        refine ob_iinc (lo2 := [(0, .ref v0), (1, .int v1), (2, .int v2), (3, .int (v3 + (1 : Int32)))]) d_Table_add_129 rfl rfl ?_
        refine ob_goto d_Table_add_132 ?_
        exact ih v0 v1 v2 (v3 + (1 : Int32)) (ob_pI D (D.2.1 v0 2) ((v2 * (D.1 v0 1)) + v3).toNatClampNeg (0 : Int32)) hp_v0 h
      · replace h := ob_ift hc h
        refine ob_iload d_Table_add_123 rfl ?_
        refine ob_goto d_Table_add_124 ?_
        obtain ⟨hg9, h⟩ := ob_gd h
        replace h := ob_lt_e h
        refine ob_iast d_Table_add_128 hk5 hg9 ?_
        refine ob_iinc (lo2 := [(0, .ref v0), (1, .int v1), (2, .int v2), (3, .int (v3 + (1 : Int32)))]) d_Table_add_129 rfl rfl ?_
        refine ob_goto d_Table_add_132 ?_
        exact ih v0 v1 v2 (v3 + (1 : Int32)) (ob_pI D (D.2.1 v0 2) ((v2 * (D.1 v0 1)) + v3).toNatClampNeg v1) hp_v0 h
def f_Table_add_L54 (S : ob_S) : Nat → Nat → Int32 → Int32 → Int32 → ob_D → Option (Int32 × ob_D)
  | 0, _, _, _, _, _ => none
  | n + 1, v0, v1, v2, v3, D => (if v3 < (v2 * (D.1 v0 1)) then ob_lt (ob_pI D v0 3 ((D.1 v0 3) + (1 : Int32))) fun D4 => f_Table_add_L99 S ob_FU v0 v1 v2 (0 : Int32) D4 else if D.2.1 v0 2 ≠ 0 then if D.2.1 v0 2 ≠ 0 then if ob_in v3 (S.2.1 (D.2.1 v0 2)) then if ob_in (v3 + (D.1 v0 1)) (S.2.1 (D.2.1 v0 2)) then ob_lt (ob_pI D (D.2.1 v0 2) (v3 + (D.1 v0 1)).toNatClampNeg (D.1 (D.2.1 v0 2) v3.toNatClampNeg)) fun D17 => f_Table_add_L54 S n v0 v1 v2 (v3 + (-1 : Int32)) D17 else none else none else none else none)
theorem v_Table_add_L54 {l : Launch} {E : ob_E} {S : ob_S} {r : Int32} {D' : ob_D} : ∀ (n : Nat), ∀ (v0 : Nat) (v1 : Int32) (v2 : Int32) (v3 : Int32) (D : ob_D), S.1 v0 = 8 → f_Table_add_L54 S n v0 v1 v2 v3 D = some (r, D') → ob_V l E k_Table_add 54 [(0, .ref v0), (1, .int v1), (2, .int v2), (3, .int v3)] [] S D (some (.int r)) S D' := by
  intro n
  induction n with
  | zero =>
    intro v0 v1 v2 v3 D hp_v0 h
    have h : none = some (r, D') := h
    cases h
  | succ n ih =>
    intro v0 v1 v2 v3 D hp_v0 h
    rw [f_Table_add_L54] at h
    refine ob_iload d_Table_add_54 rfl ?_
    refine ob_iload d_Table_add_55 rfl ?_
    refine ob_aload d_Table_add_56 rfl ?_
    refine ob_getI d_Table_add_57 F_7_1 l_Table_15 hp_v0 ?_
    refine ob_imul d_Table_add_60 ?_
    refine ob_icmp_lt d_Table_add_61 (fun hc => ?_) (fun hc => ?_)
    · replace h := ob_ift hc h
      refine ob_aload d_Table_add_87 rfl ?_
      refine ob_dup d_Table_add_88 rfl ?_
      refine ob_getI d_Table_add_89 F_7_3 l_Table_22 hp_v0 ?_
      refine ob_push d_Table_add_92 ?_
      refine ob_iadd d_Table_add_93 ?_
      replace h := ob_lt_e h
      refine ob_putI d_Table_add_94 F_7_3 l_Table_22 hp_v0 ?_
      refine ob_push d_Table_add_97 ?_
      refine ob_istore (lo2 := [(0, .ref v0), (1, .int v1), (2, .int v2), (3, .int (0 : Int32))]) d_Table_add_98 rfl ?_
      exact v_Table_add_L99 ob_FU v0 v1 v2 (0 : Int32) (ob_pI D v0 3 ((D.1 v0 3) + (1 : Int32))) hp_v0 h
    · replace h := ob_iff hc h
      refine ob_aload d_Table_add_64 rfl ?_
      obtain ⟨hg12, h⟩ := ob_gd h
      refine ob_getR d_Table_add_65 F_7_2 l_Table_18 hp_v0 hg12 (fun hk11 => ?_)
      refine ob_iload d_Table_add_68 rfl ?_
      refine ob_aload d_Table_add_69 rfl ?_
      refine ob_getI d_Table_add_70 F_7_1 l_Table_15 hp_v0 ?_
      refine ob_iadd d_Table_add_73 ?_
      refine ob_aload d_Table_add_74 rfl ?_
      obtain ⟨hg14, h⟩ := ob_gd h
      refine ob_getR d_Table_add_75 F_7_2 l_Table_18 hp_v0 hg14 (fun hk13 => ?_)
      refine ob_iload d_Table_add_78 rfl ?_
      obtain ⟨hg15, h⟩ := ob_gd h
      refine ob_iald d_Table_add_79 hk13 hg15 ?_
      obtain ⟨hg16, h⟩ := ob_gd h
      replace h := ob_lt_e h
      refine ob_iast d_Table_add_80 hk11 hg16 ?_
      refine ob_iinc (lo2 := [(0, .ref v0), (1, .int v1), (2, .int v2), (3, .int (v3 + (-1 : Int32)))]) d_Table_add_81 rfl rfl ?_
      refine ob_goto d_Table_add_84 ?_
      exact ih v0 v1 v2 (v3 + (-1 : Int32)) (ob_pI D (D.2.1 v0 2) (v3 + (D.1 v0 1)).toNatClampNeg (D.1 (D.2.1 v0 2) v3.toNatClampNeg)) hp_v0 h
def f_Table_add_L11 (S : ob_S) : Nat → Nat → Int32 → Int32 → ob_D → Option (Int32 × ob_D)
  | 0, _, _, _, _ => none
  | n + 1, v0, v1, v2, D => (if (D.1 v0 3) ≤ v2 then f_Table_add_L54 S ob_FU v0 v1 v2 (((D.1 v0 3) * (D.1 v0 1)) - (1 : Int32)) D else if D.2.1 v0 2 ≠ 0 then if ob_in ((v2 * (D.1 v0 1)) + (0 : Int32)) (S.2.1 (D.2.1 v0 2)) then (if v1 ≤ (D.1 (D.2.1 v0 2) ((v2 * (D.1 v0 1)) + (0 : Int32)).toNatClampNeg) then f_Table_add_L54 S ob_FU v0 v1 v2 (((D.1 v0 3) * (D.1 v0 1)) - (1 : Int32)) D else f_Table_add_L11 S n v0 v1 (v2 + (1 : Int32)) D) else none else none)
theorem v_Table_add_L11 {l : Launch} {E : ob_E} {S : ob_S} {r : Int32} {D' : ob_D} : ∀ (n : Nat), ∀ (v0 : Nat) (v1 : Int32) (v2 : Int32) (D : ob_D), S.1 v0 = 8 → f_Table_add_L11 S n v0 v1 v2 D = some (r, D') → ob_V l E k_Table_add 11 [(0, .ref v0), (1, .int v1), (2, .int v2)] [] S D (some (.int r)) S D' := by
  intro n
  induction n with
  | zero =>
    intro v0 v1 v2 D hp_v0 h
    have h : none = some (r, D') := h
    cases h
  | succ n ih =>
    intro v0 v1 v2 D hp_v0 h
    rw [f_Table_add_L11] at h
    refine ob_iload d_Table_add_11 rfl ?_
    refine ob_aload d_Table_add_12 rfl ?_
    refine ob_getI d_Table_add_13 F_7_3 l_Table_22 hp_v0 ?_
    refine ob_icmp_ge d_Table_add_16 (fun hc => ?_) (fun hc => ?_)
    · replace h := ob_ift hc h
      refine ob_aload d_Table_add_42 rfl ?_
      refine ob_getI d_Table_add_43 F_7_3 l_Table_22 hp_v0 ?_
      refine ob_aload d_Table_add_46 rfl ?_
      refine ob_getI d_Table_add_47 F_7_1 l_Table_15 hp_v0 ?_
      refine ob_imul d_Table_add_50 ?_
      refine ob_push d_Table_add_51 ?_
      refine ob_isub d_Table_add_52 ?_
      refine ob_istore (lo2 := [(0, .ref v0), (1, .int v1), (2, .int v2), (3, .int (((D.1 v0 3) * (D.1 v0 1)) - (1 : Int32)))]) d_Table_add_53 rfl ?_
      exact v_Table_add_L54 ob_FU v0 v1 v2 (((D.1 v0 3) * (D.1 v0 1)) - (1 : Int32)) D hp_v0 h
    · replace h := ob_iff hc h
      refine ob_aload d_Table_add_19 rfl ?_
      obtain ⟨hg19, h⟩ := ob_gd h
      refine ob_getR d_Table_add_20 F_7_2 l_Table_18 hp_v0 hg19 (fun hk18 => ?_)
      refine ob_iload d_Table_add_23 rfl ?_
      refine ob_aload d_Table_add_24 rfl ?_
      refine ob_getI d_Table_add_25 F_7_1 l_Table_15 hp_v0 ?_
      refine ob_imul d_Table_add_28 ?_
      refine ob_push d_Table_add_29 ?_
      refine ob_iadd d_Table_add_30 ?_
      obtain ⟨hg20, h⟩ := ob_gd h
      refine ob_iald d_Table_add_31 hk18 hg20 ?_
      refine ob_iload d_Table_add_32 rfl ?_
      refine ob_icmp_ge d_Table_add_33 (fun hc => ?_) (fun hc => ?_)
      · replace h := ob_ift hc h
        refine ob_aload d_Table_add_42 rfl ?_
        refine ob_getI d_Table_add_43 F_7_3 l_Table_22 hp_v0 ?_
        refine ob_aload d_Table_add_46 rfl ?_
        refine ob_getI d_Table_add_47 F_7_1 l_Table_15 hp_v0 ?_
        refine ob_imul d_Table_add_50 ?_
        refine ob_push d_Table_add_51 ?_
        refine ob_isub d_Table_add_52 ?_
        refine ob_istore (lo2 := [(0, .ref v0), (1, .int v1), (2, .int v2), (3, .int (((D.1 v0 3) * (D.1 v0 1)) - (1 : Int32)))]) d_Table_add_53 rfl ?_
        exact v_Table_add_L54 ob_FU v0 v1 v2 (((D.1 v0 3) * (D.1 v0 1)) - (1 : Int32)) D hp_v0 h
      · replace h := ob_iff hc h
        refine ob_iinc (lo2 := [(0, .ref v0), (1, .int v1), (2, .int (v2 + (1 : Int32)))]) d_Table_add_36 rfl rfl ?_
        refine ob_goto d_Table_add_39 ?_
        exact ih v0 v1 (v2 + (1 : Int32)) D hp_v0 h
def f_Table_add (S : ob_S) (v0 : Nat) (v1 : Int32) (D : ob_D) : Option (Int32 × ob_D) :=
  ob_bd (f_Table_isFull S v0 D) fun x3 D1 => (if x3 = 0 then f_Table_add_L11 S ob_FU v0 v1 (0 : Int32) D1 else some ((-1 : Int32), D1))
theorem c_Table_add {l : Launch} {E : ob_E} {S : ob_S} {D : ob_D} {v0 : Nat} {v1 : Int32} {r : Int32} {D' : ob_D} (hp_v0 : S.1 v0 = 8) (h : f_Table_add S v0 v1 D = some (r, D')) : ob_M l E k_Table_add [.ref v0, .int v1] S D (some (.int r)) S D' := by
  refine ob_ofV (lo := [(0, .ref v0), (1, .int v1)]) (by decide) rfl (Nat.le_of_ble_eq_true rfl) rfl (Nat.le_refl _) (Nat.le_refl _) ?_
  rw [f_Table_add] at h
  refine ob_aload d_Table_add_0 rfl ?_
  obtain ⟨x3, D1, h2, h⟩ := ob_bd_e h
  refine ob_callVi (As := []) (rest := []) d_Table_add_1 c_Table_add_25 hp_v0 rfl rfl (Nat.le_of_ble_eq_true rfl) (c_Table_isFull hp_v0 h2) ⟨Nat.le_refl _, Nat.le_refl _⟩ ⟨Nat.le_refl _, Nat.le_refl _⟩ ?_
  refine ob_if_eq d_Table_add_4 (fun hc => ?_) (fun hc => ?_)
  · replace h := ob_ift hc h
    refine ob_push d_Table_add_9 ?_
    refine ob_istore (lo2 := [(0, .ref v0), (1, .int v1), (2, .int (0 : Int32))]) d_Table_add_10 rfl ?_
    exact v_Table_add_L11 ob_FU v0 v1 (0 : Int32) D1 hp_v0 h
  · replace h := ob_iff hc h
    refine ob_push d_Table_add_7 ?_
    exact ob_ie h (ob_iret d_Table_add_8 rfl rfl)
-- OrbitBox$Table.set(III)V
theorem d_Table_set_38 : ob_dc k_Table_set 38 (.return_) 1 39 := ⟨by decide +kernel, rfl⟩
theorem d_Table_set_37 : ob_dc k_Table_set 37 (.iastore) 1 38 := ⟨by decide +kernel, rfl⟩
theorem d_Table_set_36 : ob_dv ob_lc k_Table_set 36 37 3 (.iload_n 3) 1 := ⟨by decide +kernel, rfl, rfl⟩
theorem d_Table_set_35 : ob_dc k_Table_set 35 (.iadd) 1 36 := ⟨by decide +kernel, rfl⟩
theorem d_Table_set_34 : ob_dv ob_lc k_Table_set 34 35 2 (.iload_n 2) 1 := ⟨by decide +kernel, rfl, rfl⟩
theorem d_Table_set_33 : ob_dc k_Table_set 33 (.imul) 1 34 := ⟨by decide +kernel, rfl⟩
theorem d_Table_set_30 : ob_dc k_Table_set 30 (.getfield 15) 3 33 := ⟨by decide +kernel, rfl⟩
theorem d_Table_set_29 : ob_dv ob_ac k_Table_set 29 30 0 (.aload_n 0) 1 := ⟨by decide +kernel, rfl, rfl⟩
theorem d_Table_set_28 : ob_dv ob_lc k_Table_set 28 29 1 (.iload_n 1) 1 := ⟨by decide +kernel, rfl, rfl⟩
theorem d_Table_set_25 : ob_dc k_Table_set 25 (.getfield 18) 3 28 := ⟨by decide +kernel, rfl⟩
theorem d_Table_set_24 : ob_dv ob_ac k_Table_set 24 25 0 (.aload_n 0) 1 := ⟨by decide +kernel, rfl, rfl⟩
theorem d_Table_set_21 : ob_db k_Table_set 21 (.if_icmp .ge 17) 17 24 38 := ⟨by decide +kernel, rfl, by decide⟩
theorem d_Table_set_18 : ob_dc k_Table_set 18 (.getfield 15) 3 21 := ⟨by decide +kernel, rfl⟩
theorem d_Table_set_17 : ob_dv ob_ac k_Table_set 17 18 0 (.aload_n 0) 1 := ⟨by decide +kernel, rfl, rfl⟩
theorem d_Table_set_16 : ob_dv ob_lc k_Table_set 16 17 2 (.iload_n 2) 1 := ⟨by decide +kernel, rfl, rfl⟩
theorem d_Table_set_13 : ob_db k_Table_set 13 (.ifCond .lt 25) 25 16 38 := ⟨by decide +kernel, rfl, by decide⟩
theorem d_Table_set_12 : ob_dv ob_lc k_Table_set 12 13 2 (.iload_n 2) 1 := ⟨by decide +kernel, rfl, rfl⟩
theorem d_Table_set_9 : ob_db k_Table_set 9 (.if_icmp .ge 29) 29 12 38 := ⟨by decide +kernel, rfl, by decide⟩
theorem d_Table_set_6 : ob_dc k_Table_set 6 (.getfield 22) 3 9 := ⟨by decide +kernel, rfl⟩
theorem d_Table_set_5 : ob_dv ob_ac k_Table_set 5 6 0 (.aload_n 0) 1 := ⟨by decide +kernel, rfl, rfl⟩
theorem d_Table_set_4 : ob_dv ob_lc k_Table_set 4 5 1 (.iload_n 1) 1 := ⟨by decide +kernel, rfl, rfl⟩
theorem d_Table_set_1 : ob_db k_Table_set 1 (.ifCond .lt 37) 37 4 38 := ⟨by decide +kernel, rfl, by decide⟩
theorem d_Table_set_0 : ob_dv ob_lc k_Table_set 0 1 1 (.iload_n 1) 1 := ⟨by decide +kernel, rfl, rfl⟩
def f_Table_set (S : ob_S) (v0 : Nat) (v1 : Int32) (v2 : Int32) (v3 : Int32) (D : ob_D) : Option (ob_D) :=
  (if v1 < 0 then some D else (if (D.1 v0 3) ≤ v1 then some D else (if v2 < 0 then some D else (if (D.1 v0 1) ≤ v2 then some D else if D.2.1 v0 2 ≠ 0 then if ob_in ((v1 * (D.1 v0 1)) + v2) (S.2.1 (D.2.1 v0 2)) then ob_lt (ob_pI D (D.2.1 v0 2) ((v1 * (D.1 v0 1)) + v2).toNatClampNeg v3) fun D4 => some D4 else none else none))))
theorem c_Table_set {l : Launch} {E : ob_E} {S : ob_S} {D : ob_D} {v0 : Nat} {v1 : Int32} {v2 : Int32} {v3 : Int32} {D' : ob_D} (hp_v0 : S.1 v0 = 8) (h : f_Table_set S v0 v1 v2 v3 D = some D') : ob_M l E k_Table_set [.ref v0, .int v1, .int v2, .int v3] S D none S D' := by
  refine ob_ofV (lo := [(0, .ref v0), (1, .int v1), (2, .int v2), (3, .int v3)]) (by decide) rfl (Nat.le_of_ble_eq_true rfl) rfl (Nat.le_refl _) (Nat.le_refl _) ?_
  rw [f_Table_set] at h
  refine ob_iload d_Table_set_0 rfl ?_
  refine ob_if_lt d_Table_set_1 (fun hc => ?_) (fun hc => ?_)
  · replace h := ob_ift hc h
    exact ob_ve h (ob_vret d_Table_set_38 rfl)
  · replace h := ob_iff hc h
    refine ob_iload d_Table_set_4 rfl ?_
    refine ob_aload d_Table_set_5 rfl ?_
    refine ob_getI d_Table_set_6 F_7_3 l_Table_22 hp_v0 ?_
    refine ob_icmp_ge d_Table_set_9 (fun hc => ?_) (fun hc => ?_)
    · replace h := ob_ift hc h
      exact ob_ve h (ob_vret d_Table_set_38 rfl)
    · replace h := ob_iff hc h
      refine ob_iload d_Table_set_12 rfl ?_
      refine ob_if_lt d_Table_set_13 (fun hc => ?_) (fun hc => ?_)
      · replace h := ob_ift hc h
        exact ob_ve h (ob_vret d_Table_set_38 rfl)
      · replace h := ob_iff hc h
        refine ob_iload d_Table_set_16 rfl ?_
        refine ob_aload d_Table_set_17 rfl ?_
        refine ob_getI d_Table_set_18 F_7_1 l_Table_15 hp_v0 ?_
        refine ob_icmp_ge d_Table_set_21 (fun hc => ?_) (fun hc => ?_)
        · replace h := ob_ift hc h
          exact ob_ve h (ob_vret d_Table_set_38 rfl)
        · replace h := ob_iff hc h
          refine ob_aload d_Table_set_24 rfl ?_
          obtain ⟨hg2, h⟩ := ob_gd h
          refine ob_getR d_Table_set_25 F_7_2 l_Table_18 hp_v0 hg2 (fun hk1 => ?_)
          refine ob_iload d_Table_set_28 rfl ?_
          refine ob_aload d_Table_set_29 rfl ?_
          refine ob_getI d_Table_set_30 F_7_1 l_Table_15 hp_v0 ?_
          refine ob_imul d_Table_set_33 ?_
          refine ob_iload d_Table_set_34 rfl ?_
          refine ob_iadd d_Table_set_35 ?_
          refine ob_iload d_Table_set_36 rfl ?_
          obtain ⟨hg3, h⟩ := ob_gd h
          replace h := ob_lt_e h
          refine ob_iast d_Table_set_37 hk1 hg3 ?_
          exact ob_ve h (ob_vret d_Table_set_38 rfl)
-- OrbitBox$Table.remove(I)V
theorem d_Table_remove_12 : ob_dc k_Table_remove 12 (.return_) 1 13 := ⟨by decide +kernel, rfl⟩
theorem d_Table_remove_18 : ob_dk k_Table_remove 18 19 (1 : Int32) (.iconst 1) 1 := ⟨by decide +kernel, rfl, show Int32.ofInt 1 = (1 : Int32) by decide +kernel⟩
theorem d_Table_remove_66 : ob_dc k_Table_remove 66 (.return_) 1 67 := ⟨by decide +kernel, rfl⟩
theorem d_Table_remove_60 : ob_di k_Table_remove 60 63 2 1 (1 : Int32) := ⟨by decide +kernel, rfl, by decide +kernel, by decide +kernel⟩
theorem d_Table_remove_63 : ob_db k_Table_remove 63 (.goto (-33)) (-33) 66 30 := ⟨by decide +kernel, rfl, by decide⟩
theorem d_Table_remove_59 : ob_dc k_Table_remove 59 (.iastore) 1 60 := ⟨by decide +kernel, rfl⟩
theorem d_Table_remove_58 : ob_dc k_Table_remove 58 (.iaload) 1 59 := ⟨by decide +kernel, rfl⟩
theorem d_Table_remove_57 : ob_dc k_Table_remove 57 (.iadd) 1 58 := ⟨by decide +kernel, rfl⟩
theorem d_Table_remove_54 : ob_dc k_Table_remove 54 (.getfield 15) 3 57 := ⟨by decide +kernel, rfl⟩
theorem d_Table_remove_53 : ob_dv ob_ac k_Table_remove 53 54 0 (.aload_n 0) 1 := ⟨by decide +kernel, rfl, rfl⟩
theorem d_Table_remove_52 : ob_dv ob_lc k_Table_remove 52 53 2 (.iload_n 2) 1 := ⟨by decide +kernel, rfl, rfl⟩
theorem d_Table_remove_49 : ob_dc k_Table_remove 49 (.getfield 18) 3 52 := ⟨by decide +kernel, rfl⟩
theorem d_Table_remove_48 : ob_dv ob_ac k_Table_remove 48 49 0 (.aload_n 0) 1 := ⟨by decide +kernel, rfl, rfl⟩
theorem d_Table_remove_47 : ob_dv ob_lc k_Table_remove 47 48 2 (.iload_n 2) 1 := ⟨by decide +kernel, rfl, rfl⟩
theorem d_Table_remove_44 : ob_dc k_Table_remove 44 (.getfield 18) 3 47 := ⟨by decide +kernel, rfl⟩
theorem d_Table_remove_43 : ob_dv ob_ac k_Table_remove 43 44 0 (.aload_n 0) 1 := ⟨by decide +kernel, rfl, rfl⟩
theorem d_Table_remove_40 : ob_db k_Table_remove 40 (.if_icmp .ge 26) 26 43 66 := ⟨by decide +kernel, rfl, by decide⟩
theorem d_Table_remove_39 : ob_dc k_Table_remove 39 (.imul) 1 40 := ⟨by decide +kernel, rfl⟩
theorem d_Table_remove_36 : ob_dc k_Table_remove 36 (.getfield 15) 3 39 := ⟨by decide +kernel, rfl⟩
theorem d_Table_remove_35 : ob_dv ob_ac k_Table_remove 35 36 0 (.aload_n 0) 1 := ⟨by decide +kernel, rfl, rfl⟩
theorem d_Table_remove_32 : ob_dc k_Table_remove 32 (.getfield 22) 3 35 := ⟨by decide +kernel, rfl⟩
theorem d_Table_remove_31 : ob_dv ob_ac k_Table_remove 31 32 0 (.aload_n 0) 1 := ⟨by decide +kernel, rfl, rfl⟩
theorem d_Table_remove_30 : ob_dv ob_lc k_Table_remove 30 31 2 (.iload_n 2) 1 := ⟨by decide +kernel, rfl, rfl⟩
theorem d_Table_remove_29 : ob_dv (ob_sc k_Table_remove.2.2.2.1) k_Table_remove 29 30 2 (.istore_n 2) 1 := ⟨by decide +kernel, rfl, ⟨rfl, by decide +kernel⟩⟩
theorem d_Table_remove_28 : ob_dc k_Table_remove 28 (.imul) 1 29 := ⟨by decide +kernel, rfl⟩
theorem d_Table_remove_25 : ob_dc k_Table_remove 25 (.getfield 15) 3 28 := ⟨by decide +kernel, rfl⟩
theorem d_Table_remove_24 : ob_dv ob_ac k_Table_remove 24 25 0 (.aload_n 0) 1 := ⟨by decide +kernel, rfl, rfl⟩
theorem d_Table_remove_23 : ob_dv ob_lc k_Table_remove 23 24 1 (.iload_n 1) 1 := ⟨by decide +kernel, rfl, rfl⟩
theorem d_Table_remove_20 : ob_dc k_Table_remove 20 (.putfield 22) 3 23 := ⟨by decide +kernel, rfl⟩
theorem d_Table_remove_19 : ob_dc k_Table_remove 19 (.isub) 1 20 := ⟨by decide +kernel, rfl⟩
theorem d_Table_remove_15 : ob_dc k_Table_remove 15 (.getfield 22) 3 18 := ⟨by decide +kernel, rfl⟩
theorem d_Table_remove_14 : ob_dc k_Table_remove 14 (.dup) 1 15 := ⟨by decide +kernel, rfl⟩
theorem d_Table_remove_13 : ob_dv ob_ac k_Table_remove 13 14 0 (.aload_n 0) 1 := ⟨by decide +kernel, rfl, rfl⟩
theorem d_Table_remove_9 : ob_db k_Table_remove 9 (.if_icmp .lt 4) 4 12 13 := ⟨by decide +kernel, rfl, by decide⟩
theorem d_Table_remove_6 : ob_dc k_Table_remove 6 (.getfield 22) 3 9 := ⟨by decide +kernel, rfl⟩
theorem d_Table_remove_5 : ob_dv ob_ac k_Table_remove 5 6 0 (.aload_n 0) 1 := ⟨by decide +kernel, rfl, rfl⟩
theorem d_Table_remove_4 : ob_dv ob_lc k_Table_remove 4 5 1 (.iload_n 1) 1 := ⟨by decide +kernel, rfl, rfl⟩
theorem d_Table_remove_1 : ob_db k_Table_remove 1 (.ifCond .lt 11) 11 4 12 := ⟨by decide +kernel, rfl, by decide⟩
theorem d_Table_remove_0 : ob_dv ob_lc k_Table_remove 0 1 1 (.iload_n 1) 1 := ⟨by decide +kernel, rfl, rfl⟩
def f_Table_remove_L30 (S : ob_S) : Nat → Nat → Int32 → ob_D → Option (ob_D)
  | 0, _, _, _ => none
  | n + 1, v0, v2, D => (if ((D.1 v0 3) * (D.1 v0 1)) ≤ v2 then some D else if D.2.1 v0 2 ≠ 0 then if D.2.1 v0 2 ≠ 0 then if ob_in (v2 + (D.1 v0 1)) (S.2.1 (D.2.1 v0 2)) then if ob_in v2 (S.2.1 (D.2.1 v0 2)) then ob_lt (ob_pI D (D.2.1 v0 2) v2.toNatClampNeg (D.1 (D.2.1 v0 2) (v2 + (D.1 v0 1)).toNatClampNeg)) fun D8 => f_Table_remove_L30 S n v0 (v2 + (1 : Int32)) D8 else none else none else none else none)
theorem v_Table_remove_L30 {l : Launch} {E : ob_E} {S : ob_S} {D' : ob_D} : ∀ (n : Nat), ∀ (v0 : Nat) (v2 : Int32) (D : ob_D), S.1 v0 = 8 → f_Table_remove_L30 S n v0 v2 D = some D' → ob_V l E k_Table_remove 30 [(0, .ref v0), (2, .int v2)] [] S D none S D' := by
  intro n
  induction n with
  | zero =>
    intro v0 v2 D hp_v0 h
    have h : none = some D' := h
    cases h
  | succ n ih =>
    intro v0 v2 D hp_v0 h
    rw [f_Table_remove_L30] at h
    refine ob_iload d_Table_remove_30 rfl ?_
    refine ob_aload d_Table_remove_31 rfl ?_
    refine ob_getI d_Table_remove_32 F_7_3 l_Table_22 hp_v0 ?_
    refine ob_aload d_Table_remove_35 rfl ?_
    refine ob_getI d_Table_remove_36 F_7_1 l_Table_15 hp_v0 ?_
    refine ob_imul d_Table_remove_39 ?_
    refine ob_icmp_ge d_Table_remove_40 (fun hc => ?_) (fun hc => ?_)
    · replace h := ob_ift hc h
      exact ob_ve h (ob_vret d_Table_remove_66 rfl)
    · replace h := ob_iff hc h
      refine ob_aload d_Table_remove_43 rfl ?_
      obtain ⟨hg3, h⟩ := ob_gd h
      refine ob_getR d_Table_remove_44 F_7_2 l_Table_18 hp_v0 hg3 (fun hk2 => ?_)
      refine ob_iload d_Table_remove_47 rfl ?_
      refine ob_aload d_Table_remove_48 rfl ?_
      obtain ⟨hg5, h⟩ := ob_gd h
      refine ob_getR d_Table_remove_49 F_7_2 l_Table_18 hp_v0 hg5 (fun hk4 => ?_)
      refine ob_iload d_Table_remove_52 rfl ?_
      refine ob_aload d_Table_remove_53 rfl ?_
      refine ob_getI d_Table_remove_54 F_7_1 l_Table_15 hp_v0 ?_
      refine ob_iadd d_Table_remove_57 ?_
      obtain ⟨hg6, h⟩ := ob_gd h
      refine ob_iald d_Table_remove_58 hk4 hg6 ?_
      obtain ⟨hg7, h⟩ := ob_gd h
      replace h := ob_lt_e h
      refine ob_iast d_Table_remove_59 hk2 hg7 ?_
      refine ob_iinc (lo2 := [(0, .ref v0), (2, .int (v2 + (1 : Int32)))]) d_Table_remove_60 rfl rfl ?_
      refine ob_goto d_Table_remove_63 ?_
      exact ih v0 (v2 + (1 : Int32)) (ob_pI D (D.2.1 v0 2) v2.toNatClampNeg (D.1 (D.2.1 v0 2) (v2 + (D.1 v0 1)).toNatClampNeg)) hp_v0 h
def f_Table_remove (S : ob_S) (v0 : Nat) (v1 : Int32) (D : ob_D) : Option (ob_D) :=
  (if v1 < 0 then some D else (if v1 < (D.1 v0 3) then ob_lt (ob_pI D v0 3 ((D.1 v0 3) - (1 : Int32))) fun D1 => f_Table_remove_L30 S ob_FU v0 (v1 * (D1.1 v0 1)) D1 else some D))
theorem c_Table_remove {l : Launch} {E : ob_E} {S : ob_S} {D : ob_D} {v0 : Nat} {v1 : Int32} {D' : ob_D} (hp_v0 : S.1 v0 = 8) (h : f_Table_remove S v0 v1 D = some D') : ob_M l E k_Table_remove [.ref v0, .int v1] S D none S D' := by
  refine ob_ofV (lo := [(0, .ref v0), (1, .int v1)]) (by decide) rfl (Nat.le_of_ble_eq_true rfl) rfl (Nat.le_refl _) (Nat.le_refl _) ?_
  rw [f_Table_remove] at h
  refine ob_iload d_Table_remove_0 rfl ?_
  refine ob_if_lt d_Table_remove_1 (fun hc => ?_) (fun hc => ?_)
  · replace h := ob_ift hc h
    exact ob_ve h (ob_vret d_Table_remove_12 rfl)
  · replace h := ob_iff hc h
    refine ob_iload d_Table_remove_4 rfl ?_
    refine ob_aload d_Table_remove_5 rfl ?_
    refine ob_getI d_Table_remove_6 F_7_3 l_Table_22 hp_v0 ?_
    refine ob_icmp_lt d_Table_remove_9 (fun hc => ?_) (fun hc => ?_)
    · replace h := ob_ift hc h
      refine ob_aload d_Table_remove_13 rfl ?_
      refine ob_dup d_Table_remove_14 rfl ?_
      refine ob_getI d_Table_remove_15 F_7_3 l_Table_22 hp_v0 ?_
      refine ob_push d_Table_remove_18 ?_
      refine ob_isub d_Table_remove_19 ?_
      replace h := ob_lt_e h
      refine ob_putI d_Table_remove_20 F_7_3 l_Table_22 hp_v0 ?_
      refine ob_iload d_Table_remove_23 rfl ?_
      refine ob_aload d_Table_remove_24 rfl ?_
      refine ob_getI d_Table_remove_25 F_7_1 l_Table_15 hp_v0 ?_
      refine ob_imul d_Table_remove_28 ?_
      refine ob_istore (lo2 := [(0, .ref v0), (1, .int v1), (2, .int (v1 * ((ob_pI D v0 3 ((D.1 v0 3) - (1 : Int32))).1 v0 1)))]) d_Table_remove_29 rfl ?_
      refine ob_sub (lo2 := [(0, .ref v0), (2, .int (v1 * ((ob_pI D v0 3 ((D.1 v0 3) - (1 : Int32))).1 v0 1)))]) [0, 2] rfl ?_
      exact v_Table_remove_L30 ob_FU v0 (v1 * ((ob_pI D v0 3 ((D.1 v0 3) - (1 : Int32))).1 v0 1)) (ob_pI D v0 3 ((D.1 v0 3) - (1 : Int32))) hp_v0 h
    · replace h := ob_iff hc h
      exact ob_ve h (ob_vret d_Table_remove_12 rfl)
-- OrbitBox$Ring.get(I)I
theorem d_Ring_get_12 : ob_dk k_Ring_get 12 13 (0 : Int32) (.iconst 0) 1 := ⟨by decide +kernel, rfl, show Int32.ofInt 0 = (0 : Int32) by decide +kernel⟩
theorem d_Ring_get_13 : ob_dc k_Ring_get 13 (.ireturn) 1 14 := ⟨by decide +kernel, rfl⟩
theorem d_Ring_get_46 : ob_dc k_Ring_get 46 (.ireturn) 1 47 := ⟨by decide +kernel, rfl⟩
theorem d_Ring_get_45 : ob_dc k_Ring_get 45 (.iaload) 1 46 := ⟨by decide +kernel, rfl⟩
theorem d_Ring_get_44 : ob_dc k_Ring_get 44 (.isub) 1 45 := ⟨by decide +kernel, rfl⟩
theorem d_Ring_get_43 : ob_dc k_Ring_get 43 (.arraylength) 1 44 := ⟨by decide +kernel, rfl⟩
theorem d_Ring_get_40 : ob_dc k_Ring_get 40 (.getfield 7) 3 43 := ⟨by decide +kernel, rfl⟩
theorem d_Ring_get_39 : ob_dv ob_ac k_Ring_get 39 40 0 (.aload_n 0) 1 := ⟨by decide +kernel, rfl, rfl⟩
theorem d_Ring_get_38 : ob_dv ob_lc k_Ring_get 38 39 2 (.iload_n 2) 1 := ⟨by decide +kernel, rfl, rfl⟩
theorem d_Ring_get_35 : ob_db k_Ring_get 35 (.goto 10) 10 38 45 := ⟨by decide +kernel, rfl, by decide⟩
theorem d_Ring_get_34 : ob_dv ob_lc k_Ring_get 34 35 2 (.iload_n 2) 1 := ⟨by decide +kernel, rfl, rfl⟩
theorem d_Ring_get_31 : ob_db k_Ring_get 31 (.if_icmp .ge 7) 7 34 38 := ⟨by decide +kernel, rfl, by decide⟩
theorem d_Ring_get_30 : ob_dc k_Ring_get 30 (.arraylength) 1 31 := ⟨by decide +kernel, rfl⟩
theorem d_Ring_get_27 : ob_dc k_Ring_get 27 (.getfield 7) 3 30 := ⟨by decide +kernel, rfl⟩
theorem d_Ring_get_26 : ob_dv ob_ac k_Ring_get 26 27 0 (.aload_n 0) 1 := ⟨by decide +kernel, rfl, rfl⟩
theorem d_Ring_get_25 : ob_dv ob_lc k_Ring_get 25 26 2 (.iload_n 2) 1 := ⟨by decide +kernel, rfl, rfl⟩
theorem d_Ring_get_22 : ob_dc k_Ring_get 22 (.getfield 7) 3 25 := ⟨by decide +kernel, rfl⟩
theorem d_Ring_get_21 : ob_dv ob_ac k_Ring_get 21 22 0 (.aload_n 0) 1 := ⟨by decide +kernel, rfl, rfl⟩
theorem d_Ring_get_20 : ob_dv (ob_sc k_Ring_get.2.2.2.1) k_Ring_get 20 21 2 (.istore_n 2) 1 := ⟨by decide +kernel, rfl, ⟨rfl, by decide +kernel⟩⟩
theorem d_Ring_get_19 : ob_dc k_Ring_get 19 (.iadd) 1 20 := ⟨by decide +kernel, rfl⟩
theorem d_Ring_get_18 : ob_dv ob_lc k_Ring_get 18 19 1 (.iload_n 1) 1 := ⟨by decide +kernel, rfl, rfl⟩
theorem d_Ring_get_15 : ob_dc k_Ring_get 15 (.getfield 13) 3 18 := ⟨by decide +kernel, rfl⟩
theorem d_Ring_get_14 : ob_dv ob_ac k_Ring_get 14 15 0 (.aload_n 0) 1 := ⟨by decide +kernel, rfl, rfl⟩
theorem d_Ring_get_9 : ob_db k_Ring_get 9 (.if_icmp .lt 5) 5 12 14 := ⟨by decide +kernel, rfl, by decide⟩
theorem d_Ring_get_6 : ob_dc k_Ring_get 6 (.getfield 17) 3 9 := ⟨by decide +kernel, rfl⟩
theorem d_Ring_get_5 : ob_dv ob_ac k_Ring_get 5 6 0 (.aload_n 0) 1 := ⟨by decide +kernel, rfl, rfl⟩
theorem d_Ring_get_4 : ob_dv ob_lc k_Ring_get 4 5 1 (.iload_n 1) 1 := ⟨by decide +kernel, rfl, rfl⟩
theorem d_Ring_get_1 : ob_db k_Ring_get 1 (.ifCond .lt 11) 11 4 12 := ⟨by decide +kernel, rfl, by decide⟩
theorem d_Ring_get_0 : ob_dv ob_lc k_Ring_get 0 1 1 (.iload_n 1) 1 := ⟨by decide +kernel, rfl, rfl⟩
def f_Ring_get (S : ob_S) (v0 : Nat) (v1 : Int32) (D : ob_D) : Option (Int32 × ob_D) :=
  (if v1 < 0 then some ((0 : Int32), D) else (if v1 < (D.1 v0 2) then if D.2.1 v0 0 ≠ 0 then if D.2.1 v0 0 ≠ 0 then (if (Int32.ofNat (S.2.1 (D.2.1 v0 0))) ≤ ((D.1 v0 1) + v1) then if D.2.1 v0 0 ≠ 0 then if ob_in (((D.1 v0 1) + v1) - (Int32.ofNat (S.2.1 (D.2.1 v0 0)))) (S.2.1 (D.2.1 v0 0)) then some (D.1 (D.2.1 v0 0) (((D.1 v0 1) + v1) - (Int32.ofNat (S.2.1 (D.2.1 v0 0)))).toNatClampNeg, D) else none else none else if ob_in ((D.1 v0 1) + v1) (S.2.1 (D.2.1 v0 0)) then some (D.1 (D.2.1 v0 0) ((D.1 v0 1) + v1).toNatClampNeg, D) else none) else none else none else some ((0 : Int32), D)))
theorem c_Ring_get {l : Launch} {E : ob_E} {S : ob_S} {D : ob_D} {v0 : Nat} {v1 : Int32} {r : Int32} {D' : ob_D} (hp_v0 : S.1 v0 = 3) (h : f_Ring_get S v0 v1 D = some (r, D')) : ob_M l E k_Ring_get [.ref v0, .int v1] S D (some (.int r)) S D' := by
  refine ob_ofV (lo := [(0, .ref v0), (1, .int v1)]) (by decide) rfl (Nat.le_of_ble_eq_true rfl) rfl (Nat.le_refl _) (Nat.le_refl _) ?_
  rw [f_Ring_get] at h
  refine ob_iload d_Ring_get_0 rfl ?_
  refine ob_if_lt d_Ring_get_1 (fun hc => ?_) (fun hc => ?_)
  · replace h := ob_ift hc h
    refine ob_push d_Ring_get_12 ?_
    exact ob_ie h (ob_iret d_Ring_get_13 rfl rfl)
  · replace h := ob_iff hc h
    refine ob_iload d_Ring_get_4 rfl ?_
    refine ob_aload d_Ring_get_5 rfl ?_
    refine ob_getI d_Ring_get_6 F_2_2 l_Ring_17 hp_v0 ?_
    refine ob_icmp_lt d_Ring_get_9 (fun hc => ?_) (fun hc => ?_)
    · replace h := ob_ift hc h
      refine ob_aload d_Ring_get_14 rfl ?_
      refine ob_getI d_Ring_get_15 F_2_1 l_Ring_13 hp_v0 ?_
      refine ob_iload d_Ring_get_18 rfl ?_
      refine ob_iadd d_Ring_get_19 ?_
      refine ob_istore (lo2 := [(0, .ref v0), (1, .int v1), (2, .int ((D.1 v0 1) + v1))]) d_Ring_get_20 rfl ?_
      refine ob_aload d_Ring_get_21 rfl ?_
      obtain ⟨hg2, h⟩ := ob_gd h
      refine ob_getR d_Ring_get_22 F_2_0 l_Ring_7 hp_v0 hg2 (fun hk1 => ?_)
      refine ob_iload d_Ring_get_25 rfl ?_
      refine ob_aload d_Ring_get_26 rfl ?_
      obtain ⟨hg4, h⟩ := ob_gd h
      refine ob_getR d_Ring_get_27 F_2_0 l_Ring_7 hp_v0 hg4 (fun hk3 => ?_)
      refine ob_alen (i := 0) d_Ring_get_30 hk3 (by decide) ?_
      refine ob_icmp_ge d_Ring_get_31 (fun hc => ?_) (fun hc => ?_)
      · replace h := ob_ift hc h
        refine ob_iload d_Ring_get_38 rfl ?_
        refine ob_aload d_Ring_get_39 rfl ?_
        obtain ⟨hg6, h⟩ := ob_gd h
        refine ob_getR d_Ring_get_40 F_2_0 l_Ring_7 hp_v0 hg6 (fun hk5 => ?_)
        refine ob_alen (i := 0) d_Ring_get_43 hk5 (by decide) ?_
        refine ob_isub d_Ring_get_44 ?_
        obtain ⟨hg7, h⟩ := ob_gd h
        refine ob_iald d_Ring_get_45 hk1 hg7 ?_
        exact ob_ie h (ob_iret d_Ring_get_46 rfl rfl)
      · replace h := ob_iff hc h
        refine ob_iload d_Ring_get_34 rfl ?_
        refine ob_goto d_Ring_get_35 ?_
        obtain ⟨hg8, h⟩ := ob_gd h
        refine ob_iald d_Ring_get_45 hk1 hg8 ?_
        exact ob_ie h (ob_iret d_Ring_get_46 rfl rfl)
    · replace h := ob_iff hc h
      refine ob_push d_Ring_get_12 ?_
      exact ob_ie h (ob_iret d_Ring_get_13 rfl rfl)
-- OrbitBox$Ring.take()I
theorem d_Ring_take_1 : ob_dk k_Ring_take 1 2 (0 : Int32) (.iconst 0) 1 := ⟨by decide +kernel, rfl, show Int32.ofInt 0 = (0 : Int32) by decide +kernel⟩
theorem d_Ring_take_7 : ob_dk k_Ring_take 7 8 (1 : Int32) (.iconst 1) 1 := ⟨by decide +kernel, rfl, show Int32.ofInt 1 = (1 : Int32) by decide +kernel⟩
theorem d_Ring_take_12 : ob_dc k_Ring_take 12 (.ireturn) 1 13 := ⟨by decide +kernel, rfl⟩
theorem d_Ring_take_11 : ob_dv ob_lc k_Ring_take 11 12 1 (.iload_n 1) 1 := ⟨by decide +kernel, rfl, rfl⟩
theorem d_Ring_take_8 : ob_dc k_Ring_take 8 (.invokevirtual 40) 3 11 := ⟨by decide +kernel, rfl⟩
theorem d_Ring_take_6 : ob_dv ob_ac k_Ring_take 6 7 0 (.aload_n 0) 1 := ⟨by decide +kernel, rfl, rfl⟩
theorem d_Ring_take_5 : ob_dv (ob_sc k_Ring_take.2.2.2.1) k_Ring_take 5 6 1 (.istore_n 1) 1 := ⟨by decide +kernel, rfl, ⟨rfl, by decide +kernel⟩⟩
theorem d_Ring_take_2 : ob_dc k_Ring_take 2 (.invokevirtual 36) 3 5 := ⟨by decide +kernel, rfl⟩
theorem d_Ring_take_0 : ob_dv ob_ac k_Ring_take 0 1 0 (.aload_n 0) 1 := ⟨by decide +kernel, rfl, rfl⟩
theorem c_Ring_take_40 : ob_vd k_Ring_take k_Ring_drop 40 1 2 := ⟨cw_Ring_drop, yd_Ring_drop, w_896, w_648, w_649, w_8, ⟨_, _, rfl⟩, by decide, by decide⟩
theorem c_Ring_take_36 : ob_vd k_Ring_take k_Ring_get 36 1 2 := ⟨cw_Ring_get, yd_Ring_get, w_892, w_893, w_894, w_8, ⟨_, _, rfl⟩, by decide, by decide⟩
def f_Ring_take (S : ob_S) (v0 : Nat) (D : ob_D) : Option (Int32 × ob_D) :=
  ob_bd (f_Ring_get S v0 (0 : Int32) D) fun x3 D1 => ob_bv (f_Ring_drop S v0 (1 : Int32) D1) fun D4 => some (x3, D4)
theorem c_Ring_take {l : Launch} {E : ob_E} {S : ob_S} {D : ob_D} {v0 : Nat} {r : Int32} {D' : ob_D} (hp_v0 : S.1 v0 = 3) (h : f_Ring_take S v0 D = some (r, D')) : ob_M l E k_Ring_take [.ref v0] S D (some (.int r)) S D' := by
  refine ob_ofV (lo := [(0, .ref v0)]) (by decide) rfl (Nat.le_of_ble_eq_true rfl) rfl (Nat.le_refl _) (Nat.le_refl _) ?_
  rw [f_Ring_take] at h
  refine ob_aload d_Ring_take_0 rfl ?_
  refine ob_push d_Ring_take_1 ?_
  obtain ⟨x3, D1, h2, h⟩ := ob_bd_e h
  refine ob_callVi (As := [.int (0 : Int32)]) (rest := []) d_Ring_take_2 c_Ring_take_36 hp_v0 rfl rfl (Nat.le_of_ble_eq_true rfl) (c_Ring_get hp_v0 h2) ⟨Nat.le_refl _, Nat.le_refl _⟩ ⟨Nat.le_refl _, Nat.le_refl _⟩ ?_
  refine ob_istore (lo2 := [(0, .ref v0), (1, .int x3)]) d_Ring_take_5 rfl ?_
  refine ob_aload d_Ring_take_6 rfl ?_
  refine ob_push d_Ring_take_7 ?_
  obtain ⟨D4, h5, h⟩ := ob_bv_e h
  refine ob_callVv (As := [.int (1 : Int32)]) (rest := []) d_Ring_take_8 c_Ring_take_40 hp_v0 rfl rfl (Nat.le_of_ble_eq_true rfl) (c_Ring_drop hp_v0 h5) ⟨Nat.le_refl _, Nat.le_refl _⟩ ⟨Nat.le_refl _, Nat.le_refl _⟩ ?_
  refine ob_iload d_Ring_take_11 rfl ?_
  exact ob_ie h (ob_iret d_Ring_take_12 rfl rfl)
