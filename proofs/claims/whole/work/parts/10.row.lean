-- OrbitBox$Row.<init>(I)V
theorem d_Row_init_0 : ob_dv ob_ac k_Row_init 0 1 0 (.aload_n 0) 1 := ⟨by decide +kernel, rfl, rfl⟩
theorem d_Row_init_1 : ob_dc k_Row_init 1 (.invokespecial 1) 3 4 := ⟨by decide +kernel, rfl⟩
theorem d_Row_init_4 : ob_dv ob_ac k_Row_init 4 5 0 (.aload_n 0) 1 := ⟨by decide +kernel, rfl, rfl⟩
theorem d_Row_init_5 : ob_dv ob_lc k_Row_init 5 6 1 (.iload_n 1) 1 := ⟨by decide +kernel, rfl, rfl⟩
theorem d_Row_init_6 : ob_dc k_Row_init 6 (.newarray .int) 2 8 := ⟨by decide +kernel, rfl⟩
theorem d_Row_init_8 : ob_dc k_Row_init 8 (.putfield 7) 3 11 := ⟨by decide +kernel, rfl⟩
theorem d_Row_init_11 : ob_dv ob_ac k_Row_init 11 12 0 (.aload_n 0) 1 := ⟨by decide +kernel, rfl, rfl⟩
theorem d_Row_init_12 : ob_dk k_Row_init 12 13 (0 : Int32) (.iconst 0) 1 := ⟨by decide +kernel, rfl, show Int32.ofInt 0 = (0 : Int32) by decide +kernel⟩
theorem d_Row_init_13 : ob_dc k_Row_init 13 (.putfield 13) 3 16 := ⟨by decide +kernel, rfl⟩
theorem d_Row_init_16 : ob_dc k_Row_init 16 (.return_) 1 17 := ⟨by decide +kernel, rfl⟩
def f_Row_init (v0 : Nat) (v1 : Int32) (S : ob_S) (D : ob_D) : Option (ob_S × ob_D) :=
  ob_gt (¬ v1 < 0 ∧ v1.toNatClampNeg ≤ 67108864) <| ob_lt (ob_new S 20 v1.toNatClampNeg v1.toNatClampNeg) fun S1 => ob_lt (ob_z D S.2.2.1) fun D2 => ob_lt (ob_pR D2 v0 0 (S.2.2.1)) fun D8 => ob_lt (ob_pI D8 v0 1 (0 : Int32)) fun D10 => some (S1, D10)
theorem e_Row_init {v0 : Nat} {v1 : Int32} {S T : ob_S} {D D' : ob_D} (h : f_Row_init v0 v1 S D = some (T, D')) : ob_ext S T := by
  rw [f_Row_init] at h
  obtain ⟨hg5, h⟩ := ob_gt_e h
  obtain ⟨S1, hS3, h⟩ := ob_lt_x h
  obtain ⟨D2, hD4, h⟩ := ob_lt_x h
  obtain ⟨D8, hD9, h⟩ := ob_lt_x h
  obtain ⟨D10, hD11, h⟩ := ob_lt_x h
  obtain ⟨he1, he2⟩ := ob_pe h
  have x_S1 : ob_ext S1 T := ob_ext_eq he1
  have x_S : ob_ext S T := (ob_ext_new hS3).tr x_S1
  exact x_S
theorem c_Row_init {l : Launch} {E : ob_E} {S T : ob_S} {D D' : ob_D} {v0 : Nat} {v1 : Int32} (hp_v0 : S.1 v0 = 2) (h : f_Row_init v0 v1 S D = some (T, D')) : ob_M l E k_Row_init [.ref v0, .int v1] S D none T D' := by
  have xx := e_Row_init h
  refine ob_ofV (lo := [(0, .ref v0), (1, .int v1)]) (by decide) rfl (Nat.le_of_ble_eq_true rfl) rfl xx.1 xx.2.1 ?_
  rw [f_Row_init] at h
  refine ob_withH fun H0 hH0 => ?_
  have kd_v0 := ob_kdH hH0 hp_v0
  obtain ⟨hg5, h⟩ := ob_gt_e h
  obtain ⟨S1, hS3, h⟩ := ob_lt_x h
  obtain ⟨D2, hD4, h⟩ := ob_lt_x h
  obtain ⟨D8, hD9, h⟩ := ob_lt_x h
  obtain ⟨D10, hD11, h⟩ := ob_lt_x h
  obtain ⟨he1, he2⟩ := ob_pe h
  have x_S1 : ob_ext S1 T := ob_ext_eq he1
  have x_S : ob_ext S T := (ob_ext_new hS3).tr x_S1
  refine ob_aload d_Row_init_0 rfl ?_
  refine ob_objI d_Row_init_1 w_34 w_27 w_28 (by decide) (Nat.le_of_ble_eq_true rfl) ?_
  refine ob_aload d_Row_init_4 rfl ?_
  refine ob_iload d_Row_init_5 rfl ?_
  refine ob_newIx d_Row_init_6 w_52 hg5 hS3 hD4 x_S1 ?_
  have hk6 := ob_kd_new hS3 kd_v0
  have hk7 : ob_kd S1 S.2.2.1 20 := ob_kd_this hS3 (by decide)
  refine ob_xI hD9 (ob_putFR d_Row_init_8 F_1_0 w_35 ⟨rfl, rfl⟩ (fty := (.array (.int))) (by decide) rfl rfl hk6.1 hk7.1) ?_
  refine ob_aload d_Row_init_11 rfl ?_
  refine ob_push d_Row_init_12 ?_
  refine ob_xI hD11 (ob_putI d_Row_init_13 F_1_1 l_Row_13 hk6.1) ?_
  exact ob_vee he1 he2 (ob_vret d_Row_init_16 rfl)
-- OrbitBox$Row.add(II)V
theorem d_Row_add_1 : ob_dk k_Row_add 1 2 (1 : Int32) (.iconst 1) 1 := ⟨by decide +kernel, rfl, show Int32.ofInt 1 = (1 : Int32) by decide +kernel⟩
theorem d_Row_add_55 : ob_dc k_Row_add 55 (.return_) 1 56 := ⟨by decide +kernel, rfl⟩
theorem d_Row_add_49 : ob_di k_Row_add 49 52 3 (-1) (-1 : Int32) := ⟨by decide +kernel, rfl, by decide +kernel, by decide +kernel⟩
theorem d_Row_add_52 : ob_db k_Row_add 52 (.goto (-48)) (-48) 55 4 := ⟨by decide +kernel, rfl, by decide⟩
theorem d_Row_add_29 : ob_dk k_Row_add 29 31 (8 : Int32) (.bipush 8) 2 := ⟨by decide +kernel, rfl, show (Int8.ofInt 8).toInt32 = (8 : Int32) by decide +kernel⟩
theorem d_Row_add_34 : ob_dk k_Row_add 34 37 (255 : Int32) (.sipush 255) 3 := ⟨by decide +kernel, rfl, show (Int16.ofInt 255).toInt32 = (255 : Int32) by decide +kernel⟩
theorem d_Row_add_44 : ob_dk k_Row_add 44 45 (1 : Int32) (.iconst 1) 1 := ⟨by decide +kernel, rfl, show Int32.ofInt 1 = (1 : Int32) by decide +kernel⟩
theorem d_Row_add_46 : ob_dc k_Row_add 46 (.putfield 13) 3 49 := ⟨by decide +kernel, rfl⟩
theorem d_Row_add_45 : ob_dc k_Row_add 45 (.iadd) 1 46 := ⟨by decide +kernel, rfl⟩
theorem d_Row_add_41 : ob_dc k_Row_add 41 (.getfield 13) 3 44 := ⟨by decide +kernel, rfl⟩
theorem d_Row_add_40 : ob_dc k_Row_add 40 (.dup) 1 41 := ⟨by decide +kernel, rfl⟩
theorem d_Row_add_39 : ob_dv ob_ac k_Row_add 39 40 0 (.aload_n 0) 1 := ⟨by decide +kernel, rfl, rfl⟩
theorem d_Row_add_38 : ob_dc k_Row_add 38 (.iastore) 1 39 := ⟨by decide +kernel, rfl⟩
theorem d_Row_add_37 : ob_dc k_Row_add 37 (.iand) 1 38 := ⟨by decide +kernel, rfl⟩
theorem d_Row_add_33 : ob_dc k_Row_add 33 (.iushr) 1 34 := ⟨by decide +kernel, rfl⟩
theorem d_Row_add_32 : ob_dc k_Row_add 32 (.imul) 1 33 := ⟨by decide +kernel, rfl⟩
theorem d_Row_add_31 : ob_dv ob_lc k_Row_add 31 32 3 (.iload_n 3) 1 := ⟨by decide +kernel, rfl, rfl⟩
theorem d_Row_add_28 : ob_dv ob_lc k_Row_add 28 29 1 (.iload_n 1) 1 := ⟨by decide +kernel, rfl, rfl⟩
theorem d_Row_add_25 : ob_dc k_Row_add 25 (.getfield 13) 3 28 := ⟨by decide +kernel, rfl⟩
theorem d_Row_add_24 : ob_dv ob_ac k_Row_add 24 25 0 (.aload_n 0) 1 := ⟨by decide +kernel, rfl, rfl⟩
theorem d_Row_add_21 : ob_dc k_Row_add 21 (.getfield 7) 3 24 := ⟨by decide +kernel, rfl⟩
theorem d_Row_add_20 : ob_dv ob_ac k_Row_add 20 21 0 (.aload_n 0) 1 := ⟨by decide +kernel, rfl, rfl⟩
theorem d_Row_add_17 : ob_db k_Row_add 17 (.if_icmp .ge 32) 32 20 49 := ⟨by decide +kernel, rfl, by decide⟩
theorem d_Row_add_16 : ob_dc k_Row_add 16 (.arraylength) 1 17 := ⟨by decide +kernel, rfl⟩
theorem d_Row_add_13 : ob_dc k_Row_add 13 (.getfield 7) 3 16 := ⟨by decide +kernel, rfl⟩
theorem d_Row_add_12 : ob_dv ob_ac k_Row_add 12 13 0 (.aload_n 0) 1 := ⟨by decide +kernel, rfl, rfl⟩
theorem d_Row_add_9 : ob_dc k_Row_add 9 (.getfield 13) 3 12 := ⟨by decide +kernel, rfl⟩
theorem d_Row_add_8 : ob_dv ob_ac k_Row_add 8 9 0 (.aload_n 0) 1 := ⟨by decide +kernel, rfl, rfl⟩
theorem d_Row_add_5 : ob_db k_Row_add 5 (.ifCond .lt 50) 50 8 55 := ⟨by decide +kernel, rfl, by decide⟩
theorem d_Row_add_4 : ob_dv ob_lc k_Row_add 4 5 3 (.iload_n 3) 1 := ⟨by decide +kernel, rfl, rfl⟩
theorem d_Row_add_3 : ob_dv (ob_sc k_Row_add.2.2.2.1) k_Row_add 3 4 3 (.istore_n 3) 1 := ⟨by decide +kernel, rfl, ⟨rfl, by decide +kernel⟩⟩
theorem d_Row_add_2 : ob_dc k_Row_add 2 (.isub) 1 3 := ⟨by decide +kernel, rfl⟩
theorem d_Row_add_0 : ob_dv ob_lc k_Row_add 0 1 2 (.iload_n 2) 1 := ⟨by decide +kernel, rfl, rfl⟩
def f_Row_add_L4 (S : ob_S) : Nat → Nat → Int32 → Int32 → ob_D → Option (ob_D)
  | 0, _, _, _, _ => none
  | n + 1, v0, v1, v3, D => (if v3 < 0 then some D else if D.2.1 v0 0 ≠ 0 then (if (Int32.ofNat (S.2.1 (D.2.1 v0 0))) ≤ (D.1 v0 1) then f_Row_add_L4 S n v0 v1 (v3 + (-1 : Int32)) D else if D.2.1 v0 0 ≠ 0 then if ob_in (D.1 v0 1) (S.2.1 (D.2.1 v0 0)) then ob_lt (ob_pI D (D.2.1 v0 0) (D.1 v0 1).toNatClampNeg (((v1.toUInt32 >>> (((8 : Int32) * v3).toUInt32 &&& Int32.toUInt32 31)).toInt32) &&& (255 : Int32))) fun D6 => ob_lt (ob_pI D6 v0 1 ((D6.1 v0 1) + (1 : Int32))) fun D7 => f_Row_add_L4 S n v0 v1 (v3 + (-1 : Int32)) D7 else none else none) else none)
theorem v_Row_add_L4 {l : Launch} {E : ob_E} {S : ob_S} {D' : ob_D} : ∀ (n : Nat), ∀ (v0 : Nat) (v1 : Int32) (v3 : Int32) (D : ob_D), S.1 v0 = 2 → f_Row_add_L4 S n v0 v1 v3 D = some D' → ob_V l E k_Row_add 4 [(0, .ref v0), (1, .int v1), (3, .int v3)] [] S D none S D' := by
  intro n
  induction n with
  | zero =>
    intro v0 v1 v3 D hp_v0 h
    have h : none = some D' := h
    cases h
  | succ n ih =>
    intro v0 v1 v3 D hp_v0 h
    rw [f_Row_add_L4] at h
    refine ob_iload d_Row_add_4 rfl ?_
    refine ob_if_lt d_Row_add_5 (fun hc => ?_) (fun hc => ?_)
    · replace h := ob_ift hc h
      exact ob_ve h (ob_vret d_Row_add_55 rfl)
    · replace h := ob_iff hc h
      refine ob_aload d_Row_add_8 rfl ?_
      refine ob_getI d_Row_add_9 F_1_1 l_Row_13 hp_v0 ?_
      refine ob_aload d_Row_add_12 rfl ?_
      obtain ⟨hg2, h⟩ := ob_gd h
      refine ob_getR d_Row_add_13 F_1_0 l_Row_7 hp_v0 hg2 (fun hk1 => ?_)
      refine ob_alen (i := 0) d_Row_add_16 hk1 (by decide) ?_
      refine ob_icmp_ge d_Row_add_17 (fun hc => ?_) (fun hc => ?_)
      · replace h := ob_ift hc h
        refine ob_iinc (lo2 := [(0, .ref v0), (1, .int v1), (3, .int (v3 + (-1 : Int32)))]) d_Row_add_49 rfl rfl ?_
        refine ob_goto d_Row_add_52 ?_
        exact ih v0 v1 (v3 + (-1 : Int32)) D hp_v0 h
      · replace h := ob_iff hc h
        refine ob_aload d_Row_add_20 rfl ?_
        obtain ⟨hg4, h⟩ := ob_gd h
        refine ob_getR d_Row_add_21 F_1_0 l_Row_7 hp_v0 hg4 (fun hk3 => ?_)
        refine ob_aload d_Row_add_24 rfl ?_
        refine ob_getI d_Row_add_25 F_1_1 l_Row_13 hp_v0 ?_
        refine ob_iload d_Row_add_28 rfl ?_
        refine ob_push d_Row_add_29 ?_
        refine ob_iload d_Row_add_31 rfl ?_
        refine ob_imul d_Row_add_32 ?_
        refine ob_iushr d_Row_add_33 ?_
        refine ob_push d_Row_add_34 ?_
        refine ob_iand d_Row_add_37 ?_
        obtain ⟨hg5, h⟩ := ob_gd h
        replace h := ob_lt_e h
        refine ob_iast d_Row_add_38 hk3 hg5 ?_
        refine ob_aload d_Row_add_39 rfl ?_
        refine ob_dup d_Row_add_40 rfl ?_
        refine ob_getI d_Row_add_41 F_1_1 l_Row_13 hp_v0 ?_
        refine ob_push d_Row_add_44 ?_
        refine ob_iadd d_Row_add_45 ?_
        replace h := ob_lt_e h
        refine ob_putI d_Row_add_46 F_1_1 l_Row_13 hp_v0 ?_
        refine ob_iinc (lo2 := [(0, .ref v0), (1, .int v1), (3, .int (v3 + (-1 : Int32)))]) d_Row_add_49 rfl rfl ?_
        refine ob_goto d_Row_add_52 ?_
        exact ih v0 v1 (v3 + (-1 : Int32)) (ob_pI (ob_pI D (D.2.1 v0 0) (D.1 v0 1).toNatClampNeg (((v1.toUInt32 >>> (((8 : Int32) * v3).toUInt32 &&& Int32.toUInt32 31)).toInt32) &&& (255 : Int32))) v0 1 (((ob_pI D (D.2.1 v0 0) (D.1 v0 1).toNatClampNeg (((v1.toUInt32 >>> (((8 : Int32) * v3).toUInt32 &&& Int32.toUInt32 31)).toInt32) &&& (255 : Int32))).1 v0 1) + (1 : Int32))) hp_v0 h
def f_Row_add (S : ob_S) (v0 : Nat) (v1 : Int32) (v2 : Int32) (D : ob_D) : Option (ob_D) :=
  f_Row_add_L4 S ob_FU v0 v1 (v2 - (1 : Int32)) D
theorem c_Row_add {l : Launch} {E : ob_E} {S : ob_S} {D : ob_D} {v0 : Nat} {v1 : Int32} {v2 : Int32} {D' : ob_D} (hp_v0 : S.1 v0 = 2) (h : f_Row_add S v0 v1 v2 D = some D') : ob_M l E k_Row_add [.ref v0, .int v1, .int v2] S D none S D' := by
  refine ob_ofV (lo := [(0, .ref v0), (1, .int v1), (2, .int v2)]) (by decide) rfl (Nat.le_of_ble_eq_true rfl) rfl (Nat.le_refl _) (Nat.le_refl _) ?_
  rw [f_Row_add] at h
  refine ob_iload d_Row_add_0 rfl ?_
  refine ob_push d_Row_add_1 ?_
  refine ob_isub d_Row_add_2 ?_
  refine ob_istore (lo2 := [(0, .ref v0), (1, .int v1), (2, .int v2), (3, .int (v2 - (1 : Int32)))]) d_Row_add_3 rfl ?_
  refine ob_sub (lo2 := [(0, .ref v0), (1, .int v1), (3, .int (v2 - (1 : Int32)))]) [0, 1, 3] rfl ?_
  exact v_Row_add_L4 ob_FU v0 v1 (v2 - (1 : Int32)) D hp_v0 h
-- OrbitBox$Row.number(II)I
theorem d_Row_number_0 : ob_dk k_Row_number 0 1 (0 : Int32) (.iconst 0) 1 := ⟨by decide +kernel, rfl, show Int32.ofInt 0 = (0 : Int32) by decide +kernel⟩
theorem d_Row_number_51 : ob_dc k_Row_number 51 (.ireturn) 1 52 := ⟨by decide +kernel, rfl⟩
theorem d_Row_number_50 : ob_dv ob_lc k_Row_number 50 51 3 (.iload_n 3) 1 := ⟨by decide +kernel, rfl, rfl⟩
theorem d_Row_number_14 : ob_dk k_Row_number 14 16 (8 : Int32) (.bipush 8) 2 := ⟨by decide +kernel, rfl, show (Int8.ofInt 8).toInt32 = (8 : Int32) by decide +kernel⟩
theorem d_Row_number_41 : ob_dk k_Row_number 41 42 (0 : Int32) (.iconst 0) 1 := ⟨by decide +kernel, rfl, show Int32.ofInt 0 = (0 : Int32) by decide +kernel⟩
theorem d_Row_number_44 : ob_di k_Row_number 44 47 4 1 (1 : Int32) := ⟨by decide +kernel, rfl, by decide +kernel, by decide +kernel⟩
theorem d_Row_number_47 : ob_db k_Row_number 47 (.goto (-42)) (-42) 50 5 := ⟨by decide +kernel, rfl, by decide⟩
theorem d_Row_number_43 : ob_dv (ob_sc k_Row_number.2.2.2.1) k_Row_number 43 44 3 (.istore_n 3) 1 := ⟨by decide +kernel, rfl, ⟨rfl, by decide +kernel⟩⟩
theorem d_Row_number_42 : ob_dc k_Row_number 42 (.ior) 1 43 := ⟨by decide +kernel, rfl⟩
theorem d_Row_number_38 : ob_db k_Row_number 38 (.goto 4) 4 41 42 := ⟨by decide +kernel, rfl, by decide⟩
theorem d_Row_number_37 : ob_dc k_Row_number 37 (.iaload) 1 38 := ⟨by decide +kernel, rfl⟩
theorem d_Row_number_35 : ob_dv ob_lc k_Row_number 35 37 4 (.iload 4) 2 := ⟨by decide +kernel, rfl, rfl⟩
theorem d_Row_number_32 : ob_dc k_Row_number 32 (.getfield 7) 3 35 := ⟨by decide +kernel, rfl⟩
theorem d_Row_number_31 : ob_dv ob_ac k_Row_number 31 32 0 (.aload_n 0) 1 := ⟨by decide +kernel, rfl, rfl⟩
theorem d_Row_number_28 : ob_db k_Row_number 28 (.if_icmp .ge 13) 13 31 41 := ⟨by decide +kernel, rfl, by decide⟩
theorem d_Row_number_25 : ob_dc k_Row_number 25 (.getfield 13) 3 28 := ⟨by decide +kernel, rfl⟩
theorem d_Row_number_24 : ob_dv ob_ac k_Row_number 24 25 0 (.aload_n 0) 1 := ⟨by decide +kernel, rfl, rfl⟩
theorem d_Row_number_22 : ob_dv ob_lc k_Row_number 22 24 4 (.iload 4) 2 := ⟨by decide +kernel, rfl, rfl⟩
theorem d_Row_number_19 : ob_db k_Row_number 19 (.ifCond .lt 22) 22 22 41 := ⟨by decide +kernel, rfl, by decide⟩
theorem d_Row_number_17 : ob_dv ob_lc k_Row_number 17 19 4 (.iload 4) 2 := ⟨by decide +kernel, rfl, rfl⟩
theorem d_Row_number_16 : ob_dc k_Row_number 16 (.ishl) 1 17 := ⟨by decide +kernel, rfl⟩
theorem d_Row_number_13 : ob_dv ob_lc k_Row_number 13 14 3 (.iload_n 3) 1 := ⟨by decide +kernel, rfl, rfl⟩
theorem d_Row_number_10 : ob_db k_Row_number 10 (.if_icmp .ge 40) 40 13 50 := ⟨by decide +kernel, rfl, by decide⟩
theorem d_Row_number_9 : ob_dc k_Row_number 9 (.iadd) 1 10 := ⟨by decide +kernel, rfl⟩
theorem d_Row_number_8 : ob_dv ob_lc k_Row_number 8 9 2 (.iload_n 2) 1 := ⟨by decide +kernel, rfl, rfl⟩
theorem d_Row_number_7 : ob_dv ob_lc k_Row_number 7 8 1 (.iload_n 1) 1 := ⟨by decide +kernel, rfl, rfl⟩
theorem d_Row_number_5 : ob_dv ob_lc k_Row_number 5 7 4 (.iload 4) 2 := ⟨by decide +kernel, rfl, rfl⟩
theorem d_Row_number_3 : ob_dv (ob_sc k_Row_number.2.2.2.1) k_Row_number 3 5 4 (.istore 4) 2 := ⟨by decide +kernel, rfl, ⟨rfl, by decide +kernel⟩⟩
theorem d_Row_number_2 : ob_dv ob_lc k_Row_number 2 3 1 (.iload_n 1) 1 := ⟨by decide +kernel, rfl, rfl⟩
theorem d_Row_number_1 : ob_dv (ob_sc k_Row_number.2.2.2.1) k_Row_number 1 2 3 (.istore_n 3) 1 := ⟨by decide +kernel, rfl, ⟨rfl, by decide +kernel⟩⟩
def f_Row_number_L5 (S : ob_S) : Nat → Nat → Int32 → Int32 → Int32 → Int32 → ob_D → Option (Int32 × ob_D)
  | 0, _, _, _, _, _, _ => none
  | n + 1, v0, v1, v2, v3, v4, D => (if (v1 + v2) ≤ v4 then some (v3, D) else (if v4 < 0 then f_Row_number_L5 S n v0 v1 v2 ((v3 <<< ((8 : Int32) &&& 31)) ||| (0 : Int32)) (v4 + (1 : Int32)) D else (if (D.1 v0 1) ≤ v4 then f_Row_number_L5 S n v0 v1 v2 ((v3 <<< ((8 : Int32) &&& 31)) ||| (0 : Int32)) (v4 + (1 : Int32)) D else if D.2.1 v0 0 ≠ 0 then if ob_in v4 (S.2.1 (D.2.1 v0 0)) then f_Row_number_L5 S n v0 v1 v2 ((v3 <<< ((8 : Int32) &&& 31)) ||| (D.1 (D.2.1 v0 0) v4.toNatClampNeg)) (v4 + (1 : Int32)) D else none else none)))
theorem v_Row_number_L5 {l : Launch} {E : ob_E} {S : ob_S} {r : Int32} {D' : ob_D} : ∀ (n : Nat), ∀ (v0 : Nat) (v1 : Int32) (v2 : Int32) (v3 : Int32) (v4 : Int32) (D : ob_D), S.1 v0 = 2 → f_Row_number_L5 S n v0 v1 v2 v3 v4 D = some (r, D') → ob_V l E k_Row_number 5 [(0, .ref v0), (1, .int v1), (2, .int v2), (3, .int v3), (4, .int v4)] [] S D (some (.int r)) S D' := by
  intro n
  induction n with
  | zero =>
    intro v0 v1 v2 v3 v4 D hp_v0 h
    have h : none = some (r, D') := h
    cases h
  | succ n ih =>
    intro v0 v1 v2 v3 v4 D hp_v0 h
    rw [f_Row_number_L5] at h
    refine ob_iload d_Row_number_5 rfl ?_
    refine ob_iload d_Row_number_7 rfl ?_
    refine ob_iload d_Row_number_8 rfl ?_
    refine ob_iadd d_Row_number_9 ?_
    refine ob_icmp_ge d_Row_number_10 (fun hc => ?_) (fun hc => ?_)
    · replace h := ob_ift hc h
      refine ob_iload d_Row_number_50 rfl ?_
      exact ob_ie h (ob_iret d_Row_number_51 rfl rfl)
    · replace h := ob_iff hc h
      refine ob_iload d_Row_number_13 rfl ?_
      refine ob_push d_Row_number_14 ?_
      refine ob_ishl d_Row_number_16 ?_
      refine ob_iload d_Row_number_17 rfl ?_
      refine ob_if_lt d_Row_number_19 (fun hc => ?_) (fun hc => ?_)
      · replace h := ob_ift hc h
        refine ob_push d_Row_number_41 ?_
        refine ob_ior d_Row_number_42 ?_
        refine ob_istore (lo2 := [(0, .ref v0), (1, .int v1), (2, .int v2), (3, .int ((v3 <<< ((8 : Int32) &&& 31)) ||| (0 : Int32))), (4, .int v4)]) d_Row_number_43 rfl ?_
        refine ob_iinc (lo2 := [(0, .ref v0), (1, .int v1), (2, .int v2), (3, .int ((v3 <<< ((8 : Int32) &&& 31)) ||| (0 : Int32))), (4, .int (v4 + (1 : Int32)))]) d_Row_number_44 rfl rfl ?_
        refine ob_goto d_Row_number_47 ?_
        exact ih v0 v1 v2 ((v3 <<< ((8 : Int32) &&& 31)) ||| (0 : Int32)) (v4 + (1 : Int32)) D hp_v0 h
      · replace h := ob_iff hc h
        refine ob_iload d_Row_number_22 rfl ?_
        refine ob_aload d_Row_number_24 rfl ?_
        refine ob_getI d_Row_number_25 F_1_1 l_Row_13 hp_v0 ?_
        refine ob_icmp_ge d_Row_number_28 (fun hc => ?_) (fun hc => ?_)
        · replace h := ob_ift hc h
          refine ob_push d_Row_number_41 ?_
          refine ob_ior d_Row_number_42 ?_
          refine ob_istore (lo2 := [(0, .ref v0), (1, .int v1), (2, .int v2), (3, .int ((v3 <<< ((8 : Int32) &&& 31)) ||| (0 : Int32))), (4, .int v4)]) d_Row_number_43 rfl ?_
          refine ob_iinc (lo2 := [(0, .ref v0), (1, .int v1), (2, .int v2), (3, .int ((v3 <<< ((8 : Int32) &&& 31)) ||| (0 : Int32))), (4, .int (v4 + (1 : Int32)))]) d_Row_number_44 rfl rfl ?_
          refine ob_goto d_Row_number_47 ?_
          exact ih v0 v1 v2 ((v3 <<< ((8 : Int32) &&& 31)) ||| (0 : Int32)) (v4 + (1 : Int32)) D hp_v0 h
        · replace h := ob_iff hc h
          refine ob_aload d_Row_number_31 rfl ?_
          obtain ⟨hg2, h⟩ := ob_gd h
          refine ob_getR d_Row_number_32 F_1_0 l_Row_7 hp_v0 hg2 (fun hk1 => ?_)
          refine ob_iload d_Row_number_35 rfl ?_
          obtain ⟨hg3, h⟩ := ob_gd h
          refine ob_iald d_Row_number_37 hk1 hg3 ?_
          refine ob_goto d_Row_number_38 ?_
          refine ob_ior d_Row_number_42 ?_
          refine ob_istore (lo2 := [(0, .ref v0), (1, .int v1), (2, .int v2), (3, .int ((v3 <<< ((8 : Int32) &&& 31)) ||| (D.1 (D.2.1 v0 0) v4.toNatClampNeg))), (4, .int v4)]) d_Row_number_43 rfl ?_
          refine ob_iinc (lo2 := [(0, .ref v0), (1, .int v1), (2, .int v2), (3, .int ((v3 <<< ((8 : Int32) &&& 31)) ||| (D.1 (D.2.1 v0 0) v4.toNatClampNeg))), (4, .int (v4 + (1 : Int32)))]) d_Row_number_44 rfl rfl ?_
          refine ob_goto d_Row_number_47 ?_
          exact ih v0 v1 v2 ((v3 <<< ((8 : Int32) &&& 31)) ||| (D.1 (D.2.1 v0 0) v4.toNatClampNeg)) (v4 + (1 : Int32)) D hp_v0 h
def f_Row_number (S : ob_S) (v0 : Nat) (v1 : Int32) (v2 : Int32) (D : ob_D) : Option (Int32 × ob_D) :=
  f_Row_number_L5 S ob_FU v0 v1 v2 (0 : Int32) v1 D
theorem c_Row_number {l : Launch} {E : ob_E} {S : ob_S} {D : ob_D} {v0 : Nat} {v1 : Int32} {v2 : Int32} {r : Int32} {D' : ob_D} (hp_v0 : S.1 v0 = 2) (h : f_Row_number S v0 v1 v2 D = some (r, D')) : ob_M l E k_Row_number [.ref v0, .int v1, .int v2] S D (some (.int r)) S D' := by
  refine ob_ofV (lo := [(0, .ref v0), (1, .int v1), (2, .int v2)]) (by decide) rfl (Nat.le_of_ble_eq_true rfl) rfl (Nat.le_refl _) (Nat.le_refl _) ?_
  rw [f_Row_number] at h
  refine ob_push d_Row_number_0 ?_
  refine ob_istore (lo2 := [(0, .ref v0), (1, .int v1), (2, .int v2), (3, .int (0 : Int32))]) d_Row_number_1 rfl ?_
  refine ob_iload d_Row_number_2 rfl ?_
  refine ob_istore (lo2 := [(0, .ref v0), (1, .int v1), (2, .int v2), (3, .int (0 : Int32)), (4, .int v1)]) d_Row_number_3 rfl ?_
  exact v_Row_number_L5 ob_FU v0 v1 v2 (0 : Int32) v1 D hp_v0 h
-- java/lang/Integer.bitCount(I)I
theorem d_Integer_bitCount_2 : ob_dk k_Integer_bitCount 2 3 (1 : Int32) (.iconst 1) 1 := ⟨by decide +kernel, rfl, show Int32.ofInt 1 = (1 : Int32) by decide +kernel⟩
theorem d_Integer_bitCount_16 : ob_dk k_Integer_bitCount 16 17 (2 : Int32) (.iconst 2) 1 := ⟨by decide +kernel, rfl, show Int32.ofInt 2 = (2 : Int32) by decide +kernel⟩
theorem d_Integer_bitCount_26 : ob_dk k_Integer_bitCount 26 27 (4 : Int32) (.iconst 4) 1 := ⟨by decide +kernel, rfl, show Int32.ofInt 4 = (4 : Int32) by decide +kernel⟩
theorem d_Integer_bitCount_36 : ob_dk k_Integer_bitCount 36 38 (8 : Int32) (.bipush 8) 2 := ⟨by decide +kernel, rfl, show (Int8.ofInt 8).toInt32 = (8 : Int32) by decide +kernel⟩
theorem d_Integer_bitCount_43 : ob_dk k_Integer_bitCount 43 45 (16 : Int32) (.bipush 16) 2 := ⟨by decide +kernel, rfl, show (Int8.ofInt 16).toInt32 = (16 : Int32) by decide +kernel⟩
theorem d_Integer_bitCount_49 : ob_dk k_Integer_bitCount 49 51 (63 : Int32) (.bipush 63) 2 := ⟨by decide +kernel, rfl, show (Int8.ofInt 63).toInt32 = (63 : Int32) by decide +kernel⟩
theorem d_Integer_bitCount_52 : ob_dc k_Integer_bitCount 52 (.ireturn) 1 53 := ⟨by decide +kernel, rfl⟩
theorem d_Integer_bitCount_51 : ob_dc k_Integer_bitCount 51 (.iand) 1 52 := ⟨by decide +kernel, rfl⟩
theorem d_Integer_bitCount_48 : ob_dv ob_lc k_Integer_bitCount 48 49 0 (.iload_n 0) 1 := ⟨by decide +kernel, rfl, rfl⟩
theorem d_Integer_bitCount_47 : ob_dv (ob_sc k_Integer_bitCount.2.2.2.1) k_Integer_bitCount 47 48 0 (.istore_n 0) 1 := ⟨by decide +kernel, rfl, ⟨rfl, by decide +kernel⟩⟩
theorem d_Integer_bitCount_46 : ob_dc k_Integer_bitCount 46 (.iadd) 1 47 := ⟨by decide +kernel, rfl⟩
theorem d_Integer_bitCount_45 : ob_dc k_Integer_bitCount 45 (.iushr) 1 46 := ⟨by decide +kernel, rfl⟩
theorem d_Integer_bitCount_42 : ob_dv ob_lc k_Integer_bitCount 42 43 0 (.iload_n 0) 1 := ⟨by decide +kernel, rfl, rfl⟩
theorem d_Integer_bitCount_41 : ob_dv ob_lc k_Integer_bitCount 41 42 0 (.iload_n 0) 1 := ⟨by decide +kernel, rfl, rfl⟩
theorem d_Integer_bitCount_40 : ob_dv (ob_sc k_Integer_bitCount.2.2.2.1) k_Integer_bitCount 40 41 0 (.istore_n 0) 1 := ⟨by decide +kernel, rfl, ⟨rfl, by decide +kernel⟩⟩
theorem d_Integer_bitCount_39 : ob_dc k_Integer_bitCount 39 (.iadd) 1 40 := ⟨by decide +kernel, rfl⟩
theorem d_Integer_bitCount_38 : ob_dc k_Integer_bitCount 38 (.iushr) 1 39 := ⟨by decide +kernel, rfl⟩
theorem d_Integer_bitCount_35 : ob_dv ob_lc k_Integer_bitCount 35 36 0 (.iload_n 0) 1 := ⟨by decide +kernel, rfl, rfl⟩
theorem d_Integer_bitCount_34 : ob_dv ob_lc k_Integer_bitCount 34 35 0 (.iload_n 0) 1 := ⟨by decide +kernel, rfl, rfl⟩
theorem d_Integer_bitCount_33 : ob_dv (ob_sc k_Integer_bitCount.2.2.2.1) k_Integer_bitCount 33 34 0 (.istore_n 0) 1 := ⟨by decide +kernel, rfl, ⟨rfl, by decide +kernel⟩⟩
theorem d_Integer_bitCount_32 : ob_dc k_Integer_bitCount 32 (.iand) 1 33 := ⟨by decide +kernel, rfl⟩
theorem d_Integer_bitCount_29 : ob_dc k_Integer_bitCount 29 (.ldc_w 267) 3 32 := ⟨by decide +kernel, rfl⟩
theorem d_Integer_bitCount_28 : ob_dc k_Integer_bitCount 28 (.iadd) 1 29 := ⟨by decide +kernel, rfl⟩
theorem d_Integer_bitCount_27 : ob_dc k_Integer_bitCount 27 (.iushr) 1 28 := ⟨by decide +kernel, rfl⟩
theorem d_Integer_bitCount_25 : ob_dv ob_lc k_Integer_bitCount 25 26 0 (.iload_n 0) 1 := ⟨by decide +kernel, rfl, rfl⟩
theorem d_Integer_bitCount_24 : ob_dv ob_lc k_Integer_bitCount 24 25 0 (.iload_n 0) 1 := ⟨by decide +kernel, rfl, rfl⟩
theorem d_Integer_bitCount_23 : ob_dv (ob_sc k_Integer_bitCount.2.2.2.1) k_Integer_bitCount 23 24 0 (.istore_n 0) 1 := ⟨by decide +kernel, rfl, ⟨rfl, by decide +kernel⟩⟩
theorem d_Integer_bitCount_22 : ob_dc k_Integer_bitCount 22 (.iadd) 1 23 := ⟨by decide +kernel, rfl⟩
theorem d_Integer_bitCount_21 : ob_dc k_Integer_bitCount 21 (.iand) 1 22 := ⟨by decide +kernel, rfl⟩
theorem d_Integer_bitCount_18 : ob_dc k_Integer_bitCount 18 (.ldc_w 266) 3 21 := ⟨by decide +kernel, rfl⟩
theorem d_Integer_bitCount_17 : ob_dc k_Integer_bitCount 17 (.iushr) 1 18 := ⟨by decide +kernel, rfl⟩
theorem d_Integer_bitCount_15 : ob_dv ob_lc k_Integer_bitCount 15 16 0 (.iload_n 0) 1 := ⟨by decide +kernel, rfl, rfl⟩
theorem d_Integer_bitCount_14 : ob_dc k_Integer_bitCount 14 (.iand) 1 15 := ⟨by decide +kernel, rfl⟩
theorem d_Integer_bitCount_11 : ob_dc k_Integer_bitCount 11 (.ldc_w 266) 3 14 := ⟨by decide +kernel, rfl⟩
theorem d_Integer_bitCount_10 : ob_dv ob_lc k_Integer_bitCount 10 11 0 (.iload_n 0) 1 := ⟨by decide +kernel, rfl, rfl⟩
theorem d_Integer_bitCount_9 : ob_dv (ob_sc k_Integer_bitCount.2.2.2.1) k_Integer_bitCount 9 10 0 (.istore_n 0) 1 := ⟨by decide +kernel, rfl, ⟨rfl, by decide +kernel⟩⟩
theorem d_Integer_bitCount_8 : ob_dc k_Integer_bitCount 8 (.isub) 1 9 := ⟨by decide +kernel, rfl⟩
theorem d_Integer_bitCount_7 : ob_dc k_Integer_bitCount 7 (.iand) 1 8 := ⟨by decide +kernel, rfl⟩
theorem d_Integer_bitCount_4 : ob_dc k_Integer_bitCount 4 (.ldc_w 265) 3 7 := ⟨by decide +kernel, rfl⟩
theorem d_Integer_bitCount_3 : ob_dc k_Integer_bitCount 3 (.iushr) 1 4 := ⟨by decide +kernel, rfl⟩
theorem d_Integer_bitCount_1 : ob_dv ob_lc k_Integer_bitCount 1 2 0 (.iload_n 0) 1 := ⟨by decide +kernel, rfl, rfl⟩
theorem d_Integer_bitCount_0 : ob_dv ob_lc k_Integer_bitCount 0 1 0 (.iload_n 0) 1 := ⟨by decide +kernel, rfl, rfl⟩
def f_Integer_bitCount (S : ob_S) (v0 : Int32) (D : ob_D) : Option (Int32 × ob_D) :=
  ob_lt (v0 - (((v0.toUInt32 >>> ((1 : Int32).toUInt32 &&& Int32.toUInt32 31)).toInt32) &&& (1431655765 : Int32))) fun x1 => ob_lt ((x1 &&& (858993459 : Int32)) + (((x1.toUInt32 >>> ((2 : Int32).toUInt32 &&& Int32.toUInt32 31)).toInt32) &&& (858993459 : Int32))) fun x2 => ob_lt ((x2 + ((x2.toUInt32 >>> ((4 : Int32).toUInt32 &&& Int32.toUInt32 31)).toInt32)) &&& (252645135 : Int32)) fun x3 => ob_lt (x3 + ((x3.toUInt32 >>> ((8 : Int32).toUInt32 &&& Int32.toUInt32 31)).toInt32)) fun x4 => ob_lt (x4 + ((x4.toUInt32 >>> ((16 : Int32).toUInt32 &&& Int32.toUInt32 31)).toInt32)) fun x5 => some (x5 &&& (63 : Int32), D)
theorem c_Integer_bitCount {l : Launch} {E : ob_E} {S : ob_S} {D : ob_D} {v0 : Int32} {r : Int32} {D' : ob_D}  (h : f_Integer_bitCount S v0 D = some (r, D')) : ob_M l E k_Integer_bitCount [.int v0] S D (some (.int r)) S D' := by
  refine ob_ofV (lo := [(0, .int v0)]) (by decide) rfl (Nat.le_of_ble_eq_true rfl) rfl (Nat.le_refl _) (Nat.le_refl _) ?_
  rw [f_Integer_bitCount] at h
  refine ob_iload d_Integer_bitCount_0 rfl ?_
  refine ob_iload d_Integer_bitCount_1 rfl ?_
  refine ob_push d_Integer_bitCount_2 ?_
  refine ob_iushr d_Integer_bitCount_3 ?_
  refine ob_ldc (idx := 265) d_Integer_bitCount_4 (Or.inr ⟨rfl, rfl⟩) w_513 ?_
  refine ob_iand d_Integer_bitCount_7 ?_
  refine ob_isub d_Integer_bitCount_8 ?_
  replace h := ob_lt_e h
  refine ob_istore (lo2 := [(0, .int (v0 - (((v0.toUInt32 >>> ((1 : Int32).toUInt32 &&& Int32.toUInt32 31)).toInt32) &&& (1431655765 : Int32))))]) d_Integer_bitCount_9 rfl ?_
  refine ob_iload d_Integer_bitCount_10 rfl ?_
  refine ob_ldc (idx := 266) d_Integer_bitCount_11 (Or.inr ⟨rfl, rfl⟩) w_514 ?_
  refine ob_iand d_Integer_bitCount_14 ?_
  refine ob_iload d_Integer_bitCount_15 rfl ?_
  refine ob_push d_Integer_bitCount_16 ?_
  refine ob_iushr d_Integer_bitCount_17 ?_
  refine ob_ldc (idx := 266) d_Integer_bitCount_18 (Or.inr ⟨rfl, rfl⟩) w_514 ?_
  refine ob_iand d_Integer_bitCount_21 ?_
  refine ob_iadd d_Integer_bitCount_22 ?_
  replace h := ob_lt_e h
  refine ob_istore (lo2 := [(0, .int (((v0 - (((v0.toUInt32 >>> ((1 : Int32).toUInt32 &&& Int32.toUInt32 31)).toInt32) &&& (1431655765 : Int32))) &&& (858993459 : Int32)) + ((((v0 - (((v0.toUInt32 >>> ((1 : Int32).toUInt32 &&& Int32.toUInt32 31)).toInt32) &&& (1431655765 : Int32))).toUInt32 >>> ((2 : Int32).toUInt32 &&& Int32.toUInt32 31)).toInt32) &&& (858993459 : Int32))))]) d_Integer_bitCount_23 rfl ?_
  refine ob_iload d_Integer_bitCount_24 rfl ?_
  refine ob_iload d_Integer_bitCount_25 rfl ?_
  refine ob_push d_Integer_bitCount_26 ?_
  refine ob_iushr d_Integer_bitCount_27 ?_
  refine ob_iadd d_Integer_bitCount_28 ?_
  refine ob_ldc (idx := 267) d_Integer_bitCount_29 (Or.inr ⟨rfl, rfl⟩) w_515 ?_
  refine ob_iand d_Integer_bitCount_32 ?_
  replace h := ob_lt_e h
  refine ob_istore (lo2 := [(0, .int (((((v0 - (((v0.toUInt32 >>> ((1 : Int32).toUInt32 &&& Int32.toUInt32 31)).toInt32) &&& (1431655765 : Int32))) &&& (858993459 : Int32)) + ((((v0 - (((v0.toUInt32 >>> ((1 : Int32).toUInt32 &&& Int32.toUInt32 31)).toInt32) &&& (1431655765 : Int32))).toUInt32 >>> ((2 : Int32).toUInt32 &&& Int32.toUInt32 31)).toInt32) &&& (858993459 : Int32))) + (((((v0 - (((v0.toUInt32 >>> ((1 : Int32).toUInt32 &&& Int32.toUInt32 31)).toInt32) &&& (1431655765 : Int32))) &&& (858993459 : Int32)) + ((((v0 - (((v0.toUInt32 >>> ((1 : Int32).toUInt32 &&& Int32.toUInt32 31)).toInt32) &&& (1431655765 : Int32))).toUInt32 >>> ((2 : Int32).toUInt32 &&& Int32.toUInt32 31)).toInt32) &&& (858993459 : Int32))).toUInt32 >>> ((4 : Int32).toUInt32 &&& Int32.toUInt32 31)).toInt32)) &&& (252645135 : Int32)))]) d_Integer_bitCount_33 rfl ?_
  refine ob_iload d_Integer_bitCount_34 rfl ?_
  refine ob_iload d_Integer_bitCount_35 rfl ?_
  refine ob_push d_Integer_bitCount_36 ?_
  refine ob_iushr d_Integer_bitCount_38 ?_
  refine ob_iadd d_Integer_bitCount_39 ?_
  replace h := ob_lt_e h
  refine ob_istore (lo2 := [(0, .int ((((((v0 - (((v0.toUInt32 >>> ((1 : Int32).toUInt32 &&& Int32.toUInt32 31)).toInt32) &&& (1431655765 : Int32))) &&& (858993459 : Int32)) + ((((v0 - (((v0.toUInt32 >>> ((1 : Int32).toUInt32 &&& Int32.toUInt32 31)).toInt32) &&& (1431655765 : Int32))).toUInt32 >>> ((2 : Int32).toUInt32 &&& Int32.toUInt32 31)).toInt32) &&& (858993459 : Int32))) + (((((v0 - (((v0.toUInt32 >>> ((1 : Int32).toUInt32 &&& Int32.toUInt32 31)).toInt32) &&& (1431655765 : Int32))) &&& (858993459 : Int32)) + ((((v0 - (((v0.toUInt32 >>> ((1 : Int32).toUInt32 &&& Int32.toUInt32 31)).toInt32) &&& (1431655765 : Int32))).toUInt32 >>> ((2 : Int32).toUInt32 &&& Int32.toUInt32 31)).toInt32) &&& (858993459 : Int32))).toUInt32 >>> ((4 : Int32).toUInt32 &&& Int32.toUInt32 31)).toInt32)) &&& (252645135 : Int32)) + (((((((v0 - (((v0.toUInt32 >>> ((1 : Int32).toUInt32 &&& Int32.toUInt32 31)).toInt32) &&& (1431655765 : Int32))) &&& (858993459 : Int32)) + ((((v0 - (((v0.toUInt32 >>> ((1 : Int32).toUInt32 &&& Int32.toUInt32 31)).toInt32) &&& (1431655765 : Int32))).toUInt32 >>> ((2 : Int32).toUInt32 &&& Int32.toUInt32 31)).toInt32) &&& (858993459 : Int32))) + (((((v0 - (((v0.toUInt32 >>> ((1 : Int32).toUInt32 &&& Int32.toUInt32 31)).toInt32) &&& (1431655765 : Int32))) &&& (858993459 : Int32)) + ((((v0 - (((v0.toUInt32 >>> ((1 : Int32).toUInt32 &&& Int32.toUInt32 31)).toInt32) &&& (1431655765 : Int32))).toUInt32 >>> ((2 : Int32).toUInt32 &&& Int32.toUInt32 31)).toInt32) &&& (858993459 : Int32))).toUInt32 >>> ((4 : Int32).toUInt32 &&& Int32.toUInt32 31)).toInt32)) &&& (252645135 : Int32)).toUInt32 >>> ((8 : Int32).toUInt32 &&& Int32.toUInt32 31)).toInt32)))]) d_Integer_bitCount_40 rfl ?_
  refine ob_iload d_Integer_bitCount_41 rfl ?_
  refine ob_iload d_Integer_bitCount_42 rfl ?_
  refine ob_push d_Integer_bitCount_43 ?_
  refine ob_iushr d_Integer_bitCount_45 ?_
  refine ob_iadd d_Integer_bitCount_46 ?_
  replace h := ob_lt_e h
  refine ob_istore (lo2 := [(0, .int (((((((v0 - (((v0.toUInt32 >>> ((1 : Int32).toUInt32 &&& Int32.toUInt32 31)).toInt32) &&& (1431655765 : Int32))) &&& (858993459 : Int32)) + ((((v0 - (((v0.toUInt32 >>> ((1 : Int32).toUInt32 &&& Int32.toUInt32 31)).toInt32) &&& (1431655765 : Int32))).toUInt32 >>> ((2 : Int32).toUInt32 &&& Int32.toUInt32 31)).toInt32) &&& (858993459 : Int32))) + (((((v0 - (((v0.toUInt32 >>> ((1 : Int32).toUInt32 &&& Int32.toUInt32 31)).toInt32) &&& (1431655765 : Int32))) &&& (858993459 : Int32)) + ((((v0 - (((v0.toUInt32 >>> ((1 : Int32).toUInt32 &&& Int32.toUInt32 31)).toInt32) &&& (1431655765 : Int32))).toUInt32 >>> ((2 : Int32).toUInt32 &&& Int32.toUInt32 31)).toInt32) &&& (858993459 : Int32))).toUInt32 >>> ((4 : Int32).toUInt32 &&& Int32.toUInt32 31)).toInt32)) &&& (252645135 : Int32)) + (((((((v0 - (((v0.toUInt32 >>> ((1 : Int32).toUInt32 &&& Int32.toUInt32 31)).toInt32) &&& (1431655765 : Int32))) &&& (858993459 : Int32)) + ((((v0 - (((v0.toUInt32 >>> ((1 : Int32).toUInt32 &&& Int32.toUInt32 31)).toInt32) &&& (1431655765 : Int32))).toUInt32 >>> ((2 : Int32).toUInt32 &&& Int32.toUInt32 31)).toInt32) &&& (858993459 : Int32))) + (((((v0 - (((v0.toUInt32 >>> ((1 : Int32).toUInt32 &&& Int32.toUInt32 31)).toInt32) &&& (1431655765 : Int32))) &&& (858993459 : Int32)) + ((((v0 - (((v0.toUInt32 >>> ((1 : Int32).toUInt32 &&& Int32.toUInt32 31)).toInt32) &&& (1431655765 : Int32))).toUInt32 >>> ((2 : Int32).toUInt32 &&& Int32.toUInt32 31)).toInt32) &&& (858993459 : Int32))).toUInt32 >>> ((4 : Int32).toUInt32 &&& Int32.toUInt32 31)).toInt32)) &&& (252645135 : Int32)).toUInt32 >>> ((8 : Int32).toUInt32 &&& Int32.toUInt32 31)).toInt32)) + ((((((((v0 - (((v0.toUInt32 >>> ((1 : Int32).toUInt32 &&& Int32.toUInt32 31)).toInt32) &&& (1431655765 : Int32))) &&& (858993459 : Int32)) + ((((v0 - (((v0.toUInt32 >>> ((1 : Int32).toUInt32 &&& Int32.toUInt32 31)).toInt32) &&& (1431655765 : Int32))).toUInt32 >>> ((2 : Int32).toUInt32 &&& Int32.toUInt32 31)).toInt32) &&& (858993459 : Int32))) + (((((v0 - (((v0.toUInt32 >>> ((1 : Int32).toUInt32 &&& Int32.toUInt32 31)).toInt32) &&& (1431655765 : Int32))) &&& (858993459 : Int32)) + ((((v0 - (((v0.toUInt32 >>> ((1 : Int32).toUInt32 &&& Int32.toUInt32 31)).toInt32) &&& (1431655765 : Int32))).toUInt32 >>> ((2 : Int32).toUInt32 &&& Int32.toUInt32 31)).toInt32) &&& (858993459 : Int32))).toUInt32 >>> ((4 : Int32).toUInt32 &&& Int32.toUInt32 31)).toInt32)) &&& (252645135 : Int32)) + (((((((v0 - (((v0.toUInt32 >>> ((1 : Int32).toUInt32 &&& Int32.toUInt32 31)).toInt32) &&& (1431655765 : Int32))) &&& (858993459 : Int32)) + ((((v0 - (((v0.toUInt32 >>> ((1 : Int32).toUInt32 &&& Int32.toUInt32 31)).toInt32) &&& (1431655765 : Int32))).toUInt32 >>> ((2 : Int32).toUInt32 &&& Int32.toUInt32 31)).toInt32) &&& (858993459 : Int32))) + (((((v0 - (((v0.toUInt32 >>> ((1 : Int32).toUInt32 &&& Int32.toUInt32 31)).toInt32) &&& (1431655765 : Int32))) &&& (858993459 : Int32)) + ((((v0 - (((v0.toUInt32 >>> ((1 : Int32).toUInt32 &&& Int32.toUInt32 31)).toInt32) &&& (1431655765 : Int32))).toUInt32 >>> ((2 : Int32).toUInt32 &&& Int32.toUInt32 31)).toInt32) &&& (858993459 : Int32))).toUInt32 >>> ((4 : Int32).toUInt32 &&& Int32.toUInt32 31)).toInt32)) &&& (252645135 : Int32)).toUInt32 >>> ((8 : Int32).toUInt32 &&& Int32.toUInt32 31)).toInt32)).toUInt32 >>> ((16 : Int32).toUInt32 &&& Int32.toUInt32 31)).toInt32)))]) d_Integer_bitCount_47 rfl ?_
  refine ob_iload d_Integer_bitCount_48 rfl ?_
  refine ob_push d_Integer_bitCount_49 ?_
  refine ob_iand d_Integer_bitCount_51 ?_
  exact ob_ie h (ob_iret d_Integer_bitCount_52 rfl rfl)
-- OrbitBox$Row.check(II)I
theorem d_Row_check_84 : ob_dc k_Row_check 84 (.ireturn) 1 85 := ⟨by decide +kernel, rfl⟩
theorem d_Row_check_83 : ob_dv ob_lc k_Row_check 83 84 3 (.iload_n 3) 1 := ⟨by decide +kernel, rfl, rfl⟩
theorem d_Row_check_15 : ob_dk k_Row_check 15 17 (8 : Int32) (.bipush 8) 2 := ⟨by decide +kernel, rfl, show (Int8.ofInt 8).toInt32 = (8 : Int32) by decide +kernel⟩
theorem d_Row_check_42 : ob_dk k_Row_check 42 43 (0 : Int32) (.iconst 0) 1 := ⟨by decide +kernel, rfl, show Int32.ofInt 0 = (0 : Int32) by decide +kernel⟩
theorem d_Row_check_50 : ob_dk k_Row_check 50 51 (4 : Int32) (.iconst 4) 1 := ⟨by decide +kernel, rfl, show Int32.ofInt 4 = (4 : Int32) by decide +kernel⟩
theorem d_Row_check_56 : ob_dk k_Row_check 56 58 (8 : Int32) (.bipush 8) 2 := ⟨by decide +kernel, rfl, show (Int8.ofInt 8).toInt32 = (8 : Int32) by decide +kernel⟩
theorem d_Row_check_61 : ob_dk k_Row_check 61 63 (12 : Int32) (.bipush 12) 2 := ⟨by decide +kernel, rfl, show (Int8.ofInt 12).toInt32 = (12 : Int32) by decide +kernel⟩
theorem d_Row_check_67 : ob_dk k_Row_check 67 68 (5 : Int32) (.iconst 5) 1 := ⟨by decide +kernel, rfl, show Int32.ofInt 5 = (5 : Int32) by decide +kernel⟩
theorem d_Row_check_77 : ob_di k_Row_check 77 80 4 1 (1 : Int32) := ⟨by decide +kernel, rfl, by decide +kernel, by decide +kernel⟩
theorem d_Row_check_80 : ob_db k_Row_check 80 (.goto (-74)) (-74) 83 6 := ⟨by decide +kernel, rfl, by decide⟩
theorem d_Row_check_76 : ob_dv (ob_sc k_Row_check.2.2.2.1) k_Row_check 76 77 3 (.istore_n 3) 1 := ⟨by decide +kernel, rfl, ⟨rfl, by decide +kernel⟩⟩
theorem d_Row_check_75 : ob_dc k_Row_check 75 (.iand) 1 76 := ⟨by decide +kernel, rfl⟩
theorem d_Row_check_73 : ob_dc k_Row_check 73 (.ldc 21) 2 75 := ⟨by decide +kernel, rfl⟩
theorem d_Row_check_72 : ob_dc k_Row_check 72 (.ixor) 1 73 := ⟨by decide +kernel, rfl⟩
theorem d_Row_check_70 : ob_dv ob_lc k_Row_check 70 72 5 (.iload 5) 2 := ⟨by decide +kernel, rfl, rfl⟩
theorem d_Row_check_69 : ob_dc k_Row_check 69 (.ixor) 1 70 := ⟨by decide +kernel, rfl⟩
theorem d_Row_check_68 : ob_dc k_Row_check 68 (.ishl) 1 69 := ⟨by decide +kernel, rfl⟩
theorem d_Row_check_65 : ob_dv ob_lc k_Row_check 65 67 5 (.iload 5) 2 := ⟨by decide +kernel, rfl, rfl⟩
theorem d_Row_check_64 : ob_dc k_Row_check 64 (.ixor) 1 65 := ⟨by decide +kernel, rfl⟩
theorem d_Row_check_63 : ob_dc k_Row_check 63 (.ishl) 1 64 := ⟨by decide +kernel, rfl⟩
theorem d_Row_check_59 : ob_dv ob_lc k_Row_check 59 61 5 (.iload 5) 2 := ⟨by decide +kernel, rfl, rfl⟩
theorem d_Row_check_58 : ob_dc k_Row_check 58 (.ishl) 1 59 := ⟨by decide +kernel, rfl⟩
theorem d_Row_check_55 : ob_dv ob_lc k_Row_check 55 56 3 (.iload_n 3) 1 := ⟨by decide +kernel, rfl, rfl⟩
theorem d_Row_check_53 : ob_dv (ob_sc k_Row_check.2.2.2.1) k_Row_check 53 55 5 (.istore 5) 2 := ⟨by decide +kernel, rfl, ⟨rfl, by decide +kernel⟩⟩
theorem d_Row_check_52 : ob_dc k_Row_check 52 (.ixor) 1 53 := ⟨by decide +kernel, rfl⟩
theorem d_Row_check_51 : ob_dc k_Row_check 51 (.iushr) 1 52 := ⟨by decide +kernel, rfl⟩
theorem d_Row_check_48 : ob_dv ob_lc k_Row_check 48 50 5 (.iload 5) 2 := ⟨by decide +kernel, rfl, rfl⟩
theorem d_Row_check_46 : ob_dv ob_lc k_Row_check 46 48 5 (.iload 5) 2 := ⟨by decide +kernel, rfl, rfl⟩
theorem d_Row_check_44 : ob_dv (ob_sc k_Row_check.2.2.2.1) k_Row_check 44 46 5 (.istore 5) 2 := ⟨by decide +kernel, rfl, ⟨rfl, by decide +kernel⟩⟩
theorem d_Row_check_43 : ob_dc k_Row_check 43 (.ixor) 1 44 := ⟨by decide +kernel, rfl⟩
theorem d_Row_check_39 : ob_db k_Row_check 39 (.goto 4) 4 42 43 := ⟨by decide +kernel, rfl, by decide⟩
theorem d_Row_check_38 : ob_dc k_Row_check 38 (.iaload) 1 39 := ⟨by decide +kernel, rfl⟩
theorem d_Row_check_36 : ob_dv ob_lc k_Row_check 36 38 4 (.iload 4) 2 := ⟨by decide +kernel, rfl, rfl⟩
theorem d_Row_check_33 : ob_dc k_Row_check 33 (.getfield 7) 3 36 := ⟨by decide +kernel, rfl⟩
theorem d_Row_check_32 : ob_dv ob_ac k_Row_check 32 33 0 (.aload_n 0) 1 := ⟨by decide +kernel, rfl, rfl⟩
theorem d_Row_check_29 : ob_db k_Row_check 29 (.if_icmp .ge 13) 13 32 42 := ⟨by decide +kernel, rfl, by decide⟩
theorem d_Row_check_26 : ob_dc k_Row_check 26 (.getfield 13) 3 29 := ⟨by decide +kernel, rfl⟩
theorem d_Row_check_25 : ob_dv ob_ac k_Row_check 25 26 0 (.aload_n 0) 1 := ⟨by decide +kernel, rfl, rfl⟩
theorem d_Row_check_23 : ob_dv ob_lc k_Row_check 23 25 4 (.iload 4) 2 := ⟨by decide +kernel, rfl, rfl⟩
theorem d_Row_check_20 : ob_db k_Row_check 20 (.ifCond .lt 22) 22 23 42 := ⟨by decide +kernel, rfl, by decide⟩
theorem d_Row_check_18 : ob_dv ob_lc k_Row_check 18 20 4 (.iload 4) 2 := ⟨by decide +kernel, rfl, rfl⟩
theorem d_Row_check_17 : ob_dc k_Row_check 17 (.iushr) 1 18 := ⟨by decide +kernel, rfl⟩
theorem d_Row_check_14 : ob_dv ob_lc k_Row_check 14 15 3 (.iload_n 3) 1 := ⟨by decide +kernel, rfl, rfl⟩
theorem d_Row_check_11 : ob_db k_Row_check 11 (.if_icmp .ge 72) 72 14 83 := ⟨by decide +kernel, rfl, by decide⟩
theorem d_Row_check_10 : ob_dc k_Row_check 10 (.iadd) 1 11 := ⟨by decide +kernel, rfl⟩
theorem d_Row_check_9 : ob_dv ob_lc k_Row_check 9 10 2 (.iload_n 2) 1 := ⟨by decide +kernel, rfl, rfl⟩
theorem d_Row_check_8 : ob_dv ob_lc k_Row_check 8 9 1 (.iload_n 1) 1 := ⟨by decide +kernel, rfl, rfl⟩
theorem d_Row_check_6 : ob_dv ob_lc k_Row_check 6 8 4 (.iload 4) 2 := ⟨by decide +kernel, rfl, rfl⟩
theorem d_Row_check_4 : ob_dv (ob_sc k_Row_check.2.2.2.1) k_Row_check 4 6 4 (.istore 4) 2 := ⟨by decide +kernel, rfl, ⟨rfl, by decide +kernel⟩⟩
theorem d_Row_check_3 : ob_dv ob_lc k_Row_check 3 4 1 (.iload_n 1) 1 := ⟨by decide +kernel, rfl, rfl⟩
theorem d_Row_check_2 : ob_dv (ob_sc k_Row_check.2.2.2.1) k_Row_check 2 3 3 (.istore_n 3) 1 := ⟨by decide +kernel, rfl, ⟨rfl, by decide +kernel⟩⟩
theorem d_Row_check_0 : ob_dc k_Row_check 0 (.ldc 21) 2 2 := ⟨by decide +kernel, rfl⟩
def f_Row_check_L43 (S : ob_S) (k6 : Nat → Int32 → Int32 → Int32 → Int32 → ob_D → Option (Int32 × ob_D)) (v0 : Nat) (v1 : Int32) (v2 : Int32) (v3 : Int32) (v4 : Int32) (s0 : Int32) (s1 : Int32) (D : ob_D) : Option (Int32 × ob_D) :=
  ob_lt ((s1 ^^^ s0) ^^^ (((s1 ^^^ s0).toUInt32 >>> ((4 : Int32).toUInt32 &&& Int32.toUInt32 31)).toInt32)) fun x1 => ob_lt (((((v3 <<< ((8 : Int32) &&& 31)) ^^^ (x1 <<< ((12 : Int32) &&& 31))) ^^^ (x1 <<< ((5 : Int32) &&& 31))) ^^^ x1) &&& (65535 : Int32)) fun x2 => k6 v0 v1 v2 x2 (v4 + (1 : Int32)) D
theorem v_Row_check_L43 {l : Launch} {E : ob_E} {S : ob_S} {r : Int32} {D' : ob_D} {k6 : Nat → Int32 → Int32 → Int32 → Int32 → ob_D → Option (Int32 × ob_D)} (hk6 : ∀ (v0 : Nat) (v1 : Int32) (v2 : Int32) (v3 : Int32) (v4 : Int32) (D : ob_D), S.1 v0 = 2 → k6 v0 v1 v2 v3 v4 D = some (r, D') → ob_V l E k_Row_check 6 [(0, .ref v0), (1, .int v1), (2, .int v2), (3, .int v3), (4, .int v4)] [] S D (some (.int r)) S D') : ∀ (v0 : Nat) (v1 : Int32) (v2 : Int32) (v3 : Int32) (v4 : Int32) (s0 : Int32) (s1 : Int32) (D : ob_D), S.1 v0 = 2 → f_Row_check_L43 S k6 v0 v1 v2 v3 v4 s0 s1 D = some (r, D') → ob_V l E k_Row_check 43 [(0, .ref v0), (1, .int v1), (2, .int v2), (3, .int v3), (4, .int v4)] [.int s0, .int s1] S D (some (.int r)) S D' := by
  intro v0 v1 v2 v3 v4 s0 s1 D hp_v0 h
  rw [f_Row_check_L43] at h
  refine ob_ixor d_Row_check_43 ?_
  refine ob_istore (lo2 := [(0, .ref v0), (1, .int v1), (2, .int v2), (3, .int v3), (4, .int v4), (5, .int (s1 ^^^ s0))]) d_Row_check_44 rfl ?_
  refine ob_iload d_Row_check_46 rfl ?_
  refine ob_iload d_Row_check_48 rfl ?_
  refine ob_push d_Row_check_50 ?_
  refine ob_iushr d_Row_check_51 ?_
  refine ob_ixor d_Row_check_52 ?_
  replace h := ob_lt_e h
  refine ob_istore (lo2 := [(0, .ref v0), (1, .int v1), (2, .int v2), (3, .int v3), (4, .int v4), (5, .int ((s1 ^^^ s0) ^^^ (((s1 ^^^ s0).toUInt32 >>> ((4 : Int32).toUInt32 &&& Int32.toUInt32 31)).toInt32)))]) d_Row_check_53 rfl ?_
  refine ob_iload d_Row_check_55 rfl ?_
  refine ob_push d_Row_check_56 ?_
  refine ob_ishl d_Row_check_58 ?_
  refine ob_iload d_Row_check_59 rfl ?_
  refine ob_push d_Row_check_61 ?_
  refine ob_ishl d_Row_check_63 ?_
  refine ob_ixor d_Row_check_64 ?_
  refine ob_iload d_Row_check_65 rfl ?_
  refine ob_push d_Row_check_67 ?_
  refine ob_ishl d_Row_check_68 ?_
  refine ob_ixor d_Row_check_69 ?_
  refine ob_iload d_Row_check_70 rfl ?_
  refine ob_ixor d_Row_check_72 ?_
  refine ob_ldc (idx := 21) d_Row_check_73 (Or.inl ⟨rfl, rfl⟩) w_528 ?_
  refine ob_iand d_Row_check_75 ?_
  replace h := ob_lt_e h
  refine ob_istore (lo2 := [(0, .ref v0), (1, .int v1), (2, .int v2), (3, .int (((((v3 <<< ((8 : Int32) &&& 31)) ^^^ (((s1 ^^^ s0) ^^^ (((s1 ^^^ s0).toUInt32 >>> ((4 : Int32).toUInt32 &&& Int32.toUInt32 31)).toInt32)) <<< ((12 : Int32) &&& 31))) ^^^ (((s1 ^^^ s0) ^^^ (((s1 ^^^ s0).toUInt32 >>> ((4 : Int32).toUInt32 &&& Int32.toUInt32 31)).toInt32)) <<< ((5 : Int32) &&& 31))) ^^^ ((s1 ^^^ s0) ^^^ (((s1 ^^^ s0).toUInt32 >>> ((4 : Int32).toUInt32 &&& Int32.toUInt32 31)).toInt32))) &&& (65535 : Int32))), (4, .int v4), (5, .int ((s1 ^^^ s0) ^^^ (((s1 ^^^ s0).toUInt32 >>> ((4 : Int32).toUInt32 &&& Int32.toUInt32 31)).toInt32)))]) d_Row_check_76 rfl ?_
  refine ob_iinc (lo2 := [(0, .ref v0), (1, .int v1), (2, .int v2), (3, .int (((((v3 <<< ((8 : Int32) &&& 31)) ^^^ (((s1 ^^^ s0) ^^^ (((s1 ^^^ s0).toUInt32 >>> ((4 : Int32).toUInt32 &&& Int32.toUInt32 31)).toInt32)) <<< ((12 : Int32) &&& 31))) ^^^ (((s1 ^^^ s0) ^^^ (((s1 ^^^ s0).toUInt32 >>> ((4 : Int32).toUInt32 &&& Int32.toUInt32 31)).toInt32)) <<< ((5 : Int32) &&& 31))) ^^^ ((s1 ^^^ s0) ^^^ (((s1 ^^^ s0).toUInt32 >>> ((4 : Int32).toUInt32 &&& Int32.toUInt32 31)).toInt32))) &&& (65535 : Int32))), (4, .int (v4 + (1 : Int32))), (5, .int ((s1 ^^^ s0) ^^^ (((s1 ^^^ s0).toUInt32 >>> ((4 : Int32).toUInt32 &&& Int32.toUInt32 31)).toInt32)))]) d_Row_check_77 rfl rfl ?_
  refine ob_goto d_Row_check_80 ?_
  refine ob_sub (lo2 := [(0, .ref v0), (1, .int v1), (2, .int v2), (3, .int (((((v3 <<< ((8 : Int32) &&& 31)) ^^^ (((s1 ^^^ s0) ^^^ (((s1 ^^^ s0).toUInt32 >>> ((4 : Int32).toUInt32 &&& Int32.toUInt32 31)).toInt32)) <<< ((12 : Int32) &&& 31))) ^^^ (((s1 ^^^ s0) ^^^ (((s1 ^^^ s0).toUInt32 >>> ((4 : Int32).toUInt32 &&& Int32.toUInt32 31)).toInt32)) <<< ((5 : Int32) &&& 31))) ^^^ ((s1 ^^^ s0) ^^^ (((s1 ^^^ s0).toUInt32 >>> ((4 : Int32).toUInt32 &&& Int32.toUInt32 31)).toInt32))) &&& (65535 : Int32))), (4, .int (v4 + (1 : Int32)))]) [0, 1, 2, 3, 4] rfl ?_
  exact hk6 v0 v1 v2 (((((v3 <<< ((8 : Int32) &&& 31)) ^^^ (((s1 ^^^ s0) ^^^ (((s1 ^^^ s0).toUInt32 >>> ((4 : Int32).toUInt32 &&& Int32.toUInt32 31)).toInt32)) <<< ((12 : Int32) &&& 31))) ^^^ (((s1 ^^^ s0) ^^^ (((s1 ^^^ s0).toUInt32 >>> ((4 : Int32).toUInt32 &&& Int32.toUInt32 31)).toInt32)) <<< ((5 : Int32) &&& 31))) ^^^ ((s1 ^^^ s0) ^^^ (((s1 ^^^ s0).toUInt32 >>> ((4 : Int32).toUInt32 &&& Int32.toUInt32 31)).toInt32))) &&& (65535 : Int32)) (v4 + (1 : Int32)) D hp_v0 h
def f_Row_check_L6 (S : ob_S) : Nat → Nat → Int32 → Int32 → Int32 → Int32 → ob_D → Option (Int32 × ob_D)
  | 0, _, _, _, _, _, _ => none
  | n + 1, v0, v1, v2, v3, v4, D => (if (v1 + v2) ≤ v4 then some (v3, D) else (if v4 < 0 then f_Row_check_L43 S (fun a0 a1 a2 a3 a4 d => f_Row_check_L6 S n a0 a1 a2 a3 a4 d) v0 v1 v2 v3 v4 (0 : Int32) ((v3.toUInt32 >>> ((8 : Int32).toUInt32 &&& Int32.toUInt32 31)).toInt32) D else (if (D.1 v0 1) ≤ v4 then f_Row_check_L43 S (fun a0 a1 a2 a3 a4 d => f_Row_check_L6 S n a0 a1 a2 a3 a4 d) v0 v1 v2 v3 v4 (0 : Int32) ((v3.toUInt32 >>> ((8 : Int32).toUInt32 &&& Int32.toUInt32 31)).toInt32) D else if D.2.1 v0 0 ≠ 0 then if ob_in v4 (S.2.1 (D.2.1 v0 0)) then f_Row_check_L43 S (fun a0 a1 a2 a3 a4 d => f_Row_check_L6 S n a0 a1 a2 a3 a4 d) v0 v1 v2 v3 v4 (D.1 (D.2.1 v0 0) v4.toNatClampNeg) ((v3.toUInt32 >>> ((8 : Int32).toUInt32 &&& Int32.toUInt32 31)).toInt32) D else none else none)))
theorem v_Row_check_L6 {l : Launch} {E : ob_E} {S : ob_S} {r : Int32} {D' : ob_D} : ∀ (n : Nat), ∀ (v0 : Nat) (v1 : Int32) (v2 : Int32) (v3 : Int32) (v4 : Int32) (D : ob_D), S.1 v0 = 2 → f_Row_check_L6 S n v0 v1 v2 v3 v4 D = some (r, D') → ob_V l E k_Row_check 6 [(0, .ref v0), (1, .int v1), (2, .int v2), (3, .int v3), (4, .int v4)] [] S D (some (.int r)) S D' := by
  intro n
  induction n with
  | zero =>
    intro v0 v1 v2 v3 v4 D hp_v0 h
    have h : none = some (r, D') := h
    cases h
  | succ n ih =>
    intro v0 v1 v2 v3 v4 D hp_v0 h
    rw [f_Row_check_L6] at h
    refine ob_iload d_Row_check_6 rfl ?_
    refine ob_iload d_Row_check_8 rfl ?_
    refine ob_iload d_Row_check_9 rfl ?_
    refine ob_iadd d_Row_check_10 ?_
    refine ob_icmp_ge d_Row_check_11 (fun hc => ?_) (fun hc => ?_)
    · replace h := ob_ift hc h
      refine ob_iload d_Row_check_83 rfl ?_
      exact ob_ie h (ob_iret d_Row_check_84 rfl rfl)
    · replace h := ob_iff hc h
      refine ob_iload d_Row_check_14 rfl ?_
      refine ob_push d_Row_check_15 ?_
      refine ob_iushr d_Row_check_17 ?_
      refine ob_iload d_Row_check_18 rfl ?_
      refine ob_if_lt d_Row_check_20 (fun hc => ?_) (fun hc => ?_)
      · replace h := ob_ift hc h
        refine ob_push d_Row_check_42 ?_
        exact v_Row_check_L43 ih v0 v1 v2 v3 v4 (0 : Int32) ((v3.toUInt32 >>> ((8 : Int32).toUInt32 &&& Int32.toUInt32 31)).toInt32) D hp_v0 h
      · replace h := ob_iff hc h
        refine ob_iload d_Row_check_23 rfl ?_
        refine ob_aload d_Row_check_25 rfl ?_
        refine ob_getI d_Row_check_26 F_1_1 l_Row_13 hp_v0 ?_
        refine ob_icmp_ge d_Row_check_29 (fun hc => ?_) (fun hc => ?_)
        · replace h := ob_ift hc h
          refine ob_push d_Row_check_42 ?_
          exact v_Row_check_L43 ih v0 v1 v2 v3 v4 (0 : Int32) ((v3.toUInt32 >>> ((8 : Int32).toUInt32 &&& Int32.toUInt32 31)).toInt32) D hp_v0 h
        · replace h := ob_iff hc h
          refine ob_aload d_Row_check_32 rfl ?_
          obtain ⟨hg4, h⟩ := ob_gd h
          refine ob_getR d_Row_check_33 F_1_0 l_Row_7 hp_v0 hg4 (fun hk3 => ?_)
          refine ob_iload d_Row_check_36 rfl ?_
          obtain ⟨hg5, h⟩ := ob_gd h
          refine ob_iald d_Row_check_38 hk3 hg5 ?_
          refine ob_goto d_Row_check_39 ?_
          exact v_Row_check_L43 ih v0 v1 v2 v3 v4 (D.1 (D.2.1 v0 0) v4.toNatClampNeg) ((v3.toUInt32 >>> ((8 : Int32).toUInt32 &&& Int32.toUInt32 31)).toInt32) D hp_v0 h
def f_Row_check (S : ob_S) (v0 : Nat) (v1 : Int32) (v2 : Int32) (D : ob_D) : Option (Int32 × ob_D) :=
  f_Row_check_L6 S ob_FU v0 v1 v2 (65535 : Int32) v1 D
theorem c_Row_check {l : Launch} {E : ob_E} {S : ob_S} {D : ob_D} {v0 : Nat} {v1 : Int32} {v2 : Int32} {r : Int32} {D' : ob_D} (hp_v0 : S.1 v0 = 2) (h : f_Row_check S v0 v1 v2 D = some (r, D')) : ob_M l E k_Row_check [.ref v0, .int v1, .int v2] S D (some (.int r)) S D' := by
  refine ob_ofV (lo := [(0, .ref v0), (1, .int v1), (2, .int v2)]) (by decide) rfl (Nat.le_of_ble_eq_true rfl) rfl (Nat.le_refl _) (Nat.le_refl _) ?_
  rw [f_Row_check] at h
  refine ob_ldc (idx := 21) d_Row_check_0 (Or.inl ⟨rfl, rfl⟩) w_528 ?_
  refine ob_istore (lo2 := [(0, .ref v0), (1, .int v1), (2, .int v2), (3, .int (65535 : Int32))]) d_Row_check_2 rfl ?_
  refine ob_iload d_Row_check_3 rfl ?_
  refine ob_istore (lo2 := [(0, .ref v0), (1, .int v1), (2, .int v2), (3, .int (65535 : Int32)), (4, .int v1)]) d_Row_check_4 rfl ?_
  exact v_Row_check_L6 ob_FU v0 v1 v2 (65535 : Int32) v1 D hp_v0 h
-- OrbitBox$Row.addPart(LOrbitBox$Row;II)V
theorem d_Row_addPart_69 : ob_dc k_Row_addPart 69 (.return_) 1 70 := ⟨by decide +kernel, rfl⟩
theorem d_Row_addPart_63 : ob_di k_Row_addPart 63 66 4 1 (1 : Int32) := ⟨by decide +kernel, rfl, by decide +kernel, by decide +kernel⟩
theorem d_Row_addPart_66 : ob_db k_Row_addPart 66 (.goto (-63)) (-63) 69 3 := ⟨by decide +kernel, rfl, by decide⟩
theorem d_Row_addPart_58 : ob_dk k_Row_addPart 58 59 (1 : Int32) (.iconst 1) 1 := ⟨by decide +kernel, rfl, show Int32.ofInt 1 = (1 : Int32) by decide +kernel⟩
theorem d_Row_addPart_60 : ob_dc k_Row_addPart 60 (.putfield 13) 3 63 := ⟨by decide +kernel, rfl⟩
theorem d_Row_addPart_59 : ob_dc k_Row_addPart 59 (.iadd) 1 60 := ⟨by decide +kernel, rfl⟩
theorem d_Row_addPart_55 : ob_dc k_Row_addPart 55 (.getfield 13) 3 58 := ⟨by decide +kernel, rfl⟩
theorem d_Row_addPart_54 : ob_dc k_Row_addPart 54 (.dup) 1 55 := ⟨by decide +kernel, rfl⟩
theorem d_Row_addPart_53 : ob_dv ob_ac k_Row_addPart 53 54 0 (.aload_n 0) 1 := ⟨by decide +kernel, rfl, rfl⟩
theorem d_Row_addPart_52 : ob_dc k_Row_addPart 52 (.iastore) 1 53 := ⟨by decide +kernel, rfl⟩
theorem d_Row_addPart_51 : ob_dc k_Row_addPart 51 (.iaload) 1 52 := ⟨by decide +kernel, rfl⟩
theorem d_Row_addPart_49 : ob_dv ob_lc k_Row_addPart 49 51 4 (.iload 4) 2 := ⟨by decide +kernel, rfl, rfl⟩
theorem d_Row_addPart_46 : ob_dc k_Row_addPart 46 (.getfield 7) 3 49 := ⟨by decide +kernel, rfl⟩
theorem d_Row_addPart_45 : ob_dv ob_ac k_Row_addPart 45 46 1 (.aload_n 1) 1 := ⟨by decide +kernel, rfl, rfl⟩
theorem d_Row_addPart_42 : ob_dc k_Row_addPart 42 (.getfield 13) 3 45 := ⟨by decide +kernel, rfl⟩
theorem d_Row_addPart_41 : ob_dv ob_ac k_Row_addPart 41 42 0 (.aload_n 0) 1 := ⟨by decide +kernel, rfl, rfl⟩
theorem d_Row_addPart_38 : ob_dc k_Row_addPart 38 (.getfield 7) 3 41 := ⟨by decide +kernel, rfl⟩
theorem d_Row_addPart_37 : ob_dv ob_ac k_Row_addPart 37 38 0 (.aload_n 0) 1 := ⟨by decide +kernel, rfl, rfl⟩
theorem d_Row_addPart_34 : ob_db k_Row_addPart 34 (.if_icmp .ge 29) 29 37 63 := ⟨by decide +kernel, rfl, by decide⟩
theorem d_Row_addPart_31 : ob_dc k_Row_addPart 31 (.getfield 13) 3 34 := ⟨by decide +kernel, rfl⟩
theorem d_Row_addPart_30 : ob_dv ob_ac k_Row_addPart 30 31 1 (.aload_n 1) 1 := ⟨by decide +kernel, rfl, rfl⟩
theorem d_Row_addPart_28 : ob_dv ob_lc k_Row_addPart 28 30 4 (.iload 4) 2 := ⟨by decide +kernel, rfl, rfl⟩
theorem d_Row_addPart_25 : ob_db k_Row_addPart 25 (.ifCond .lt 38) 38 28 63 := ⟨by decide +kernel, rfl, by decide⟩
theorem d_Row_addPart_23 : ob_dv ob_lc k_Row_addPart 23 25 4 (.iload 4) 2 := ⟨by decide +kernel, rfl, rfl⟩
theorem d_Row_addPart_20 : ob_db k_Row_addPart 20 (.if_icmp .ge 43) 43 23 63 := ⟨by decide +kernel, rfl, by decide⟩
theorem d_Row_addPart_19 : ob_dc k_Row_addPart 19 (.arraylength) 1 20 := ⟨by decide +kernel, rfl⟩
theorem d_Row_addPart_16 : ob_dc k_Row_addPart 16 (.getfield 7) 3 19 := ⟨by decide +kernel, rfl⟩
theorem d_Row_addPart_15 : ob_dv ob_ac k_Row_addPart 15 16 0 (.aload_n 0) 1 := ⟨by decide +kernel, rfl, rfl⟩
theorem d_Row_addPart_12 : ob_dc k_Row_addPart 12 (.getfield 13) 3 15 := ⟨by decide +kernel, rfl⟩
theorem d_Row_addPart_11 : ob_dv ob_ac k_Row_addPart 11 12 0 (.aload_n 0) 1 := ⟨by decide +kernel, rfl, rfl⟩
theorem d_Row_addPart_8 : ob_db k_Row_addPart 8 (.if_icmp .ge 61) 61 11 69 := ⟨by decide +kernel, rfl, by decide⟩
theorem d_Row_addPart_7 : ob_dc k_Row_addPart 7 (.iadd) 1 8 := ⟨by decide +kernel, rfl⟩
theorem d_Row_addPart_6 : ob_dv ob_lc k_Row_addPart 6 7 3 (.iload_n 3) 1 := ⟨by decide +kernel, rfl, rfl⟩
theorem d_Row_addPart_5 : ob_dv ob_lc k_Row_addPart 5 6 2 (.iload_n 2) 1 := ⟨by decide +kernel, rfl, rfl⟩
theorem d_Row_addPart_3 : ob_dv ob_lc k_Row_addPart 3 5 4 (.iload 4) 2 := ⟨by decide +kernel, rfl, rfl⟩
theorem d_Row_addPart_1 : ob_dv (ob_sc k_Row_addPart.2.2.2.1) k_Row_addPart 1 3 4 (.istore 4) 2 := ⟨by decide +kernel, rfl, ⟨rfl, by decide +kernel⟩⟩
theorem d_Row_addPart_0 : ob_dv ob_lc k_Row_addPart 0 1 2 (.iload_n 2) 1 := ⟨by decide +kernel, rfl, rfl⟩
def f_Row_addPart_L3 (S : ob_S) : Nat → Nat → Nat → Int32 → Int32 → Int32 → ob_D → Option (ob_D)
  | 0, _, _, _, _, _, _ => none
  | n + 1, v0, v1, v2, v3, v4, D => (if (v2 + v3) ≤ v4 then some D else if D.2.1 v0 0 ≠ 0 then (if (Int32.ofNat (S.2.1 (D.2.1 v0 0))) ≤ (D.1 v0 1) then f_Row_addPart_L3 S n v0 v1 v2 v3 (v4 + (1 : Int32)) D else (if v4 < 0 then f_Row_addPart_L3 S n v0 v1 v2 v3 (v4 + (1 : Int32)) D else (if (D.1 v1 1) ≤ v4 then f_Row_addPart_L3 S n v0 v1 v2 v3 (v4 + (1 : Int32)) D else if D.2.1 v0 0 ≠ 0 then if D.2.1 v1 0 ≠ 0 then if ob_in v4 (S.2.1 (D.2.1 v1 0)) then if ob_in (D.1 v0 1) (S.2.1 (D.2.1 v0 0)) then ob_lt (ob_pI D (D.2.1 v0 0) (D.1 v0 1).toNatClampNeg (D.1 (D.2.1 v1 0) v4.toNatClampNeg)) fun D9 => ob_lt (ob_pI D9 v0 1 ((D9.1 v0 1) + (1 : Int32))) fun D10 => f_Row_addPart_L3 S n v0 v1 v2 v3 (v4 + (1 : Int32)) D10 else none else none else none else none))) else none)
theorem v_Row_addPart_L3 {l : Launch} {E : ob_E} {S : ob_S} {D' : ob_D} : ∀ (n : Nat), ∀ (v0 : Nat) (v1 : Nat) (v2 : Int32) (v3 : Int32) (v4 : Int32) (D : ob_D), S.1 v0 = 2 → S.1 v1 = 2 → f_Row_addPart_L3 S n v0 v1 v2 v3 v4 D = some D' → ob_V l E k_Row_addPart 3 [(0, .ref v0), (1, .ref v1), (2, .int v2), (3, .int v3), (4, .int v4)] [] S D none S D' := by
  intro n
  induction n with
  | zero =>
    intro v0 v1 v2 v3 v4 D hp_v0 hp_v1 h
    have h : none = some D' := h
    cases h
  | succ n ih =>
    intro v0 v1 v2 v3 v4 D hp_v0 hp_v1 h
    rw [f_Row_addPart_L3] at h
    refine ob_iload d_Row_addPart_3 rfl ?_
    refine ob_iload d_Row_addPart_5 rfl ?_
    refine ob_iload d_Row_addPart_6 rfl ?_
    refine ob_iadd d_Row_addPart_7 ?_
    refine ob_icmp_ge d_Row_addPart_8 (fun hc => ?_) (fun hc => ?_)
    · replace h := ob_ift hc h
      exact ob_ve h (ob_vret d_Row_addPart_69 rfl)
    · replace h := ob_iff hc h
      refine ob_aload d_Row_addPart_11 rfl ?_
      refine ob_getI d_Row_addPart_12 F_1_1 l_Row_13 hp_v0 ?_
      refine ob_aload d_Row_addPart_15 rfl ?_
      obtain ⟨hg2, h⟩ := ob_gd h
      refine ob_getR d_Row_addPart_16 F_1_0 l_Row_7 hp_v0 hg2 (fun hk1 => ?_)
      refine ob_alen (i := 0) d_Row_addPart_19 hk1 (by decide) ?_
      refine ob_icmp_ge d_Row_addPart_20 (fun hc => ?_) (fun hc => ?_)
      · replace h := ob_ift hc h
        refine ob_iinc (lo2 := [(0, .ref v0), (1, .ref v1), (2, .int v2), (3, .int v3), (4, .int (v4 + (1 : Int32)))]) d_Row_addPart_63 rfl rfl ?_
        refine ob_goto d_Row_addPart_66 ?_
        exact ih v0 v1 v2 v3 (v4 + (1 : Int32)) D hp_v0 hp_v1 h
      · replace h := ob_iff hc h
        refine ob_iload d_Row_addPart_23 rfl ?_
        refine ob_if_lt d_Row_addPart_25 (fun hc => ?_) (fun hc => ?_)
        · replace h := ob_ift hc h
          refine ob_iinc (lo2 := [(0, .ref v0), (1, .ref v1), (2, .int v2), (3, .int v3), (4, .int (v4 + (1 : Int32)))]) d_Row_addPart_63 rfl rfl ?_
          refine ob_goto d_Row_addPart_66 ?_
          exact ih v0 v1 v2 v3 (v4 + (1 : Int32)) D hp_v0 hp_v1 h
        · replace h := ob_iff hc h
          refine ob_iload d_Row_addPart_28 rfl ?_
          refine ob_aload d_Row_addPart_30 rfl ?_
          refine ob_getI d_Row_addPart_31 F_1_1 l_Row_13 hp_v1 ?_
          refine ob_icmp_ge d_Row_addPart_34 (fun hc => ?_) (fun hc => ?_)
          · replace h := ob_ift hc h
            refine ob_iinc (lo2 := [(0, .ref v0), (1, .ref v1), (2, .int v2), (3, .int v3), (4, .int (v4 + (1 : Int32)))]) d_Row_addPart_63 rfl rfl ?_
            refine ob_goto d_Row_addPart_66 ?_
            exact ih v0 v1 v2 v3 (v4 + (1 : Int32)) D hp_v0 hp_v1 h
          · replace h := ob_iff hc h
            refine ob_aload d_Row_addPart_37 rfl ?_
            obtain ⟨hg4, h⟩ := ob_gd h
            refine ob_getR d_Row_addPart_38 F_1_0 l_Row_7 hp_v0 hg4 (fun hk3 => ?_)
            refine ob_aload d_Row_addPart_41 rfl ?_
            refine ob_getI d_Row_addPart_42 F_1_1 l_Row_13 hp_v0 ?_
            refine ob_aload d_Row_addPart_45 rfl ?_
            obtain ⟨hg6, h⟩ := ob_gd h
            refine ob_getR d_Row_addPart_46 F_1_0 l_Row_7 hp_v1 hg6 (fun hk5 => ?_)
            refine ob_iload d_Row_addPart_49 rfl ?_
            obtain ⟨hg7, h⟩ := ob_gd h
            refine ob_iald d_Row_addPart_51 hk5 hg7 ?_
            obtain ⟨hg8, h⟩ := ob_gd h
            replace h := ob_lt_e h
            refine ob_iast d_Row_addPart_52 hk3 hg8 ?_
            refine ob_aload d_Row_addPart_53 rfl ?_
            refine ob_dup d_Row_addPart_54 rfl ?_
            refine ob_getI d_Row_addPart_55 F_1_1 l_Row_13 hp_v0 ?_
            refine ob_push d_Row_addPart_58 ?_
            refine ob_iadd d_Row_addPart_59 ?_
            replace h := ob_lt_e h
            refine ob_putI d_Row_addPart_60 F_1_1 l_Row_13 hp_v0 ?_
            refine ob_iinc (lo2 := [(0, .ref v0), (1, .ref v1), (2, .int v2), (3, .int v3), (4, .int (v4 + (1 : Int32)))]) d_Row_addPart_63 rfl rfl ?_
            refine ob_goto d_Row_addPart_66 ?_
            exact ih v0 v1 v2 v3 (v4 + (1 : Int32)) (ob_pI (ob_pI D (D.2.1 v0 0) (D.1 v0 1).toNatClampNeg (D.1 (D.2.1 v1 0) v4.toNatClampNeg)) v0 1 (((ob_pI D (D.2.1 v0 0) (D.1 v0 1).toNatClampNeg (D.1 (D.2.1 v1 0) v4.toNatClampNeg)).1 v0 1) + (1 : Int32))) hp_v0 hp_v1 h
def f_Row_addPart (S : ob_S) (v0 : Nat) (v1 : Nat) (v2 : Int32) (v3 : Int32) (D : ob_D) : Option (ob_D) :=
  f_Row_addPart_L3 S ob_FU v0 v1 v2 v3 v2 D
theorem c_Row_addPart {l : Launch} {E : ob_E} {S : ob_S} {D : ob_D} {v0 : Nat} {v1 : Nat} {v2 : Int32} {v3 : Int32} {D' : ob_D} (hp_v0 : S.1 v0 = 2) (hp_v1 : S.1 v1 = 2) (h : f_Row_addPart S v0 v1 v2 v3 D = some D') : ob_M l E k_Row_addPart [.ref v0, .ref v1, .int v2, .int v3] S D none S D' := by
  refine ob_ofV (lo := [(0, .ref v0), (1, .ref v1), (2, .int v2), (3, .int v3)]) (by decide) rfl (Nat.le_of_ble_eq_true rfl) rfl (Nat.le_refl _) (Nat.le_refl _) ?_
  rw [f_Row_addPart] at h
  refine ob_iload d_Row_addPart_0 rfl ?_
  refine ob_istore (lo2 := [(0, .ref v0), (1, .ref v1), (2, .int v2), (3, .int v3), (4, .int v2)]) d_Row_addPart_1 rfl ?_
  exact v_Row_addPart_L3 ob_FU v0 v1 v2 v3 v2 D hp_v0 hp_v1 h
-- OrbitBox$Row.become(LOrbitBox$Row;II)V
theorem d_Row_become_1 : ob_dk k_Row_become 1 2 (0 : Int32) (.iconst 0) 1 := ⟨by decide +kernel, rfl, show Int32.ofInt 0 = (0 : Int32) by decide +kernel⟩
theorem d_Row_become_12 : ob_dc k_Row_become 12 (.return_) 1 13 := ⟨by decide +kernel, rfl⟩
theorem d_Row_become_9 : ob_dc k_Row_become 9 (.invokevirtual 17) 3 12 := ⟨by decide +kernel, rfl⟩
theorem d_Row_become_8 : ob_dv ob_lc k_Row_become 8 9 3 (.iload_n 3) 1 := ⟨by decide +kernel, rfl, rfl⟩
theorem d_Row_become_7 : ob_dv ob_lc k_Row_become 7 8 2 (.iload_n 2) 1 := ⟨by decide +kernel, rfl, rfl⟩
theorem d_Row_become_6 : ob_dv ob_ac k_Row_become 6 7 1 (.aload_n 1) 1 := ⟨by decide +kernel, rfl, rfl⟩
theorem d_Row_become_5 : ob_dv ob_ac k_Row_become 5 6 0 (.aload_n 0) 1 := ⟨by decide +kernel, rfl, rfl⟩
theorem d_Row_become_2 : ob_dc k_Row_become 2 (.putfield 13) 3 5 := ⟨by decide +kernel, rfl⟩
theorem d_Row_become_0 : ob_dv ob_ac k_Row_become 0 1 0 (.aload_n 0) 1 := ⟨by decide +kernel, rfl, rfl⟩
theorem c_Row_become_17 : ob_vd k_Row_become k_Row_addPart 17 3 1 := ⟨cw_Row_addPart, yd_Row_addPart, w_548, w_549, w_550, w_2, ⟨_, _, rfl⟩, by decide, by decide⟩
def f_Row_become (S : ob_S) (v0 : Nat) (v1 : Nat) (v2 : Int32) (v3 : Int32) (D : ob_D) : Option (ob_D) :=
  ob_lt (ob_pI D v0 1 (0 : Int32)) fun D1 => ob_bv (f_Row_addPart S v0 v1 v2 v3 D1) fun D2 => some D2
theorem c_Row_become {l : Launch} {E : ob_E} {S : ob_S} {D : ob_D} {v0 : Nat} {v1 : Nat} {v2 : Int32} {v3 : Int32} {D' : ob_D} (hp_v0 : S.1 v0 = 2) (hp_v1 : S.1 v1 = 2) (h : f_Row_become S v0 v1 v2 v3 D = some D') : ob_M l E k_Row_become [.ref v0, .ref v1, .int v2, .int v3] S D none S D' := by
  refine ob_ofV (lo := [(0, .ref v0), (1, .ref v1), (2, .int v2), (3, .int v3)]) (by decide) rfl (Nat.le_of_ble_eq_true rfl) rfl (Nat.le_refl _) (Nat.le_refl _) ?_
  rw [f_Row_become] at h
  refine ob_aload d_Row_become_0 rfl ?_
  refine ob_push d_Row_become_1 ?_
  replace h := ob_lt_e h
  refine ob_putI d_Row_become_2 F_1_1 l_Row_13 hp_v0 ?_
  refine ob_aload d_Row_become_5 rfl ?_
  refine ob_aload d_Row_become_6 rfl ?_
  refine ob_iload d_Row_become_7 rfl ?_
  refine ob_iload d_Row_become_8 rfl ?_
  obtain ⟨D2, h3, h⟩ := ob_bv_e h
  refine ob_callVv (As := [.ref v1, .int v2, .int v3]) (rest := []) d_Row_become_9 c_Row_become_17 hp_v0 rfl rfl (Nat.le_of_ble_eq_true rfl) (c_Row_addPart hp_v0 hp_v1 h3) ⟨Nat.le_refl _, Nat.le_refl _⟩ ⟨Nat.le_refl _, Nat.le_refl _⟩ ?_
  exact ob_ve h (ob_vret d_Row_become_12 rfl)
-- OrbitBox$Row.replace(III)V
theorem d_Row_replace_0 : ob_dk k_Row_replace 0 1 (0 : Int32) (.iconst 0) 1 := ⟨by decide +kernel, rfl, show Int32.ofInt 0 = (0 : Int32) by decide +kernel⟩
theorem d_Row_replace_57 : ob_dc k_Row_replace 57 (.return_) 1 58 := ⟨by decide +kernel, rfl⟩
theorem d_Row_replace_51 : ob_di k_Row_replace 51 54 4 1 (1 : Int32) := ⟨by decide +kernel, rfl, by decide +kernel, by decide +kernel⟩
theorem d_Row_replace_54 : ob_db k_Row_replace 54 (.goto (-51)) (-51) 57 3 := ⟨by decide +kernel, rfl, by decide⟩
theorem d_Row_replace_36 : ob_dk k_Row_replace 36 38 (8 : Int32) (.bipush 8) 2 := ⟨by decide +kernel, rfl, show (Int8.ofInt 8).toInt32 = (8 : Int32) by decide +kernel⟩
theorem d_Row_replace_39 : ob_dk k_Row_replace 39 40 (1 : Int32) (.iconst 1) 1 := ⟨by decide +kernel, rfl, show Int32.ofInt 1 = (1 : Int32) by decide +kernel⟩
theorem d_Row_replace_46 : ob_dk k_Row_replace 46 49 (255 : Int32) (.sipush 255) 3 := ⟨by decide +kernel, rfl, show (Int16.ofInt 255).toInt32 = (255 : Int32) by decide +kernel⟩
theorem d_Row_replace_50 : ob_dc k_Row_replace 50 (.iastore) 1 51 := ⟨by decide +kernel, rfl⟩
theorem d_Row_replace_49 : ob_dc k_Row_replace 49 (.iand) 1 50 := ⟨by decide +kernel, rfl⟩
theorem d_Row_replace_45 : ob_dc k_Row_replace 45 (.iushr) 1 46 := ⟨by decide +kernel, rfl⟩
theorem d_Row_replace_44 : ob_dc k_Row_replace 44 (.imul) 1 45 := ⟨by decide +kernel, rfl⟩
theorem d_Row_replace_43 : ob_dc k_Row_replace 43 (.isub) 1 44 := ⟨by decide +kernel, rfl⟩
theorem d_Row_replace_41 : ob_dv ob_lc k_Row_replace 41 43 4 (.iload 4) 2 := ⟨by decide +kernel, rfl, rfl⟩
theorem d_Row_replace_40 : ob_dc k_Row_replace 40 (.isub) 1 41 := ⟨by decide +kernel, rfl⟩
theorem d_Row_replace_38 : ob_dv ob_lc k_Row_replace 38 39 3 (.iload_n 3) 1 := ⟨by decide +kernel, rfl, rfl⟩
theorem d_Row_replace_35 : ob_dv ob_lc k_Row_replace 35 36 2 (.iload_n 2) 1 := ⟨by decide +kernel, rfl, rfl⟩
theorem d_Row_replace_34 : ob_dc k_Row_replace 34 (.iadd) 1 35 := ⟨by decide +kernel, rfl⟩
theorem d_Row_replace_32 : ob_dv ob_lc k_Row_replace 32 34 4 (.iload 4) 2 := ⟨by decide +kernel, rfl, rfl⟩
theorem d_Row_replace_31 : ob_dv ob_lc k_Row_replace 31 32 1 (.iload_n 1) 1 := ⟨by decide +kernel, rfl, rfl⟩
theorem d_Row_replace_28 : ob_dc k_Row_replace 28 (.getfield 7) 3 31 := ⟨by decide +kernel, rfl⟩
theorem d_Row_replace_27 : ob_dv ob_ac k_Row_replace 27 28 0 (.aload_n 0) 1 := ⟨by decide +kernel, rfl, rfl⟩
theorem d_Row_replace_24 : ob_db k_Row_replace 24 (.if_icmp .ge 27) 27 27 51 := ⟨by decide +kernel, rfl, by decide⟩
theorem d_Row_replace_21 : ob_dc k_Row_replace 21 (.getfield 13) 3 24 := ⟨by decide +kernel, rfl⟩
theorem d_Row_replace_20 : ob_dv ob_ac k_Row_replace 20 21 0 (.aload_n 0) 1 := ⟨by decide +kernel, rfl, rfl⟩
theorem d_Row_replace_19 : ob_dc k_Row_replace 19 (.iadd) 1 20 := ⟨by decide +kernel, rfl⟩
theorem d_Row_replace_17 : ob_dv ob_lc k_Row_replace 17 19 4 (.iload 4) 2 := ⟨by decide +kernel, rfl, rfl⟩
theorem d_Row_replace_16 : ob_dv ob_lc k_Row_replace 16 17 1 (.iload_n 1) 1 := ⟨by decide +kernel, rfl, rfl⟩
theorem d_Row_replace_13 : ob_db k_Row_replace 13 (.ifCond .lt 38) 38 16 51 := ⟨by decide +kernel, rfl, by decide⟩
theorem d_Row_replace_12 : ob_dc k_Row_replace 12 (.iadd) 1 13 := ⟨by decide +kernel, rfl⟩
theorem d_Row_replace_10 : ob_dv ob_lc k_Row_replace 10 12 4 (.iload 4) 2 := ⟨by decide +kernel, rfl, rfl⟩
theorem d_Row_replace_9 : ob_dv ob_lc k_Row_replace 9 10 1 (.iload_n 1) 1 := ⟨by decide +kernel, rfl, rfl⟩
theorem d_Row_replace_6 : ob_db k_Row_replace 6 (.if_icmp .ge 51) 51 9 57 := ⟨by decide +kernel, rfl, by decide⟩
theorem d_Row_replace_5 : ob_dv ob_lc k_Row_replace 5 6 3 (.iload_n 3) 1 := ⟨by decide +kernel, rfl, rfl⟩
theorem d_Row_replace_3 : ob_dv ob_lc k_Row_replace 3 5 4 (.iload 4) 2 := ⟨by decide +kernel, rfl, rfl⟩
theorem d_Row_replace_1 : ob_dv (ob_sc k_Row_replace.2.2.2.1) k_Row_replace 1 3 4 (.istore 4) 2 := ⟨by decide +kernel, rfl, ⟨rfl, by decide +kernel⟩⟩
def f_Row_replace_L3 (S : ob_S) : Nat → Nat → Int32 → Int32 → Int32 → Int32 → ob_D → Option (ob_D)
  | 0, _, _, _, _, _, _ => none
  | n + 1, v0, v1, v2, v3, v4, D => (if v3 ≤ v4 then some D else (if (v1 + v4) < 0 then f_Row_replace_L3 S n v0 v1 v2 v3 (v4 + (1 : Int32)) D else (if (D.1 v0 1) ≤ (v1 + v4) then f_Row_replace_L3 S n v0 v1 v2 v3 (v4 + (1 : Int32)) D else if D.2.1 v0 0 ≠ 0 then if ob_in (v1 + v4) (S.2.1 (D.2.1 v0 0)) then ob_lt (ob_pI D (D.2.1 v0 0) (v1 + v4).toNatClampNeg (((v2.toUInt32 >>> (((8 : Int32) * ((v3 - (1 : Int32)) - v4)).toUInt32 &&& Int32.toUInt32 31)).toInt32) &&& (255 : Int32))) fun D4 => f_Row_replace_L3 S n v0 v1 v2 v3 (v4 + (1 : Int32)) D4 else none else none)))
theorem v_Row_replace_L3 {l : Launch} {E : ob_E} {S : ob_S} {D' : ob_D} : ∀ (n : Nat), ∀ (v0 : Nat) (v1 : Int32) (v2 : Int32) (v3 : Int32) (v4 : Int32) (D : ob_D), S.1 v0 = 2 → f_Row_replace_L3 S n v0 v1 v2 v3 v4 D = some D' → ob_V l E k_Row_replace 3 [(0, .ref v0), (1, .int v1), (2, .int v2), (3, .int v3), (4, .int v4)] [] S D none S D' := by
  intro n
  induction n with
  | zero =>
    intro v0 v1 v2 v3 v4 D hp_v0 h
    have h : none = some D' := h
    cases h
  | succ n ih =>
    intro v0 v1 v2 v3 v4 D hp_v0 h
    rw [f_Row_replace_L3] at h
    refine ob_iload d_Row_replace_3 rfl ?_
    refine ob_iload d_Row_replace_5 rfl ?_
    refine ob_icmp_ge d_Row_replace_6 (fun hc => ?_) (fun hc => ?_)
    · replace h := ob_ift hc h
      exact ob_ve h (ob_vret d_Row_replace_57 rfl)
    · replace h := ob_iff hc h
      refine ob_iload d_Row_replace_9 rfl ?_
      refine ob_iload d_Row_replace_10 rfl ?_
      refine ob_iadd d_Row_replace_12 ?_
      refine ob_if_lt d_Row_replace_13 (fun hc => ?_) (fun hc => ?_)
      · replace h := ob_ift hc h
        refine ob_iinc (lo2 := [(0, .ref v0), (1, .int v1), (2, .int v2), (3, .int v3), (4, .int (v4 + (1 : Int32)))]) d_Row_replace_51 rfl rfl ?_
        refine ob_goto d_Row_replace_54 ?_
        exact ih v0 v1 v2 v3 (v4 + (1 : Int32)) D hp_v0 h
      · replace h := ob_iff hc h
        refine ob_iload d_Row_replace_16 rfl ?_
        refine ob_iload d_Row_replace_17 rfl ?_
        refine ob_iadd d_Row_replace_19 ?_
        refine ob_aload d_Row_replace_20 rfl ?_
        refine ob_getI d_Row_replace_21 F_1_1 l_Row_13 hp_v0 ?_
        refine ob_icmp_ge d_Row_replace_24 (fun hc => ?_) (fun hc => ?_)
        · replace h := ob_ift hc h
          refine ob_iinc (lo2 := [(0, .ref v0), (1, .int v1), (2, .int v2), (3, .int v3), (4, .int (v4 + (1 : Int32)))]) d_Row_replace_51 rfl rfl ?_
          refine ob_goto d_Row_replace_54 ?_
          exact ih v0 v1 v2 v3 (v4 + (1 : Int32)) D hp_v0 h
        · replace h := ob_iff hc h
          refine ob_aload d_Row_replace_27 rfl ?_
          obtain ⟨hg2, h⟩ := ob_gd h
          refine ob_getR d_Row_replace_28 F_1_0 l_Row_7 hp_v0 hg2 (fun hk1 => ?_)
          refine ob_iload d_Row_replace_31 rfl ?_
          refine ob_iload d_Row_replace_32 rfl ?_
          refine ob_iadd d_Row_replace_34 ?_
          refine ob_iload d_Row_replace_35 rfl ?_
          refine ob_push d_Row_replace_36 ?_
          refine ob_iload d_Row_replace_38 rfl ?_
          refine ob_push d_Row_replace_39 ?_
          refine ob_isub d_Row_replace_40 ?_
          refine ob_iload d_Row_replace_41 rfl ?_
          refine ob_isub d_Row_replace_43 ?_
          refine ob_imul d_Row_replace_44 ?_
          refine ob_iushr d_Row_replace_45 ?_
          refine ob_push d_Row_replace_46 ?_
          refine ob_iand d_Row_replace_49 ?_
          obtain ⟨hg3, h⟩ := ob_gd h
          replace h := ob_lt_e h
          refine ob_iast d_Row_replace_50 hk1 hg3 ?_
          refine ob_iinc (lo2 := [(0, .ref v0), (1, .int v1), (2, .int v2), (3, .int v3), (4, .int (v4 + (1 : Int32)))]) d_Row_replace_51 rfl rfl ?_
          refine ob_goto d_Row_replace_54 ?_
          exact ih v0 v1 v2 v3 (v4 + (1 : Int32)) (ob_pI D (D.2.1 v0 0) (v1 + v4).toNatClampNeg (((v2.toUInt32 >>> (((8 : Int32) * ((v3 - (1 : Int32)) - v4)).toUInt32 &&& Int32.toUInt32 31)).toInt32) &&& (255 : Int32))) hp_v0 h
def f_Row_replace (S : ob_S) (v0 : Nat) (v1 : Int32) (v2 : Int32) (v3 : Int32) (D : ob_D) : Option (ob_D) :=
  f_Row_replace_L3 S ob_FU v0 v1 v2 v3 (0 : Int32) D
theorem c_Row_replace {l : Launch} {E : ob_E} {S : ob_S} {D : ob_D} {v0 : Nat} {v1 : Int32} {v2 : Int32} {v3 : Int32} {D' : ob_D} (hp_v0 : S.1 v0 = 2) (h : f_Row_replace S v0 v1 v2 v3 D = some D') : ob_M l E k_Row_replace [.ref v0, .int v1, .int v2, .int v3] S D none S D' := by
  refine ob_ofV (lo := [(0, .ref v0), (1, .int v1), (2, .int v2), (3, .int v3)]) (by decide) rfl (Nat.le_of_ble_eq_true rfl) rfl (Nat.le_refl _) (Nat.le_refl _) ?_
  rw [f_Row_replace] at h
  refine ob_push d_Row_replace_0 ?_
  refine ob_istore (lo2 := [(0, .ref v0), (1, .int v1), (2, .int v2), (3, .int v3), (4, .int (0 : Int32))]) d_Row_replace_1 rfl ?_
  exact v_Row_replace_L3 ob_FU v0 v1 v2 v3 (0 : Int32) D hp_v0 h
