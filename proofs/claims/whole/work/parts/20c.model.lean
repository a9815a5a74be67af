-- OrbitBoxModel.becomes(I)V
theorem d_Model_becomes_15 : ob_dk k_Model_becomes 15 16 (1 : Int32) (.iconst 1) 1 := ⟨by decide +kernel, rfl, show Int32.ofInt 1 = (1 : Int32) by decide +kernel⟩
theorem d_Model_becomes_76 : ob_dc k_Model_becomes 76 (.return_) 1 77 := ⟨by decide +kernel, rfl⟩
theorem d_Model_becomes_24 : ob_dk k_Model_becomes 24 25 (0 : Int32) (.iconst 0) 1 := ⟨by decide +kernel, rfl, show Int32.ofInt 0 = (0 : Int32) by decide +kernel⟩
theorem d_Model_becomes_27 : ob_dk k_Model_becomes 27 29 (8 : Int32) (.bipush 8) 2 := ⟨by decide +kernel, rfl, show (Int8.ofInt 8).toInt32 = (8 : Int32) by decide +kernel⟩
theorem d_Model_becomes_38 : ob_dk k_Model_becomes 38 39 (4 : Int32) (.iconst 4) 1 := ⟨by decide +kernel, rfl, show Int32.ofInt 4 = (4 : Int32) by decide +kernel⟩
theorem d_Model_becomes_47 : ob_dk k_Model_becomes 47 49 (6 : Int32) (.bipush 6) 2 := ⟨by decide +kernel, rfl, show (Int8.ofInt 6).toInt32 = (6 : Int32) by decide +kernel⟩
theorem d_Model_becomes_58 : ob_dk k_Model_becomes 58 60 (6 : Int32) (.bipush 6) 2 := ⟨by decide +kernel, rfl, show (Int8.ofInt 6).toInt32 = (6 : Int32) by decide +kernel⟩
theorem d_Model_becomes_68 : ob_dk k_Model_becomes 68 69 (1 : Int32) (.iconst 1) 1 := ⟨by decide +kernel, rfl, show Int32.ofInt 1 = (1 : Int32) by decide +kernel⟩
theorem d_Model_becomes_70 : ob_di k_Model_becomes 70 73 2 1 (1 : Int32) := ⟨by decide +kernel, rfl, by decide +kernel, by decide +kernel⟩
theorem d_Model_becomes_73 : ob_db k_Model_becomes 73 (.goto (-47)) (-47) 76 26 := ⟨by decide +kernel, rfl, by decide⟩
theorem d_Model_becomes_69 : ob_dc k_Model_becomes 69 (.iastore) 1 70 := ⟨by decide +kernel, rfl⟩
theorem d_Model_becomes_63 : ob_dk k_Model_becomes 63 65 (100 : Int32) (.bipush 100) 2 := ⟨by decide +kernel, rfl, show (Int8.ofInt 100).toInt32 = (100 : Int32) by decide +kernel⟩
theorem d_Model_becomes_65 : ob_db k_Model_becomes 65 (.goto 4) 4 68 69 := ⟨by decide +kernel, rfl, by decide⟩
theorem d_Model_becomes_60 : ob_db k_Model_becomes 60 (.if_icmp .ne 8) 8 63 68 := ⟨by decide +kernel, rfl, by decide⟩
theorem d_Model_becomes_57 : ob_dv ob_lc k_Model_becomes 57 58 2 (.iload_n 2) 1 := ⟨by decide +kernel, rfl, rfl⟩
theorem d_Model_becomes_52 : ob_dk k_Model_becomes 52 54 (50 : Int32) (.bipush 50) 2 := ⟨by decide +kernel, rfl, show (Int8.ofInt 50).toInt32 = (50 : Int32) by decide +kernel⟩
theorem d_Model_becomes_54 : ob_db k_Model_becomes 54 (.goto 15) 15 57 69 := ⟨by decide +kernel, rfl, by decide⟩
theorem d_Model_becomes_49 : ob_db k_Model_becomes 49 (.if_icmp .ge 8) 8 52 57 := ⟨by decide +kernel, rfl, by decide⟩
theorem d_Model_becomes_46 : ob_dv ob_lc k_Model_becomes 46 47 2 (.iload_n 2) 1 := ⟨by decide +kernel, rfl, rfl⟩
theorem d_Model_becomes_42 : ob_dk k_Model_becomes 42 43 (0 : Int32) (.iconst 0) 1 := ⟨by decide +kernel, rfl, show Int32.ofInt 0 = (0 : Int32) by decide +kernel⟩
theorem d_Model_becomes_43 : ob_db k_Model_becomes 43 (.goto 26) 26 46 69 := ⟨by decide +kernel, rfl, by decide⟩
theorem d_Model_becomes_39 : ob_db k_Model_becomes 39 (.if_icmp .ge 7) 7 42 46 := ⟨by decide +kernel, rfl, by decide⟩
theorem d_Model_becomes_37 : ob_dv ob_lc k_Model_becomes 37 38 2 (.iload_n 2) 1 := ⟨by decide +kernel, rfl, rfl⟩
theorem d_Model_becomes_36 : ob_dv ob_lc k_Model_becomes 36 37 2 (.iload_n 2) 1 := ⟨by decide +kernel, rfl, rfl⟩
theorem d_Model_becomes_33 : ob_dc k_Model_becomes 33 (.getfield 58) 3 36 := ⟨by decide +kernel, rfl⟩
theorem d_Model_becomes_32 : ob_dv ob_ac k_Model_becomes 32 33 0 (.aload_n 0) 1 := ⟨by decide +kernel, rfl, rfl⟩
theorem d_Model_becomes_29 : ob_db k_Model_becomes 29 (.if_icmp .ge 47) 47 32 76 := ⟨by decide +kernel, rfl, by decide⟩
theorem d_Model_becomes_26 : ob_dv ob_lc k_Model_becomes 26 27 2 (.iload_n 2) 1 := ⟨by decide +kernel, rfl, rfl⟩
theorem d_Model_becomes_25 : ob_dv (ob_sc k_Model_becomes.2.2.2.1) k_Model_becomes 25 26 2 (.istore_n 2) 1 := ⟨by decide +kernel, rfl, ⟨rfl, by decide +kernel⟩⟩
theorem d_Model_becomes_21 : ob_db k_Model_becomes 21 (.ifCond .ne 55) 55 24 76 := ⟨by decide +kernel, rfl, by decide⟩
theorem d_Model_becomes_20 : ob_dv ob_lc k_Model_becomes 20 21 1 (.iload_n 1) 1 := ⟨by decide +kernel, rfl, rfl⟩
theorem d_Model_becomes_17 : ob_dc k_Model_becomes 17 (.invokevirtual 366) 3 20 := ⟨by decide +kernel, rfl⟩
theorem d_Model_becomes_16 : ob_dv ob_lc k_Model_becomes 16 17 1 (.iload_n 1) 1 := ⟨by decide +kernel, rfl, rfl⟩
theorem d_Model_becomes_14 : ob_dv ob_ac k_Model_becomes 14 15 0 (.aload_n 0) 1 := ⟨by decide +kernel, rfl, rfl⟩
theorem d_Model_becomes_11 : ob_dc k_Model_becomes 11 (.putfield 61) 3 14 := ⟨by decide +kernel, rfl⟩
theorem d_Model_becomes_10 : ob_dv ob_lc k_Model_becomes 10 11 1 (.iload_n 1) 1 := ⟨by decide +kernel, rfl, rfl⟩
theorem d_Model_becomes_9 : ob_dv ob_ac k_Model_becomes 9 10 0 (.aload_n 0) 1 := ⟨by decide +kernel, rfl, rfl⟩
theorem d_Model_becomes_8 : ob_dc k_Model_becomes 8 (.return_) 1 9 := ⟨by decide +kernel, rfl⟩
theorem d_Model_becomes_5 : ob_db k_Model_becomes 5 (.if_icmp .ne 4) 4 8 9 := ⟨by decide +kernel, rfl, by decide⟩
theorem d_Model_becomes_2 : ob_dc k_Model_becomes 2 (.getfield 61) 3 5 := ⟨by decide +kernel, rfl⟩
theorem d_Model_becomes_1 : ob_dv ob_ac k_Model_becomes 1 2 0 (.aload_n 0) 1 := ⟨by decide +kernel, rfl, rfl⟩
theorem d_Model_becomes_0 : ob_dv ob_lc k_Model_becomes 0 1 1 (.iload_n 1) 1 := ⟨by decide +kernel, rfl, rfl⟩
theorem c_Model_becomes_366 : ob_vd k_Model_becomes k_Model_raise 366 2 12 := ⟨cw_Model_raise, yd_Model_raise, w_1576, w_1578, wp_89, w_14, ⟨_, _, rfl⟩, by decide, by decide⟩
def f_Model_becomes_L26 (S : ob_S) : Nat → Nat → Int32 → ob_D → Option (ob_D)
  | 0, _, _, _ => none
  | n + 1, v0, v2, D => (if (8 : Int32) ≤ v2 then some D else if D.2.1 v0 39 ≠ 0 then (if (4 : Int32) ≤ v2 then (if (6 : Int32) ≤ v2 then (if v2 = (6 : Int32) then if ob_in v2 (S.2.1 (D.2.1 v0 39)) then ob_lt (ob_pI D (D.2.1 v0 39) v2.toNatClampNeg (100 : Int32)) fun D9 => f_Model_becomes_L26 S n v0 (v2 + (1 : Int32)) D9 else none else if ob_in v2 (S.2.1 (D.2.1 v0 39)) then ob_lt (ob_pI D (D.2.1 v0 39) v2.toNatClampNeg (1 : Int32)) fun D7 => f_Model_becomes_L26 S n v0 (v2 + (1 : Int32)) D7 else none) else if ob_in v2 (S.2.1 (D.2.1 v0 39)) then ob_lt (ob_pI D (D.2.1 v0 39) v2.toNatClampNeg (50 : Int32)) fun D11 => f_Model_becomes_L26 S n v0 (v2 + (1 : Int32)) D11 else none) else if ob_in v2 (S.2.1 (D.2.1 v0 39)) then ob_lt (ob_pI D (D.2.1 v0 39) v2.toNatClampNeg (0 : Int32)) fun D13 => f_Model_becomes_L26 S n v0 (v2 + (1 : Int32)) D13 else none) else none)
theorem v_Model_becomes_L26 {l : Launch} {E : ob_E} {S : ob_S} {D' : ob_D} : ∀ (n : Nat), ∀ (v0 : Nat) (v2 : Int32) (D : ob_D), S.1 v0 = 13 → f_Model_becomes_L26 S n v0 v2 D = some D' → ob_V l E k_Model_becomes 26 [(0, .ref v0), (2, .int v2)] [] S D none S D' := by
  intro n
  induction n with
  | zero =>
    intro v0 v2 D hp_v0 h
    have h : none = some D' := h
    cases h
  | succ n ih =>
    intro v0 v2 D hp_v0 h
    rw [f_Model_becomes_L26] at h
    refine ob_iload d_Model_becomes_26 rfl ?_
    refine ob_push d_Model_becomes_27 ?_
    refine ob_icmp_ge d_Model_becomes_29 (fun hc => ?_) (fun hc => ?_)
    · replace h := ob_ift hc h
      exact ob_ve h (ob_vret d_Model_becomes_76 rfl)
    · replace h := ob_iff hc h
      refine ob_aload d_Model_becomes_32 rfl ?_
      obtain ⟨hg5, h⟩ := ob_gd h
      refine ob_getR d_Model_becomes_33 F_12_39 l_Model_58 hp_v0 hg5 (fun hk4 => ?_)
      refine ob_iload d_Model_becomes_36 rfl ?_
      refine ob_iload d_Model_becomes_37 rfl ?_
      refine ob_push d_Model_becomes_38 ?_
      refine ob_icmp_ge d_Model_becomes_39 (fun hc => ?_) (fun hc => ?_)
      · replace h := ob_ift hc h
        refine ob_iload d_Model_becomes_46 rfl ?_
        refine ob_push d_Model_becomes_47 ?_
        refine ob_icmp_ge d_Model_becomes_49 (fun hc => ?_) (fun hc => ?_)
        · replace h := ob_ift hc h
          refine ob_iload d_Model_becomes_57 rfl ?_
          refine ob_push d_Model_becomes_58 ?_
          refine ob_icmp_ne d_Model_becomes_60 (fun hc => ?_) (fun hc => ?_)
          · replace h := ob_iff hc h
            refine ob_push d_Model_becomes_68 ?_
            obtain ⟨hg6, h⟩ := ob_gd h
            replace h := ob_lt_e h
            refine ob_iast d_Model_becomes_69 hk4 hg6 ?_
            refine ob_iinc (lo2 := [(0, .ref v0), (2, .int (v2 + (1 : Int32)))]) d_Model_becomes_70 rfl rfl ?_
            refine ob_goto d_Model_becomes_73 ?_
            exact ih v0 (v2 + (1 : Int32)) (ob_pI D (D.2.1 v0 39) v2.toNatClampNeg (1 : Int32)) hp_v0 h
          · replace h := ob_ift hc h
            refine ob_push d_Model_becomes_63 ?_
            refine ob_goto d_Model_becomes_65 ?_
            obtain ⟨hg8, h⟩ := ob_gd h
            replace h := ob_lt_e h
            refine ob_iast d_Model_becomes_69 hk4 hg8 ?_
            refine ob_iinc (lo2 := [(0, .ref v0), (2, .int (v2 + (1 : Int32)))]) d_Model_becomes_70 rfl rfl ?_
            refine ob_goto d_Model_becomes_73 ?_
            exact ih v0 (v2 + (1 : Int32)) (ob_pI D (D.2.1 v0 39) v2.toNatClampNeg (100 : Int32)) hp_v0 h
        · replace h := ob_iff hc h
          refine ob_push d_Model_becomes_52 ?_
          refine ob_goto d_Model_becomes_54 ?_
          obtain ⟨hg10, h⟩ := ob_gd h
          replace h := ob_lt_e h
          refine ob_iast d_Model_becomes_69 hk4 hg10 ?_
          refine ob_iinc (lo2 := [(0, .ref v0), (2, .int (v2 + (1 : Int32)))]) d_Model_becomes_70 rfl rfl ?_
          refine ob_goto d_Model_becomes_73 ?_
          exact ih v0 (v2 + (1 : Int32)) (ob_pI D (D.2.1 v0 39) v2.toNatClampNeg (50 : Int32)) hp_v0 h
      · replace h := ob_iff hc h
        refine ob_push d_Model_becomes_42 ?_
        refine ob_goto d_Model_becomes_43 ?_
        obtain ⟨hg12, h⟩ := ob_gd h
        replace h := ob_lt_e h
        refine ob_iast d_Model_becomes_69 hk4 hg12 ?_
        refine ob_iinc (lo2 := [(0, .ref v0), (2, .int (v2 + (1 : Int32)))]) d_Model_becomes_70 rfl rfl ?_
        refine ob_goto d_Model_becomes_73 ?_
        exact ih v0 (v2 + (1 : Int32)) (ob_pI D (D.2.1 v0 39) v2.toNatClampNeg (0 : Int32)) hp_v0 h
def f_Model_becomes (S : ob_S) (v0 : Nat) (v1 : Int32) (D : ob_D) : Option (ob_D) :=
  (if v1 = (D.1 v0 40) then some D else ob_lt (ob_pI D v0 40 v1) fun D1 => ob_bv (f_Model_raise S v0 (1 : Int32) v1 D1) fun D2 => (if v1 = 0 then f_Model_becomes_L26 S ob_FU v0 (0 : Int32) D2 else some D2))
theorem c_Model_becomes {l : Launch} {E : ob_E} {S : ob_S} {D : ob_D} {v0 : Nat} {v1 : Int32} {D' : ob_D} (hp_v0 : S.1 v0 = 13) (h : f_Model_becomes S v0 v1 D = some D') : ob_M l E k_Model_becomes [.ref v0, .int v1] S D none S D' := by
  refine ob_ofV (lo := [(0, .ref v0), (1, .int v1)]) (by decide) rfl (Nat.le_of_ble_eq_true rfl) rfl (Nat.le_refl _) (Nat.le_refl _) ?_
  rw [f_Model_becomes] at h
  refine ob_iload d_Model_becomes_0 rfl ?_
  refine ob_aload d_Model_becomes_1 rfl ?_
  refine ob_getI d_Model_becomes_2 F_12_40 l_Model_61 hp_v0 ?_
  refine ob_icmp_ne d_Model_becomes_5 (fun hc => ?_) (fun hc => ?_)
  · replace h := ob_iff hc h
    refine ob_aload d_Model_becomes_9 rfl ?_
    refine ob_iload d_Model_becomes_10 rfl ?_
    replace h := ob_lt_e h
    refine ob_putI d_Model_becomes_11 F_12_40 l_Model_61 hp_v0 ?_
    refine ob_aload d_Model_becomes_14 rfl ?_
    refine ob_push d_Model_becomes_15 ?_
    refine ob_iload d_Model_becomes_16 rfl ?_
    obtain ⟨D2, h3, h⟩ := ob_bv_e h
    refine ob_callVv (As := [.int (1 : Int32), .int v1]) (rest := []) d_Model_becomes_17 c_Model_becomes_366 hp_v0 rfl rfl (Nat.le_of_ble_eq_true rfl) (c_Model_raise hp_v0 h3) ⟨Nat.le_refl _, Nat.le_refl _⟩ ⟨Nat.le_refl _, Nat.le_refl _⟩ ?_
    refine ob_iload d_Model_becomes_20 rfl ?_
    refine ob_if_ne d_Model_becomes_21 (fun hc => ?_) (fun hc => ?_)
    · replace h := ob_iff hc h
      exact ob_ve h (ob_vret d_Model_becomes_76 rfl)
    · replace h := ob_ift hc h
      refine ob_push d_Model_becomes_24 ?_
      refine ob_istore (lo2 := [(0, .ref v0), (1, .int v1), (2, .int (0 : Int32))]) d_Model_becomes_25 rfl ?_
      refine ob_sub (lo2 := [(0, .ref v0), (2, .int (0 : Int32))]) [0, 2] rfl ?_
      exact v_Model_becomes_L26 ob_FU v0 (0 : Int32) D2 hp_v0 h
  · replace h := ob_ift hc h
    exact ob_ve h (ob_vret d_Model_becomes_8 rfl)
-- OrbitBoxModel.actFunction()V
theorem d_Model_actFunction_1 : ob_dk k_Model_actFunction 1 2 (0 : Int32) (.iconst 0) 1 := ⟨by decide +kernel, rfl, show Int32.ofInt 0 = (0 : Int32) by decide +kernel⟩
theorem d_Model_actFunction_7 : ob_dk k_Model_actFunction 7 8 (1 : Int32) (.iconst 1) 1 := ⟨by decide +kernel, rfl, show Int32.ofInt 1 = (1 : Int32) by decide +kernel⟩
theorem d_Model_actFunction_13 : ob_dk k_Model_actFunction 13 14 (2 : Int32) (.iconst 2) 1 := ⟨by decide +kernel, rfl, show Int32.ofInt 2 = (2 : Int32) by decide +kernel⟩
theorem d_Model_actFunction_19 : ob_dk k_Model_actFunction 19 20 (1 : Int32) (.iconst 1) 1 := ⟨by decide +kernel, rfl, show Int32.ofInt 1 = (1 : Int32) by decide +kernel⟩
theorem d_Model_actFunction_34 : ob_dk k_Model_actFunction 34 35 (2 : Int32) (.iconst 2) 1 := ⟨by decide +kernel, rfl, show Int32.ofInt 2 = (2 : Int32) by decide +kernel⟩
theorem d_Model_actFunction_52 : ob_dc k_Model_actFunction 52 (.return_) 1 53 := ⟨by decide +kernel, rfl⟩
theorem d_Model_actFunction_49 : ob_dc k_Model_actFunction 49 (.invokevirtual 366) 3 52 := ⟨by decide +kernel, rfl⟩
theorem d_Model_actFunction_48 : ob_dv ob_lc k_Model_actFunction 48 49 3 (.iload_n 3) 1 := ⟨by decide +kernel, rfl, rfl⟩
theorem d_Model_actFunction_47 : ob_dv ob_lc k_Model_actFunction 47 48 2 (.iload_n 2) 1 := ⟨by decide +kernel, rfl, rfl⟩
theorem d_Model_actFunction_46 : ob_dv ob_ac k_Model_actFunction 46 47 0 (.aload_n 0) 1 := ⟨by decide +kernel, rfl, rfl⟩
theorem d_Model_actFunction_43 : ob_db k_Model_actFunction 43 (.goto 9) 9 46 52 := ⟨by decide +kernel, rfl, by decide⟩
theorem d_Model_actFunction_40 : ob_dc k_Model_actFunction 40 (.invokevirtual 363) 3 43 := ⟨by decide +kernel, rfl⟩
theorem d_Model_actFunction_39 : ob_dv ob_lc k_Model_actFunction 39 40 2 (.iload_n 2) 1 := ⟨by decide +kernel, rfl, rfl⟩
theorem d_Model_actFunction_38 : ob_dv ob_ac k_Model_actFunction 38 39 0 (.aload_n 0) 1 := ⟨by decide +kernel, rfl, rfl⟩
theorem d_Model_actFunction_35 : ob_db k_Model_actFunction 35 (.if_icmp .ne 11) 11 38 46 := ⟨by decide +kernel, rfl, by decide⟩
theorem d_Model_actFunction_33 : ob_dv ob_lc k_Model_actFunction 33 34 1 (.iload_n 1) 1 := ⟨by decide +kernel, rfl, rfl⟩
theorem d_Model_actFunction_30 : ob_db k_Model_actFunction 30 (.goto 22) 22 33 52 := ⟨by decide +kernel, rfl, by decide⟩
theorem d_Model_actFunction_29 : ob_dc k_Model_actFunction 29 (.iastore) 1 30 := ⟨by decide +kernel, rfl⟩
theorem d_Model_actFunction_28 : ob_dv ob_lc k_Model_actFunction 28 29 3 (.iload_n 3) 1 := ⟨by decide +kernel, rfl, rfl⟩
theorem d_Model_actFunction_27 : ob_dv ob_lc k_Model_actFunction 27 28 2 (.iload_n 2) 1 := ⟨by decide +kernel, rfl, rfl⟩
theorem d_Model_actFunction_24 : ob_dc k_Model_actFunction 24 (.getfield 58) 3 27 := ⟨by decide +kernel, rfl⟩
theorem d_Model_actFunction_23 : ob_dv ob_ac k_Model_actFunction 23 24 0 (.aload_n 0) 1 := ⟨by decide +kernel, rfl, rfl⟩
theorem d_Model_actFunction_20 : ob_db k_Model_actFunction 20 (.if_icmp .ne 13) 13 23 33 := ⟨by decide +kernel, rfl, by decide⟩
theorem d_Model_actFunction_18 : ob_dv ob_lc k_Model_actFunction 18 19 1 (.iload_n 1) 1 := ⟨by decide +kernel, rfl, rfl⟩
theorem d_Model_actFunction_17 : ob_dv (ob_sc k_Model_actFunction.2.2.2.1) k_Model_actFunction 17 18 3 (.istore_n 3) 1 := ⟨by decide +kernel, rfl, ⟨rfl, by decide +kernel⟩⟩
theorem d_Model_actFunction_14 : ob_dc k_Model_actFunction 14 (.invokevirtual 360) 3 17 := ⟨by decide +kernel, rfl⟩
theorem d_Model_actFunction_12 : ob_dv ob_ac k_Model_actFunction 12 13 0 (.aload_n 0) 1 := ⟨by decide +kernel, rfl, rfl⟩
theorem d_Model_actFunction_11 : ob_dv (ob_sc k_Model_actFunction.2.2.2.1) k_Model_actFunction 11 12 2 (.istore_n 2) 1 := ⟨by decide +kernel, rfl, ⟨rfl, by decide +kernel⟩⟩
theorem d_Model_actFunction_8 : ob_dc k_Model_actFunction 8 (.invokevirtual 302) 3 11 := ⟨by decide +kernel, rfl⟩
theorem d_Model_actFunction_6 : ob_dv ob_ac k_Model_actFunction 6 7 0 (.aload_n 0) 1 := ⟨by decide +kernel, rfl, rfl⟩
theorem d_Model_actFunction_5 : ob_dv (ob_sc k_Model_actFunction.2.2.2.1) k_Model_actFunction 5 6 1 (.istore_n 1) 1 := ⟨by decide +kernel, rfl, ⟨rfl, by decide +kernel⟩⟩
theorem d_Model_actFunction_2 : ob_dc k_Model_actFunction 2 (.invokevirtual 302) 3 5 := ⟨by decide +kernel, rfl⟩
theorem d_Model_actFunction_0 : ob_dv ob_ac k_Model_actFunction 0 1 0 (.aload_n 0) 1 := ⟨by decide +kernel, rfl, rfl⟩
theorem c_Model_actFunction_366 : ob_vd k_Model_actFunction k_Model_raise 366 2 12 := ⟨cw_Model_raise, yd_Model_raise, w_1576, w_1578, wp_89, w_14, ⟨_, _, rfl⟩, by decide, by decide⟩
theorem c_Model_actFunction_363 : ob_vd k_Model_actFunction k_Model_becomes 363 1 12 := ⟨cw_Model_becomes, yd_Model_becomes, w_1572, w_1574, wp_88, w_14, ⟨_, _, rfl⟩, by decide, by decide⟩
theorem c_Model_actFunction_360 : ob_vd k_Model_actFunction k_Model_dataFour 360 1 12 := ⟨cw_Model_dataFour, yd_Model_dataFour, w_1524, w_1526, wp_77, w_14, ⟨_, _, rfl⟩, by decide, by decide⟩
theorem c_Model_actFunction_302 : ob_vd k_Model_actFunction k_Model_data 302 1 12 := ⟨cw_Model_data, yd_Model_data, w_1504, w_1506, wp_72, w_14, ⟨_, _, rfl⟩, by decide, by decide⟩
def f_Model_actFunction (S : ob_S) (v0 : Nat) (D : ob_D) : Option (ob_D) :=
  ob_bd (f_Model_data S v0 (0 : Int32) D) fun x3 D1 => ob_bd (f_Model_data S v0 (1 : Int32) D1) fun x6 D4 => ob_bd (f_Model_dataFour S v0 (2 : Int32) D4) fun x9 D7 => (if x3 = (1 : Int32) then if D7.2.1 v0 39 ≠ 0 then if ob_in x6 (S.2.1 (D7.2.1 v0 39)) then ob_lt (ob_pI D7 (D7.2.1 v0 39) x6.toNatClampNeg x9) fun D17 => some D17 else none else none else (if x3 = (2 : Int32) then ob_bv (f_Model_becomes S v0 x6 D7) fun D12 => some D12 else ob_bv (f_Model_raise S v0 x6 x9 D7) fun D10 => some D10))
theorem c_Model_actFunction {l : Launch} {E : ob_E} {S : ob_S} {D : ob_D} {v0 : Nat} {D' : ob_D} (hp_v0 : S.1 v0 = 13) (h : f_Model_actFunction S v0 D = some D') : ob_M l E k_Model_actFunction [.ref v0] S D none S D' := by
  refine ob_ofV (lo := [(0, .ref v0)]) (by decide) rfl (Nat.le_of_ble_eq_true rfl) rfl (Nat.le_refl _) (Nat.le_refl _) ?_
  rw [f_Model_actFunction] at h
  refine ob_aload d_Model_actFunction_0 rfl ?_
  refine ob_push d_Model_actFunction_1 ?_
  obtain ⟨x3, D1, h2, h⟩ := ob_bd_e h
  refine ob_callVi (As := [.int (0 : Int32)]) (rest := []) d_Model_actFunction_2 c_Model_actFunction_302 hp_v0 rfl rfl (Nat.le_of_ble_eq_true rfl) (c_Model_data hp_v0 h2) ⟨Nat.le_refl _, Nat.le_refl _⟩ ⟨Nat.le_refl _, Nat.le_refl _⟩ ?_
  refine ob_istore (lo2 := [(0, .ref v0), (1, .int x3)]) d_Model_actFunction_5 rfl ?_
  refine ob_aload d_Model_actFunction_6 rfl ?_
  refine ob_push d_Model_actFunction_7 ?_
  obtain ⟨x6, D4, h5, h⟩ := ob_bd_e h
  refine ob_callVi (As := [.int (1 : Int32)]) (rest := []) d_Model_actFunction_8 c_Model_actFunction_302 hp_v0 rfl rfl (Nat.le_of_ble_eq_true rfl) (c_Model_data hp_v0 h5) ⟨Nat.le_refl _, Nat.le_refl _⟩ ⟨Nat.le_refl _, Nat.le_refl _⟩ ?_
  refine ob_istore (lo2 := [(0, .ref v0), (1, .int x3), (2, .int x6)]) d_Model_actFunction_11 rfl ?_
  refine ob_aload d_Model_actFunction_12 rfl ?_
  refine ob_push d_Model_actFunction_13 ?_
  obtain ⟨x9, D7, h8, h⟩ := ob_bd_e h
  refine ob_callVi (As := [.int (2 : Int32)]) (rest := []) d_Model_actFunction_14 c_Model_actFunction_360 hp_v0 rfl rfl (Nat.le_of_ble_eq_true rfl) (c_Model_dataFour hp_v0 h8) ⟨Nat.le_refl _, Nat.le_refl _⟩ ⟨Nat.le_refl _, Nat.le_refl _⟩ ?_
  refine ob_istore (lo2 := [(0, .ref v0), (1, .int x3), (2, .int x6), (3, .int x9)]) d_Model_actFunction_17 rfl ?_
  refine ob_iload d_Model_actFunction_18 rfl ?_
  refine ob_push d_Model_actFunction_19 ?_
  refine ob_icmp_ne d_Model_actFunction_20 (fun hc => ?_) (fun hc => ?_)
  · replace h := ob_iff hc h
    refine ob_iload d_Model_actFunction_33 rfl ?_
    refine ob_push d_Model_actFunction_34 ?_
    refine ob_icmp_ne d_Model_actFunction_35 (fun hc => ?_) (fun hc => ?_)
    · replace h := ob_iff hc h
      refine ob_aload d_Model_actFunction_46 rfl ?_
      refine ob_iload d_Model_actFunction_47 rfl ?_
      refine ob_iload d_Model_actFunction_48 rfl ?_
      obtain ⟨D10, h11, h⟩ := ob_bv_e h
      refine ob_callVv (As := [.int x6, .int x9]) (rest := []) d_Model_actFunction_49 c_Model_actFunction_366 hp_v0 rfl rfl (Nat.le_of_ble_eq_true rfl) (c_Model_raise hp_v0 h11) ⟨Nat.le_refl _, Nat.le_refl _⟩ ⟨Nat.le_refl _, Nat.le_refl _⟩ ?_
      exact ob_ve h (ob_vret d_Model_actFunction_52 rfl)
    · replace h := ob_ift hc h
      refine ob_aload d_Model_actFunction_38 rfl ?_
      refine ob_iload d_Model_actFunction_39 rfl ?_
      obtain ⟨D12, h13, h⟩ := ob_bv_e h
      refine ob_callVv (As := [.int x6]) (rest := []) d_Model_actFunction_40 c_Model_actFunction_363 hp_v0 rfl rfl (Nat.le_of_ble_eq_true rfl) (c_Model_becomes hp_v0 h13) ⟨Nat.le_refl _, Nat.le_refl _⟩ ⟨Nat.le_refl _, Nat.le_refl _⟩ ?_
      refine ob_goto d_Model_actFunction_43 ?_
      exact ob_ve h (ob_vret d_Model_actFunction_52 rfl)
  · replace h := ob_ift hc h
    refine ob_aload d_Model_actFunction_23 rfl ?_
    obtain ⟨hg15, h⟩ := ob_gd h
    refine ob_getR d_Model_actFunction_24 F_12_39 l_Model_58 hp_v0 hg15 (fun hk14 => ?_)
    refine ob_iload d_Model_actFunction_27 rfl ?_
    refine ob_iload d_Model_actFunction_28 rfl ?_
    obtain ⟨hg16, h⟩ := ob_gd h
    replace h := ob_lt_e h
    refine ob_iast d_Model_actFunction_29 hk14 hg16 ?_
    refine ob_goto d_Model_actFunction_30 ?_
    exact ob_ve h (ob_vret d_Model_actFunction_52 rfl)
-- OrbitBoxModel.actTable(I)V
theorem d_Model_actTable_1 : ob_dk k_Model_actTable 1 2 (1 : Int32) (.iconst 1) 1 := ⟨by decide +kernel, rfl, show Int32.ofInt 1 = (1 : Int32) by decide +kernel⟩
theorem d_Model_actTable_12 : ob_dk k_Model_actTable 12 13 (1 : Int32) (.iconst 1) 1 := ⟨by decide +kernel, rfl, show Int32.ofInt 1 = (1 : Int32) by decide +kernel⟩
theorem d_Model_actTable_20 : ob_dk k_Model_actTable 20 21 (0 : Int32) (.iconst 0) 1 := ⟨by decide +kernel, rfl, show Int32.ofInt 0 = (0 : Int32) by decide +kernel⟩
theorem d_Model_actTable_301 : ob_dc k_Model_actTable 301 (.return_) 1 302 := ⟨by decide +kernel, rfl⟩
theorem d_Model_actTable_24 : ob_db k_Model_actTable 24 (.goto 277) 277 27 301 := ⟨by decide +kernel, rfl, by decide⟩
theorem d_Model_actTable_21 : ob_dc k_Model_actTable 21 (.putfield 380) 3 24 := ⟨by decide +kernel, rfl⟩
theorem d_Model_actTable_16 : ob_dk k_Model_actTable 16 17 (1 : Int32) (.iconst 1) 1 := ⟨by decide +kernel, rfl, show Int32.ofInt 1 = (1 : Int32) by decide +kernel⟩
theorem d_Model_actTable_17 : ob_db k_Model_actTable 17 (.goto 4) 4 20 21 := ⟨by decide +kernel, rfl, by decide⟩
theorem d_Model_actTable_13 : ob_db k_Model_actTable 13 (.if_icmp .ne 7) 7 16 20 := ⟨by decide +kernel, rfl, by decide⟩
theorem d_Model_actTable_11 : ob_dv ob_lc k_Model_actTable 11 12 1 (.iload_n 1) 1 := ⟨by decide +kernel, rfl, rfl⟩
theorem d_Model_actTable_10 : ob_dv ob_ac k_Model_actTable 10 11 0 (.aload_n 0) 1 := ⟨by decide +kernel, rfl, rfl⟩
theorem d_Model_actTable_6 : ob_dk k_Model_actTable 6 7 (2 : Int32) (.iconst 2) 1 := ⟨by decide +kernel, rfl, show Int32.ofInt 2 = (2 : Int32) by decide +kernel⟩
theorem d_Model_actTable_28 : ob_dk k_Model_actTable 28 29 (3 : Int32) (.iconst 3) 1 := ⟨by decide +kernel, rfl, show Int32.ofInt 3 = (3 : Int32) by decide +kernel⟩
theorem d_Model_actTable_46 : ob_dk k_Model_actTable 46 47 (4 : Int32) (.iconst 4) 1 := ⟨by decide +kernel, rfl, show Int32.ofInt 4 = (4 : Int32) by decide +kernel⟩
theorem d_Model_actTable_137 : ob_dk k_Model_actTable 137 138 (5 : Int32) (.iconst 5) 1 := ⟨by decide +kernel, rfl, show Int32.ofInt 5 = (5 : Int32) by decide +kernel⟩
theorem d_Model_actTable_186 : ob_dk k_Model_actTable 186 188 (15 : Int32) (.bipush 15) 2 := ⟨by decide +kernel, rfl, show (Int8.ofInt 15).toInt32 = (15 : Int32) by decide +kernel⟩
theorem d_Model_actTable_228 : ob_dk k_Model_actTable 228 230 (32 : Int32) (.bipush 32) 2 := ⟨by decide +kernel, rfl, show (Int8.ofInt 32).toInt32 = (32 : Int32) by decide +kernel⟩
theorem d_Model_actTable_240 : ob_dk k_Model_actTable 240 242 (32 : Int32) (.bipush 32) 2 := ⟨by decide +kernel, rfl, show (Int8.ofInt 32).toInt32 = (32 : Int32) by decide +kernel⟩
theorem d_Model_actTable_244 : ob_dk k_Model_actTable 244 246 (11 : Int32) (.bipush 11) 2 := ⟨by decide +kernel, rfl, show (Int8.ofInt 11).toInt32 = (11 : Int32) by decide +kernel⟩
theorem d_Model_actTable_246 : ob_dk k_Model_actTable 246 248 (13 : Int32) (.bipush 13) 2 := ⟨by decide +kernel, rfl, show (Int8.ofInt 13).toInt32 = (13 : Int32) by decide +kernel⟩
theorem d_Model_actTable_256 : ob_dk k_Model_actTable 256 257 (0 : Int32) (.iconst 0) 1 := ⟨by decide +kernel, rfl, show Int32.ofInt 0 = (0 : Int32) by decide +kernel⟩
theorem d_Model_actTable_298 : ob_dc k_Model_actTable 298 (.invokevirtual 276) 3 301 := ⟨by decide +kernel, rfl⟩
theorem d_Model_actTable_297 : ob_dv ob_ac k_Model_actTable 297 298 0 (.aload_n 0) 1 := ⟨by decide +kernel, rfl, rfl⟩
theorem d_Model_actTable_291 : ob_di k_Model_actTable 291 294 3 1 (1 : Int32) := ⟨by decide +kernel, rfl, by decide +kernel, by decide +kernel⟩
theorem d_Model_actTable_294 : ob_db k_Model_actTable 294 (.goto (-36)) (-36) 297 258 := ⟨by decide +kernel, rfl, by decide⟩
theorem d_Model_actTable_288 : ob_dc k_Model_actTable 288 (.invokevirtual 273) 3 291 := ⟨by decide +kernel, rfl⟩
theorem d_Model_actTable_285 : ob_dc k_Model_actTable 285 (.invokevirtual 375) 3 288 := ⟨by decide +kernel, rfl⟩
theorem d_Model_actTable_283 : ob_dv ob_lc k_Model_actTable 283 285 4 (.iload 4) 2 := ⟨by decide +kernel, rfl, rfl⟩
theorem d_Model_actTable_282 : ob_dv ob_ac k_Model_actTable 282 283 0 (.aload_n 0) 1 := ⟨by decide +kernel, rfl, rfl⟩
theorem d_Model_actTable_281 : ob_dv ob_ac k_Model_actTable 281 282 0 (.aload_n 0) 1 := ⟨by decide +kernel, rfl, rfl⟩
theorem d_Model_actTable_278 : ob_dc k_Model_actTable 278 (.invokevirtual 354) 3 281 := ⟨by decide +kernel, rfl⟩
theorem d_Model_actTable_277 : ob_dc k_Model_actTable 277 (.iaload) 1 278 := ⟨by decide +kernel, rfl⟩
theorem d_Model_actTable_275 : ob_dv ob_lc k_Model_actTable 275 277 4 (.iload 4) 2 := ⟨by decide +kernel, rfl, rfl⟩
theorem d_Model_actTable_272 : ob_dc k_Model_actTable 272 (.getfield 64) 3 275 := ⟨by decide +kernel, rfl⟩
theorem d_Model_actTable_271 : ob_dv ob_ac k_Model_actTable 271 272 0 (.aload_n 0) 1 := ⟨by decide +kernel, rfl, rfl⟩
theorem d_Model_actTable_270 : ob_dv ob_ac k_Model_actTable 270 271 0 (.aload_n 0) 1 := ⟨by decide +kernel, rfl, rfl⟩
theorem d_Model_actTable_268 : ob_dv (ob_sc k_Model_actTable.2.2.2.1) k_Model_actTable 268 270 4 (.istore 4) 2 := ⟨by decide +kernel, rfl, ⟨rfl, by decide +kernel⟩⟩
theorem d_Model_actTable_265 : ob_dc k_Model_actTable 265 (.invokevirtual 386) 3 268 := ⟨by decide +kernel, rfl⟩
theorem d_Model_actTable_264 : ob_dv ob_lc k_Model_actTable 264 265 3 (.iload_n 3) 1 := ⟨by decide +kernel, rfl, rfl⟩
theorem d_Model_actTable_263 : ob_dv ob_ac k_Model_actTable 263 264 0 (.aload_n 0) 1 := ⟨by decide +kernel, rfl, rfl⟩
theorem d_Model_actTable_260 : ob_db k_Model_actTable 260 (.if_icmp .ge 37) 37 263 297 := ⟨by decide +kernel, rfl, by decide⟩
theorem d_Model_actTable_259 : ob_dv ob_lc k_Model_actTable 259 260 2 (.iload_n 2) 1 := ⟨by decide +kernel, rfl, rfl⟩
theorem d_Model_actTable_258 : ob_dv ob_lc k_Model_actTable 258 259 3 (.iload_n 3) 1 := ⟨by decide +kernel, rfl, rfl⟩
theorem d_Model_actTable_257 : ob_dv (ob_sc k_Model_actTable.2.2.2.1) k_Model_actTable 257 258 3 (.istore_n 3) 1 := ⟨by decide +kernel, rfl, ⟨rfl, by decide +kernel⟩⟩
theorem d_Model_actTable_253 : ob_dc k_Model_actTable 253 (.invokevirtual 264) 3 256 := ⟨by decide +kernel, rfl⟩
theorem d_Model_actTable_252 : ob_dv ob_lc k_Model_actTable 252 253 2 (.iload_n 2) 1 := ⟨by decide +kernel, rfl, rfl⟩
theorem d_Model_actTable_251 : ob_dv ob_ac k_Model_actTable 251 252 0 (.aload_n 0) 1 := ⟨by decide +kernel, rfl, rfl⟩
theorem d_Model_actTable_248 : ob_dc k_Model_actTable 248 (.invokevirtual 267) 3 251 := ⟨by decide +kernel, rfl⟩
theorem d_Model_actTable_243 : ob_dv ob_ac k_Model_actTable 243 244 0 (.aload_n 0) 1 := ⟨by decide +kernel, rfl, rfl⟩
theorem d_Model_actTable_242 : ob_dv (ob_sc k_Model_actTable.2.2.2.1) k_Model_actTable 242 243 2 (.istore_n 2) 1 := ⟨by decide +kernel, rfl, ⟨rfl, by decide +kernel⟩⟩
theorem d_Model_actTable_237 : ob_db k_Model_actTable 237 (.goto 5) 5 240 242 := ⟨by decide +kernel, rfl, by decide⟩
theorem d_Model_actTable_234 : ob_dc k_Model_actTable 234 (.getfield 369) 3 237 := ⟨by decide +kernel, rfl⟩
theorem d_Model_actTable_233 : ob_dv ob_ac k_Model_actTable 233 234 0 (.aload_n 0) 1 := ⟨by decide +kernel, rfl, rfl⟩
theorem d_Model_actTable_230 : ob_db k_Model_actTable 230 (.if_icmp .ge 10) 10 233 240 := ⟨by decide +kernel, rfl, by decide⟩
theorem d_Model_actTable_225 : ob_dc k_Model_actTable 225 (.getfield 369) 3 228 := ⟨by decide +kernel, rfl⟩
theorem d_Model_actTable_224 : ob_dv ob_ac k_Model_actTable 224 225 0 (.aload_n 0) 1 := ⟨by decide +kernel, rfl, rfl⟩
theorem d_Model_actTable_191 : ob_dk k_Model_actTable 191 192 (0 : Int32) (.iconst 0) 1 := ⟨by decide +kernel, rfl, show Int32.ofInt 0 = (0 : Int32) by decide +kernel⟩
theorem d_Model_actTable_221 : ob_db k_Model_actTable 221 (.goto 80) 80 224 301 := ⟨by decide +kernel, rfl, by decide⟩
theorem d_Model_actTable_209 : ob_dk k_Model_actTable 209 210 (0 : Int32) (.iconst 0) 1 := ⟨by decide +kernel, rfl, show Int32.ofInt 0 = (0 : Int32) by decide +kernel⟩
theorem d_Model_actTable_215 : ob_di k_Model_actTable 215 218 2 1 (1 : Int32) := ⟨by decide +kernel, rfl, by decide +kernel, by decide +kernel⟩
theorem d_Model_actTable_218 : ob_db k_Model_actTable 218 (.goto (-25)) (-25) 221 193 := ⟨by decide +kernel, rfl, by decide⟩
theorem d_Model_actTable_214 : ob_dc k_Model_actTable 214 (.iastore) 1 215 := ⟨by decide +kernel, rfl⟩
theorem d_Model_actTable_213 : ob_dc k_Model_actTable 213 (.iadd) 1 214 := ⟨by decide +kernel, rfl⟩
theorem d_Model_actTable_210 : ob_dc k_Model_actTable 210 (.invokevirtual 360) 3 213 := ⟨by decide +kernel, rfl⟩
theorem d_Model_actTable_208 : ob_dv ob_ac k_Model_actTable 208 209 0 (.aload_n 0) 1 := ⟨by decide +kernel, rfl, rfl⟩
theorem d_Model_actTable_207 : ob_dc k_Model_actTable 207 (.iaload) 1 208 := ⟨by decide +kernel, rfl⟩
theorem d_Model_actTable_206 : ob_dc k_Model_actTable 206 (.dup2) 1 207 := ⟨by decide +kernel, rfl⟩
theorem d_Model_actTable_205 : ob_dv ob_lc k_Model_actTable 205 206 2 (.iload_n 2) 1 := ⟨by decide +kernel, rfl, rfl⟩
theorem d_Model_actTable_202 : ob_dc k_Model_actTable 202 (.getfield 64) 3 205 := ⟨by decide +kernel, rfl⟩
theorem d_Model_actTable_201 : ob_dv ob_ac k_Model_actTable 201 202 0 (.aload_n 0) 1 := ⟨by decide +kernel, rfl, rfl⟩
theorem d_Model_actTable_198 : ob_db k_Model_actTable 198 (.if_icmp .ge 23) 23 201 221 := ⟨by decide +kernel, rfl, by decide⟩
theorem d_Model_actTable_195 : ob_dc k_Model_actTable 195 (.getfield 369) 3 198 := ⟨by decide +kernel, rfl⟩
theorem d_Model_actTable_194 : ob_dv ob_ac k_Model_actTable 194 195 0 (.aload_n 0) 1 := ⟨by decide +kernel, rfl, rfl⟩
theorem d_Model_actTable_193 : ob_dv ob_lc k_Model_actTable 193 194 2 (.iload_n 2) 1 := ⟨by decide +kernel, rfl, rfl⟩
theorem d_Model_actTable_192 : ob_dv (ob_sc k_Model_actTable.2.2.2.1) k_Model_actTable 192 193 2 (.istore_n 2) 1 := ⟨by decide +kernel, rfl, ⟨rfl, by decide +kernel⟩⟩
theorem d_Model_actTable_188 : ob_db k_Model_actTable 188 (.if_icmp .ne 36) 36 191 224 := ⟨by decide +kernel, rfl, by decide⟩
theorem d_Model_actTable_185 : ob_dv ob_lc k_Model_actTable 185 186 1 (.iload_n 1) 1 := ⟨by decide +kernel, rfl, rfl⟩
theorem d_Model_actTable_142 : ob_dk k_Model_actTable 142 143 (0 : Int32) (.iconst 0) 1 := ⟨by decide +kernel, rfl, show Int32.ofInt 0 = (0 : Int32) by decide +kernel⟩
theorem d_Model_actTable_146 : ob_dk k_Model_actTable 146 149 (16383 : Int32) (.sipush 16383) 3 := ⟨by decide +kernel, rfl, show (Int16.ofInt 16383).toInt32 = (16383 : Int32) by decide +kernel⟩
theorem d_Model_actTable_155 : ob_dk k_Model_actTable 155 156 (1 : Int32) (.iconst 1) 1 := ⟨by decide +kernel, rfl, show Int32.ofInt 1 = (1 : Int32) by decide +kernel⟩
theorem d_Model_actTable_182 : ob_db k_Model_actTable 182 (.goto 119) 119 185 301 := ⟨by decide +kernel, rfl, by decide⟩
theorem d_Model_actTable_176 : ob_di k_Model_actTable 176 179 3 (-1) (-1 : Int32) := ⟨by decide +kernel, rfl, by decide +kernel, by decide +kernel⟩
theorem d_Model_actTable_179 : ob_db k_Model_actTable 179 (.goto (-21)) (-21) 182 158 := ⟨by decide +kernel, rfl, by decide⟩
theorem d_Model_actTable_173 : ob_dc k_Model_actTable 173 (.invokevirtual 383) 3 176 := ⟨by decide +kernel, rfl⟩
theorem d_Model_actTable_172 : ob_dv ob_lc k_Model_actTable 172 173 3 (.iload_n 3) 1 := ⟨by decide +kernel, rfl, rfl⟩
theorem d_Model_actTable_171 : ob_dv ob_ac k_Model_actTable 171 172 0 (.aload_n 0) 1 := ⟨by decide +kernel, rfl, rfl⟩
theorem d_Model_actTable_168 : ob_db k_Model_actTable 168 (.if_icmp .ne 8) 8 171 176 := ⟨by decide +kernel, rfl, by decide⟩
theorem d_Model_actTable_167 : ob_dv ob_lc k_Model_actTable 167 168 2 (.iload_n 2) 1 := ⟨by decide +kernel, rfl, rfl⟩
theorem d_Model_actTable_164 : ob_dc k_Model_actTable 164 (.invokevirtual 375) 3 167 := ⟨by decide +kernel, rfl⟩
theorem d_Model_actTable_163 : ob_dv ob_lc k_Model_actTable 163 164 3 (.iload_n 3) 1 := ⟨by decide +kernel, rfl, rfl⟩
theorem d_Model_actTable_162 : ob_dv ob_ac k_Model_actTable 162 163 0 (.aload_n 0) 1 := ⟨by decide +kernel, rfl, rfl⟩
theorem d_Model_actTable_159 : ob_db k_Model_actTable 159 (.ifCond .lt 23) 23 162 182 := ⟨by decide +kernel, rfl, by decide⟩
theorem d_Model_actTable_158 : ob_dv ob_lc k_Model_actTable 158 159 3 (.iload_n 3) 1 := ⟨by decide +kernel, rfl, rfl⟩
theorem d_Model_actTable_157 : ob_dv (ob_sc k_Model_actTable.2.2.2.1) k_Model_actTable 157 158 3 (.istore_n 3) 1 := ⟨by decide +kernel, rfl, ⟨rfl, by decide +kernel⟩⟩
theorem d_Model_actTable_156 : ob_dc k_Model_actTable 156 (.isub) 1 157 := ⟨by decide +kernel, rfl⟩
theorem d_Model_actTable_152 : ob_dc k_Model_actTable 152 (.getfield 369) 3 155 := ⟨by decide +kernel, rfl⟩
theorem d_Model_actTable_151 : ob_dv ob_ac k_Model_actTable 151 152 0 (.aload_n 0) 1 := ⟨by decide +kernel, rfl, rfl⟩
theorem d_Model_actTable_150 : ob_dv (ob_sc k_Model_actTable.2.2.2.1) k_Model_actTable 150 151 2 (.istore_n 2) 1 := ⟨by decide +kernel, rfl, ⟨rfl, by decide +kernel⟩⟩
theorem d_Model_actTable_149 : ob_dc k_Model_actTable 149 (.iand) 1 150 := ⟨by decide +kernel, rfl⟩
theorem d_Model_actTable_143 : ob_dc k_Model_actTable 143 (.invokevirtual 357) 3 146 := ⟨by decide +kernel, rfl⟩
theorem d_Model_actTable_141 : ob_dv ob_ac k_Model_actTable 141 142 0 (.aload_n 0) 1 := ⟨by decide +kernel, rfl, rfl⟩
theorem d_Model_actTable_138 : ob_db k_Model_actTable 138 (.if_icmp .ne 47) 47 141 185 := ⟨by decide +kernel, rfl, by decide⟩
theorem d_Model_actTable_136 : ob_dv ob_lc k_Model_actTable 136 137 1 (.iload_n 1) 1 := ⟨by decide +kernel, rfl, rfl⟩
theorem d_Model_actTable_59 : ob_dk k_Model_actTable 59 60 (0 : Int32) (.iconst 0) 1 := ⟨by decide +kernel, rfl, show Int32.ofInt 0 = (0 : Int32) by decide +kernel⟩
theorem d_Model_actTable_76 : ob_dk k_Model_actTable 76 78 (17 : Int32) (.bipush 17) 2 := ⟨by decide +kernel, rfl, show (Int8.ofInt 17).toInt32 = (17 : Int32) by decide +kernel⟩
theorem d_Model_actTable_80 : ob_dk k_Model_actTable 80 81 (0 : Int32) (.iconst 0) 1 := ⟨by decide +kernel, rfl, show Int32.ofInt 0 = (0 : Int32) by decide +kernel⟩
theorem d_Model_actTable_87 : ob_dk k_Model_actTable 87 89 (17 : Int32) (.bipush 17) 2 := ⟨by decide +kernel, rfl, show (Int8.ofInt 17).toInt32 = (17 : Int32) by decide +kernel⟩
theorem d_Model_actTable_128 : ob_dk k_Model_actTable 128 129 (1 : Int32) (.iconst 1) 1 := ⟨by decide +kernel, rfl, show Int32.ofInt 1 = (1 : Int32) by decide +kernel⟩
theorem d_Model_actTable_133 : ob_db k_Model_actTable 133 (.goto 168) 168 136 301 := ⟨by decide +kernel, rfl, by decide⟩
theorem d_Model_actTable_130 : ob_dc k_Model_actTable 130 (.putfield 369) 3 133 := ⟨by decide +kernel, rfl⟩
theorem d_Model_actTable_129 : ob_dc k_Model_actTable 129 (.iadd) 1 130 := ⟨by decide +kernel, rfl⟩
theorem d_Model_actTable_125 : ob_dc k_Model_actTable 125 (.getfield 369) 3 128 := ⟨by decide +kernel, rfl⟩
theorem d_Model_actTable_124 : ob_dc k_Model_actTable 124 (.dup) 1 125 := ⟨by decide +kernel, rfl⟩
theorem d_Model_actTable_123 : ob_dv ob_ac k_Model_actTable 123 124 0 (.aload_n 0) 1 := ⟨by decide +kernel, rfl, rfl⟩
theorem d_Model_actTable_97 : ob_dk k_Model_actTable 97 100 (260 : Int32) (.sipush 260) 3 := ⟨by decide +kernel, rfl, show (Int16.ofInt 260).toInt32 = (260 : Int32) by decide +kernel⟩
theorem d_Model_actTable_111 : ob_dk k_Model_actTable 111 113 (15 : Int32) (.bipush 15) 2 := ⟨by decide +kernel, rfl, show (Int8.ofInt 15).toInt32 = (15 : Int32) by decide +kernel⟩
theorem d_Model_actTable_117 : ob_di k_Model_actTable 117 120 2 1 (1 : Int32) := ⟨by decide +kernel, rfl, by decide +kernel, by decide +kernel⟩
theorem d_Model_actTable_120 : ob_db k_Model_actTable 120 (.goto (-38)) (-38) 123 82 := ⟨by decide +kernel, rfl, by decide⟩
theorem d_Model_actTable_116 : ob_dc k_Model_actTable 116 (.bastore) 1 117 := ⟨by decide +kernel, rfl⟩
theorem d_Model_actTable_115 : ob_dc k_Model_actTable 115 (.baload) 1 116 := ⟨by decide +kernel, rfl⟩
theorem d_Model_actTable_114 : ob_dc k_Model_actTable 114 (.iadd) 1 115 := ⟨by decide +kernel, rfl⟩
theorem d_Model_actTable_113 : ob_dv ob_lc k_Model_actTable 113 114 2 (.iload_n 2) 1 := ⟨by decide +kernel, rfl, rfl⟩
theorem d_Model_actTable_108 : ob_dc k_Model_actTable 108 (.getfield 34) 3 111 := ⟨by decide +kernel, rfl⟩
theorem d_Model_actTable_107 : ob_dv ob_ac k_Model_actTable 107 108 0 (.aload_n 0) 1 := ⟨by decide +kernel, rfl, rfl⟩
theorem d_Model_actTable_106 : ob_dc k_Model_actTable 106 (.iadd) 1 107 := ⟨by decide +kernel, rfl⟩
theorem d_Model_actTable_105 : ob_dv ob_lc k_Model_actTable 105 106 2 (.iload_n 2) 1 := ⟨by decide +kernel, rfl, rfl⟩
theorem d_Model_actTable_104 : ob_dc k_Model_actTable 104 (.imul) 1 105 := ⟨by decide +kernel, rfl⟩
theorem d_Model_actTable_101 : ob_dc k_Model_actTable 101 (.getfield 369) 3 104 := ⟨by decide +kernel, rfl⟩
theorem d_Model_actTable_100 : ob_dv ob_ac k_Model_actTable 100 101 0 (.aload_n 0) 1 := ⟨by decide +kernel, rfl, rfl⟩
theorem d_Model_actTable_94 : ob_dc k_Model_actTable 94 (.getfield 70) 3 97 := ⟨by decide +kernel, rfl⟩
theorem d_Model_actTable_93 : ob_dv ob_ac k_Model_actTable 93 94 0 (.aload_n 0) 1 := ⟨by decide +kernel, rfl, rfl⟩
theorem d_Model_actTable_90 : ob_db k_Model_actTable 90 (.if_icmp .ge 33) 33 93 123 := ⟨by decide +kernel, rfl, by decide⟩
theorem d_Model_actTable_89 : ob_dc k_Model_actTable 89 (.isub) 1 90 := ⟨by decide +kernel, rfl⟩
theorem d_Model_actTable_84 : ob_dc k_Model_actTable 84 (.getfield 258) 3 87 := ⟨by decide +kernel, rfl⟩
theorem d_Model_actTable_83 : ob_dv ob_ac k_Model_actTable 83 84 0 (.aload_n 0) 1 := ⟨by decide +kernel, rfl, rfl⟩
theorem d_Model_actTable_82 : ob_dv ob_lc k_Model_actTable 82 83 2 (.iload_n 2) 1 := ⟨by decide +kernel, rfl, rfl⟩
theorem d_Model_actTable_81 : ob_dv (ob_sc k_Model_actTable.2.2.2.1) k_Model_actTable 81 82 2 (.istore_n 2) 1 := ⟨by decide +kernel, rfl, ⟨rfl, by decide +kernel⟩⟩
theorem d_Model_actTable_79 : ob_dc k_Model_actTable 79 (.iastore) 1 80 := ⟨by decide +kernel, rfl⟩
theorem d_Model_actTable_78 : ob_dc k_Model_actTable 78 (.isub) 1 79 := ⟨by decide +kernel, rfl⟩
theorem d_Model_actTable_73 : ob_dc k_Model_actTable 73 (.getfield 258) 3 76 := ⟨by decide +kernel, rfl⟩
theorem d_Model_actTable_72 : ob_dv ob_ac k_Model_actTable 72 73 0 (.aload_n 0) 1 := ⟨by decide +kernel, rfl, rfl⟩
theorem d_Model_actTable_69 : ob_dc k_Model_actTable 69 (.getfield 369) 3 72 := ⟨by decide +kernel, rfl⟩
theorem d_Model_actTable_68 : ob_dv ob_ac k_Model_actTable 68 69 0 (.aload_n 0) 1 := ⟨by decide +kernel, rfl, rfl⟩
theorem d_Model_actTable_65 : ob_dc k_Model_actTable 65 (.getfield 67) 3 68 := ⟨by decide +kernel, rfl⟩
theorem d_Model_actTable_64 : ob_dv ob_ac k_Model_actTable 64 65 0 (.aload_n 0) 1 := ⟨by decide +kernel, rfl, rfl⟩
theorem d_Model_actTable_63 : ob_dc k_Model_actTable 63 (.iastore) 1 64 := ⟨by decide +kernel, rfl⟩
theorem d_Model_actTable_60 : ob_dc k_Model_actTable 60 (.invokevirtual 360) 3 63 := ⟨by decide +kernel, rfl⟩
theorem d_Model_actTable_58 : ob_dv ob_ac k_Model_actTable 58 59 0 (.aload_n 0) 1 := ⟨by decide +kernel, rfl, rfl⟩
theorem d_Model_actTable_55 : ob_dc k_Model_actTable 55 (.getfield 369) 3 58 := ⟨by decide +kernel, rfl⟩
theorem d_Model_actTable_54 : ob_dv ob_ac k_Model_actTable 54 55 0 (.aload_n 0) 1 := ⟨by decide +kernel, rfl, rfl⟩
theorem d_Model_actTable_51 : ob_dc k_Model_actTable 51 (.getfield 64) 3 54 := ⟨by decide +kernel, rfl⟩
theorem d_Model_actTable_50 : ob_dv ob_ac k_Model_actTable 50 51 0 (.aload_n 0) 1 := ⟨by decide +kernel, rfl, rfl⟩
theorem d_Model_actTable_47 : ob_db k_Model_actTable 47 (.if_icmp .ne 89) 89 50 136 := ⟨by decide +kernel, rfl, by decide⟩
theorem d_Model_actTable_45 : ob_dv ob_lc k_Model_actTable 45 46 1 (.iload_n 1) 1 := ⟨by decide +kernel, rfl, rfl⟩
theorem d_Model_actTable_33 : ob_dk k_Model_actTable 33 34 (0 : Int32) (.iconst 0) 1 := ⟨by decide +kernel, rfl, show Int32.ofInt 0 = (0 : Int32) by decide +kernel⟩
theorem d_Model_actTable_38 : ob_dk k_Model_actTable 38 39 (0 : Int32) (.iconst 0) 1 := ⟨by decide +kernel, rfl, show Int32.ofInt 0 = (0 : Int32) by decide +kernel⟩
theorem d_Model_actTable_42 : ob_db k_Model_actTable 42 (.goto 259) 259 45 301 := ⟨by decide +kernel, rfl, by decide⟩
theorem d_Model_actTable_39 : ob_dc k_Model_actTable 39 (.putfield 380) 3 42 := ⟨by decide +kernel, rfl⟩
theorem d_Model_actTable_37 : ob_dv ob_ac k_Model_actTable 37 38 0 (.aload_n 0) 1 := ⟨by decide +kernel, rfl, rfl⟩
theorem d_Model_actTable_34 : ob_dc k_Model_actTable 34 (.putfield 369) 3 37 := ⟨by decide +kernel, rfl⟩
theorem d_Model_actTable_32 : ob_dv ob_ac k_Model_actTable 32 33 0 (.aload_n 0) 1 := ⟨by decide +kernel, rfl, rfl⟩
theorem d_Model_actTable_29 : ob_db k_Model_actTable 29 (.if_icmp .ne 16) 16 32 45 := ⟨by decide +kernel, rfl, by decide⟩
theorem d_Model_actTable_27 : ob_dv ob_lc k_Model_actTable 27 28 1 (.iload_n 1) 1 := ⟨by decide +kernel, rfl, rfl⟩
theorem d_Model_actTable_7 : ob_db k_Model_actTable 7 (.if_icmp .ne 20) 20 10 27 := ⟨by decide +kernel, rfl, by decide⟩
theorem d_Model_actTable_5 : ob_dv ob_lc k_Model_actTable 5 6 1 (.iload_n 1) 1 := ⟨by decide +kernel, rfl, rfl⟩
theorem d_Model_actTable_2 : ob_db k_Model_actTable 2 (.if_icmp .eq 8) 8 5 10 := ⟨by decide +kernel, rfl, by decide⟩
theorem d_Model_actTable_0 : ob_dv ob_lc k_Model_actTable 0 1 1 (.iload_n 1) 1 := ⟨by decide +kernel, rfl, rfl⟩
theorem c_Model_actTable_276 : ob_vd k_Model_actTable k_Model_made 276 0 12 := ⟨cw_Model_made, yd_Model_made, w_1477, w_1479, wp_66, w_14, ⟨_, _, rfl⟩, by decide, by decide⟩
theorem c_Model_actTable_273 : ob_vd k_Model_actTable k_Model_sayTwo 273 1 12 := ⟨cw_Model_sayTwo, yd_Model_sayTwo, w_1460, w_1462, wp_62, w_14, ⟨_, _, rfl⟩, by decide, by decide⟩
theorem c_Model_actTable_375 : ob_vd k_Model_actTable k_Model_entryNumber 375 1 12 := ⟨cw_Model_entryNumber, yd_Model_entryNumber, w_1531, w_1533, wp_78, w_14, ⟨_, _, rfl⟩, by decide, by decide⟩
theorem c_Model_actTable_354 : ob_vd k_Model_actTable k_Model_sayFour 354 1 12 := ⟨cw_Model_sayFour, yd_Model_sayFour, w_1469, w_1471, wp_64, w_14, ⟨_, _, rfl⟩, by decide, by decide⟩
theorem c_Model_actTable_386 : ob_vd k_Model_actTable k_Model_due 386 1 12 := ⟨cw_Model_due, yd_Model_due, w_1430, w_1432, wp_56, w_14, ⟨_, _, rfl⟩, by decide, by decide⟩
theorem c_Model_actTable_264 : ob_vd k_Model_actTable k_Model_say 264 1 12 := ⟨cw_Model_say, yd_Model_say, w_1464, w_1466, wp_63, w_14, ⟨_, _, rfl⟩, by decide, by decide⟩
theorem c_Model_actTable_267 : ob_vd k_Model_actTable k_Model_report 267 2 12 := ⟨cw_Model_report, yd_Model_report, w_1456, w_1458, wp_61, w_14, ⟨_, _, rfl⟩, by decide, by decide⟩
theorem c_Model_actTable_360 : ob_vd k_Model_actTable k_Model_dataFour 360 1 12 := ⟨cw_Model_dataFour, yd_Model_dataFour, w_1524, w_1526, wp_77, w_14, ⟨_, _, rfl⟩, by decide, by decide⟩
theorem c_Model_actTable_383 : ob_vd k_Model_actTable k_Model_dropEntry 383 1 12 := ⟨cw_Model_dropEntry, yd_Model_dropEntry, w_1438, w_1440, wp_58, w_14, ⟨_, _, rfl⟩, by decide, by decide⟩
theorem c_Model_actTable_357 : ob_vd k_Model_actTable k_Model_dataTwo 357 1 12 := ⟨cw_Model_dataTwo, yd_Model_dataTwo, w_1512, w_1514, wp_74, w_14, ⟨_, _, rfl⟩, by decide, by decide⟩
def f_Model_actTable_L10 (S : ob_S) (v0 : Nat) (v1 : Int32) (D : ob_D) : Option (ob_D) :=
  (if v1 = (1 : Int32) then ob_lt (ob_pI D v0 46 (1 : Int32)) fun D2 => some D2 else ob_lt (ob_pI D v0 46 (0 : Int32)) fun D1 => some D1)
theorem v_Model_actTable_L10 {l : Launch} {E : ob_E} {S : ob_S} {D' : ob_D} : ∀ (v0 : Nat) (v1 : Int32) (D : ob_D), S.1 v0 = 13 → f_Model_actTable_L10 S v0 v1 D = some D' → ob_V l E k_Model_actTable 10 [(0, .ref v0), (1, .int v1)] [] S D none S D' := by
  intro v0 v1 D hp_v0 h
  rw [f_Model_actTable_L10] at h
  refine ob_aload d_Model_actTable_10 rfl ?_
  refine ob_iload d_Model_actTable_11 rfl ?_
  refine ob_push d_Model_actTable_12 ?_
  refine ob_icmp_ne d_Model_actTable_13 (fun hc => ?_) (fun hc => ?_)
  · replace h := ob_iff hc h
    refine ob_push d_Model_actTable_20 ?_
    replace h := ob_lt_e h
    refine ob_putZ d_Model_actTable_21 F_12_46 l_Model_380 hp_v0 (Or.inl rfl) ?_
    refine ob_goto d_Model_actTable_24 ?_
    exact ob_ve h (ob_vret d_Model_actTable_301 rfl)
  · replace h := ob_ift hc h
    refine ob_push d_Model_actTable_16 ?_
    refine ob_goto d_Model_actTable_17 ?_
    replace h := ob_lt_e h
    refine ob_putZ d_Model_actTable_21 F_12_46 l_Model_380 hp_v0 (Or.inr rfl) ?_
    refine ob_goto d_Model_actTable_24 ?_
    exact ob_ve h (ob_vret d_Model_actTable_301 rfl)
def f_Model_actTable_L258 (S : ob_S) : Nat → Nat → Int32 → Int32 → ob_D → Option (ob_D)
  | 0, _, _, _, _ => none
  | n + 1, v0, v2, v3, D => (if v2 ≤ v3 then ob_bv (f_Model_made S v0 D) fun D7 => some D7 else ob_bd (f_Model_due S v0 v3 D) fun x11 D9 => if D9.2.1 v0 42 ≠ 0 then if ob_in x11 (S.2.1 (D9.2.1 v0 42)) then ob_bv (f_Model_sayFour S v0 (D9.1 (D9.2.1 v0 42) x11.toNatClampNeg) D9) fun D15 => ob_bd (f_Model_entryNumber S v0 x11 D15) fun x19 D17 => ob_bv (f_Model_sayTwo S v0 x19 D17) fun D20 => f_Model_actTable_L258 S n v0 v2 (v3 + (1 : Int32)) D20 else none else none)
theorem v_Model_actTable_L258 {l : Launch} {E : ob_E} {S : ob_S} {D' : ob_D} : ∀ (n : Nat), ∀ (v0 : Nat) (v2 : Int32) (v3 : Int32) (D : ob_D), S.1 v0 = 13 → f_Model_actTable_L258 S n v0 v2 v3 D = some D' → ob_V l E k_Model_actTable 258 [(0, .ref v0), (2, .int v2), (3, .int v3)] [] S D none S D' := by
  intro n
  induction n with
  | zero =>
    intro v0 v2 v3 D hp_v0 h
    have h : none = some D' := h
    cases h
  | succ n ih =>
    intro v0 v2 v3 D hp_v0 h
    rw [f_Model_actTable_L258] at h
    refine ob_iload d_Model_actTable_258 rfl ?_
    refine ob_iload d_Model_actTable_259 rfl ?_
    refine ob_icmp_ge d_Model_actTable_260 (fun hc => ?_) (fun hc => ?_)
    · replace h := ob_ift hc h
      refine ob_aload d_Model_actTable_297 rfl ?_
      obtain ⟨D7, h8, h⟩ := ob_bv_e h
      refine ob_callVv (As := []) (rest := []) d_Model_actTable_298 c_Model_actTable_276 hp_v0 rfl rfl (Nat.le_of_ble_eq_true rfl) (c_Model_made hp_v0 h8) ⟨Nat.le_refl _, Nat.le_refl _⟩ ⟨Nat.le_refl _, Nat.le_refl _⟩ ?_
      exact ob_ve h (ob_vret d_Model_actTable_301 rfl)
    · replace h := ob_iff hc h
      refine ob_aload d_Model_actTable_263 rfl ?_
      refine ob_iload d_Model_actTable_264 rfl ?_
      obtain ⟨x11, D9, h10, h⟩ := ob_bd_e h
      refine ob_callVi (As := [.int v3]) (rest := []) d_Model_actTable_265 c_Model_actTable_386 hp_v0 rfl rfl (Nat.le_of_ble_eq_true rfl) (c_Model_due hp_v0 h10) ⟨Nat.le_refl _, Nat.le_refl _⟩ ⟨Nat.le_refl _, Nat.le_refl _⟩ ?_
      refine ob_istore (lo2 := [(0, .ref v0), (2, .int v2), (3, .int v3), (4, .int x11)]) d_Model_actTable_268 rfl ?_
      refine ob_aload d_Model_actTable_270 rfl ?_
      refine ob_aload d_Model_actTable_271 rfl ?_
      obtain ⟨hg13, h⟩ := ob_gd h
      refine ob_getR d_Model_actTable_272 F_12_42 l_Model_64 hp_v0 hg13 (fun hk12 => ?_)
      refine ob_iload d_Model_actTable_275 rfl ?_
      obtain ⟨hg14, h⟩ := ob_gd h
      refine ob_iald d_Model_actTable_277 hk12 hg14 ?_
      obtain ⟨D15, h16, h⟩ := ob_bv_e h
      refine ob_callVv (As := [.int (D9.1 (D9.2.1 v0 42) x11.toNatClampNeg)]) (rest := []) d_Model_actTable_278 c_Model_actTable_354 hp_v0 rfl rfl (Nat.le_of_ble_eq_true rfl) (c_Model_sayFour hp_v0 h16) ⟨Nat.le_refl _, Nat.le_refl _⟩ ⟨Nat.le_refl _, Nat.le_refl _⟩ ?_
      refine ob_aload d_Model_actTable_281 rfl ?_
      refine ob_aload d_Model_actTable_282 rfl ?_
      refine ob_iload d_Model_actTable_283 rfl ?_
      obtain ⟨x19, D17, h18, h⟩ := ob_bd_e h
      refine ob_callVi (As := [.int x11]) (rest := [.ref v0]) d_Model_actTable_285 c_Model_actTable_375 hp_v0 rfl rfl (Nat.le_of_ble_eq_true rfl) (c_Model_entryNumber hp_v0 h18) ⟨Nat.le_refl _, Nat.le_refl _⟩ ⟨Nat.le_refl _, Nat.le_refl _⟩ ?_
      obtain ⟨D20, h21, h⟩ := ob_bv_e h
      refine ob_callVv (As := [.int x19]) (rest := []) d_Model_actTable_288 c_Model_actTable_273 hp_v0 rfl rfl (Nat.le_of_ble_eq_true rfl) (c_Model_sayTwo hp_v0 h21) ⟨Nat.le_refl _, Nat.le_refl _⟩ ⟨Nat.le_refl _, Nat.le_refl _⟩ ?_
      refine ob_iinc (lo2 := [(0, .ref v0), (2, .int v2), (3, .int (v3 + (1 : Int32))), (4, .int x11)]) d_Model_actTable_291 rfl rfl ?_
      refine ob_goto d_Model_actTable_294 ?_
      refine ob_sub (lo2 := [(0, .ref v0), (2, .int v2), (3, .int (v3 + (1 : Int32)))]) [0, 1, 2] rfl ?_
      exact ih v0 v2 (v3 + (1 : Int32)) D20 hp_v0 h
def f_Model_actTable_L242 (S : ob_S) (v0 : Nat) (s0 : Int32) (D : ob_D) : Option (ob_D) :=
  ob_bv (f_Model_report S v0 (11 : Int32) (13 : Int32) D) fun D3 => ob_bv (f_Model_say S v0 s0 D3) fun D5 => f_Model_actTable_L258 S ob_FU v0 s0 (0 : Int32) D5
theorem v_Model_actTable_L242 {l : Launch} {E : ob_E} {S : ob_S} {D' : ob_D} : ∀ (v0 : Nat) (s0 : Int32) (D : ob_D), S.1 v0 = 13 → f_Model_actTable_L242 S v0 s0 D = some D' → ob_V l E k_Model_actTable 242 [(0, .ref v0)] [.int s0] S D none S D' := by
  intro v0 s0 D hp_v0 h
  rw [f_Model_actTable_L242] at h
  refine ob_istore (lo2 := [(0, .ref v0), (2, .int s0)]) d_Model_actTable_242 rfl ?_
  refine ob_aload d_Model_actTable_243 rfl ?_
  refine ob_push d_Model_actTable_244 ?_
  refine ob_push d_Model_actTable_246 ?_
  obtain ⟨D3, h4, h⟩ := ob_bv_e h
  refine ob_callVv (As := [.int (11 : Int32), .int (13 : Int32)]) (rest := []) d_Model_actTable_248 c_Model_actTable_267 hp_v0 rfl rfl (Nat.le_of_ble_eq_true rfl) (c_Model_report hp_v0 h4) ⟨Nat.le_refl _, Nat.le_refl _⟩ ⟨Nat.le_refl _, Nat.le_refl _⟩ ?_
  refine ob_aload d_Model_actTable_251 rfl ?_
  refine ob_iload d_Model_actTable_252 rfl ?_
  obtain ⟨D5, h6, h⟩ := ob_bv_e h
  refine ob_callVv (As := [.int s0]) (rest := []) d_Model_actTable_253 c_Model_actTable_264 hp_v0 rfl rfl (Nat.le_of_ble_eq_true rfl) (c_Model_say hp_v0 h6) ⟨Nat.le_refl _, Nat.le_refl _⟩ ⟨Nat.le_refl _, Nat.le_refl _⟩ ?_
  refine ob_push d_Model_actTable_256 ?_
  refine ob_istore (lo2 := [(0, .ref v0), (2, .int s0), (3, .int (0 : Int32))]) d_Model_actTable_257 rfl ?_
  exact v_Model_actTable_L258 ob_FU v0 s0 (0 : Int32) D5 hp_v0 h
def f_Model_actTable_L193 (S : ob_S) : Nat → Nat → Int32 → ob_D → Option (ob_D)
  | 0, _, _, _ => none
  | n + 1, v0, v2, D => (if (D.1 v0 45) ≤ v2 then some D else if D.2.1 v0 42 ≠ 0 then if ob_in v2 (S.2.1 (D.2.1 v0 42)) then ob_bd (f_Model_dataFour S v0 (0 : Int32) D) fun x27 D25 => if ob_in v2 (S.2.1 (D.2.1 v0 42)) then ob_lt (ob_pI D25 (D.2.1 v0 42) v2.toNatClampNeg ((D.1 (D.2.1 v0 42) v2.toNatClampNeg) + x27)) fun D29 => f_Model_actTable_L193 S n v0 (v2 + (1 : Int32)) D29 else none else none else none)
theorem v_Model_actTable_L193 {l : Launch} {E : ob_E} {S : ob_S} {D' : ob_D} : ∀ (n : Nat), ∀ (v0 : Nat) (v2 : Int32) (D : ob_D), S.1 v0 = 13 → f_Model_actTable_L193 S n v0 v2 D = some D' → ob_V l E k_Model_actTable 193 [(0, .ref v0), (2, .int v2)] [] S D none S D' := by
  intro n
  induction n with
  | zero =>
    intro v0 v2 D hp_v0 h
    have h : none = some D' := h
    cases h
  | succ n ih =>
    intro v0 v2 D hp_v0 h
    rw [f_Model_actTable_L193] at h
    refine ob_iload d_Model_actTable_193 rfl ?_
    refine ob_aload d_Model_actTable_194 rfl ?_
    refine ob_getI d_Model_actTable_195 F_12_45 l_Model_369 hp_v0 ?_
    refine ob_icmp_ge d_Model_actTable_198 (fun hc => ?_) (fun hc => ?_)
    · replace h := ob_ift hc h
      refine ob_goto d_Model_actTable_221 ?_
      exact ob_ve h (ob_vret d_Model_actTable_301 rfl)
    · replace h := ob_iff hc h
      refine ob_aload d_Model_actTable_201 rfl ?_
      obtain ⟨hg23, h⟩ := ob_gd h
      refine ob_getR d_Model_actTable_202 F_12_42 l_Model_64 hp_v0 hg23 (fun hk22 => ?_)
      refine ob_iload d_Model_actTable_205 rfl ?_
      refine ob_dup2 d_Model_actTable_206 rfl rfl ?_
      obtain ⟨hg24, h⟩ := ob_gd h
      refine ob_iald d_Model_actTable_207 hk22 hg24 ?_
      refine ob_aload d_Model_actTable_208 rfl ?_
      refine ob_push d_Model_actTable_209 ?_
      obtain ⟨x27, D25, h26, h⟩ := ob_bd_e h
      refine ob_callVi (As := [.int (0 : Int32)]) (rest := [.int (D.1 (D.2.1 v0 42) v2.toNatClampNeg), .int v2, .ref (D.2.1 v0 42)]) d_Model_actTable_210 c_Model_actTable_360 hp_v0 rfl rfl (Nat.le_of_ble_eq_true rfl) (c_Model_dataFour hp_v0 h26) ⟨Nat.le_refl _, Nat.le_refl _⟩ ⟨Nat.le_refl _, Nat.le_refl _⟩ ?_
      refine ob_iadd d_Model_actTable_213 ?_
      obtain ⟨hg28, h⟩ := ob_gd h
      replace h := ob_lt_e h
      refine ob_iast d_Model_actTable_214 hk22 hg28 ?_
      refine ob_iinc (lo2 := [(0, .ref v0), (2, .int (v2 + (1 : Int32)))]) d_Model_actTable_215 rfl rfl ?_
      refine ob_goto d_Model_actTable_218 ?_
      exact ih v0 (v2 + (1 : Int32)) (ob_pI D25 (D.2.1 v0 42) v2.toNatClampNeg ((D.1 (D.2.1 v0 42) v2.toNatClampNeg) + x27)) hp_v0 h
def f_Model_actTable_L158 (S : ob_S) : Nat → Nat → Int32 → Int32 → ob_D → Option (ob_D)
  | 0, _, _, _, _ => none
  | n + 1, v0, v2, v3, D => (if v3 < 0 then some D else ob_bd (f_Model_entryNumber S v0 v3 D) fun x35 D33 => (if x35 = v2 then ob_bv (f_Model_dropEntry S v0 v3 D33) fun D36 => f_Model_actTable_L158 S n v0 v2 (v3 + (-1 : Int32)) D36 else f_Model_actTable_L158 S n v0 v2 (v3 + (-1 : Int32)) D33))
theorem v_Model_actTable_L158 {l : Launch} {E : ob_E} {S : ob_S} {D' : ob_D} : ∀ (n : Nat), ∀ (v0 : Nat) (v2 : Int32) (v3 : Int32) (D : ob_D), S.1 v0 = 13 → f_Model_actTable_L158 S n v0 v2 v3 D = some D' → ob_V l E k_Model_actTable 158 [(0, .ref v0), (2, .int v2), (3, .int v3)] [] S D none S D' := by
  intro n
  induction n with
  | zero =>
    intro v0 v2 v3 D hp_v0 h
    have h : none = some D' := h
    cases h
  | succ n ih =>
    intro v0 v2 v3 D hp_v0 h
    rw [f_Model_actTable_L158] at h
    refine ob_iload d_Model_actTable_158 rfl ?_
    refine ob_if_lt d_Model_actTable_159 (fun hc => ?_) (fun hc => ?_)
    · replace h := ob_ift hc h
      refine ob_goto d_Model_actTable_182 ?_
      exact ob_ve h (ob_vret d_Model_actTable_301 rfl)
    · replace h := ob_iff hc h
      refine ob_aload d_Model_actTable_162 rfl ?_
      refine ob_iload d_Model_actTable_163 rfl ?_
      obtain ⟨x35, D33, h34, h⟩ := ob_bd_e h
      refine ob_callVi (As := [.int v3]) (rest := []) d_Model_actTable_164 c_Model_actTable_375 hp_v0 rfl rfl (Nat.le_of_ble_eq_true rfl) (c_Model_entryNumber hp_v0 h34) ⟨Nat.le_refl _, Nat.le_refl _⟩ ⟨Nat.le_refl _, Nat.le_refl _⟩ ?_
      refine ob_iload d_Model_actTable_167 rfl ?_
      refine ob_icmp_ne d_Model_actTable_168 (fun hc => ?_) (fun hc => ?_)
      · replace h := ob_iff hc h
        refine ob_iinc (lo2 := [(0, .ref v0), (2, .int v2), (3, .int (v3 + (-1 : Int32)))]) d_Model_actTable_176 rfl rfl ?_
        refine ob_goto d_Model_actTable_179 ?_
        exact ih v0 v2 (v3 + (-1 : Int32)) D33 hp_v0 h
      · replace h := ob_ift hc h
        refine ob_aload d_Model_actTable_171 rfl ?_
        refine ob_iload d_Model_actTable_172 rfl ?_
        obtain ⟨D36, h37, h⟩ := ob_bv_e h
        refine ob_callVv (As := [.int v3]) (rest := []) d_Model_actTable_173 c_Model_actTable_383 hp_v0 rfl rfl (Nat.le_of_ble_eq_true rfl) (c_Model_dropEntry hp_v0 h37) ⟨Nat.le_refl _, Nat.le_refl _⟩ ⟨Nat.le_refl _, Nat.le_refl _⟩ ?_
        refine ob_iinc (lo2 := [(0, .ref v0), (2, .int v2), (3, .int (v3 + (-1 : Int32)))]) d_Model_actTable_176 rfl rfl ?_
        refine ob_goto d_Model_actTable_179 ?_
        exact ih v0 v2 (v3 + (-1 : Int32)) D36 hp_v0 h
def f_Model_actTable_L82 (S : ob_S) : Nat → Nat → Int32 → ob_D → Option (ob_D)
  | 0, _, _, _ => none
  | n + 1, v0, v2, D => (if ((D.1 v0 28) - (17 : Int32)) ≤ v2 then ob_lt (ob_pI D v0 45 ((D.1 v0 45) + (1 : Int32))) fun D49 => some D49 else if D.2.1 v0 44 ≠ 0 then if D.2.1 v0 27 ≠ 0 then if ob_in ((15 : Int32) + v2) (S.2.1 (D.2.1 v0 27)) then if ob_in (((260 : Int32) * (D.1 v0 45)) + v2) (S.2.1 (D.2.1 v0 44)) then ob_lt (ob_pI D (D.2.1 v0 44) (((260 : Int32) * (D.1 v0 45)) + v2).toNatClampNeg ((D.1 (D.2.1 v0 27) ((15 : Int32) + v2).toNatClampNeg).toInt8.toInt32)) fun D56 => f_Model_actTable_L82 S n v0 (v2 + (1 : Int32)) D56 else none else none else none else none)
theorem v_Model_actTable_L82 {l : Launch} {E : ob_E} {S : ob_S} {D' : ob_D} : ∀ (n : Nat), ∀ (v0 : Nat) (v2 : Int32) (D : ob_D), S.1 v0 = 13 → f_Model_actTable_L82 S n v0 v2 D = some D' → ob_V l E k_Model_actTable 82 [(0, .ref v0), (2, .int v2)] [] S D none S D' := by
  intro n
  induction n with
  | zero =>
    intro v0 v2 D hp_v0 h
    have h : none = some D' := h
    cases h
  | succ n ih =>
    intro v0 v2 D hp_v0 h
    rw [f_Model_actTable_L82] at h
    refine ob_iload d_Model_actTable_82 rfl ?_
    refine ob_aload d_Model_actTable_83 rfl ?_
    refine ob_getI d_Model_actTable_84 F_12_28 l_Model_258 hp_v0 ?_
    refine ob_push d_Model_actTable_87 ?_
    refine ob_isub d_Model_actTable_89 ?_
    refine ob_icmp_ge d_Model_actTable_90 (fun hc => ?_) (fun hc => ?_)
    · replace h := ob_ift hc h
      refine ob_aload d_Model_actTable_123 rfl ?_
      refine ob_dup d_Model_actTable_124 rfl ?_
      refine ob_getI d_Model_actTable_125 F_12_45 l_Model_369 hp_v0 ?_
      refine ob_push d_Model_actTable_128 ?_
      refine ob_iadd d_Model_actTable_129 ?_
      replace h := ob_lt_e h
      refine ob_putI d_Model_actTable_130 F_12_45 l_Model_369 hp_v0 ?_
      refine ob_goto d_Model_actTable_133 ?_
      exact ob_ve h (ob_vret d_Model_actTable_301 rfl)
    · replace h := ob_iff hc h
      refine ob_aload d_Model_actTable_93 rfl ?_
      obtain ⟨hg51, h⟩ := ob_gd h
      refine ob_getR d_Model_actTable_94 F_12_44 l_Model_70 hp_v0 hg51 (fun hk50 => ?_)
      refine ob_push d_Model_actTable_97 ?_
      refine ob_aload d_Model_actTable_100 rfl ?_
      refine ob_getI d_Model_actTable_101 F_12_45 l_Model_369 hp_v0 ?_
      refine ob_imul d_Model_actTable_104 ?_
      refine ob_iload d_Model_actTable_105 rfl ?_
      refine ob_iadd d_Model_actTable_106 ?_
      refine ob_aload d_Model_actTable_107 rfl ?_
      obtain ⟨hg53, h⟩ := ob_gd h
      refine ob_getR d_Model_actTable_108 F_12_27 l_Model_34 hp_v0 hg53 (fun hk52 => ?_)
      refine ob_push d_Model_actTable_111 ?_
      refine ob_iload d_Model_actTable_113 rfl ?_
      refine ob_iadd d_Model_actTable_114 ?_
      obtain ⟨hg54, h⟩ := ob_gd h
      refine ob_bald d_Model_actTable_115 hk52 hg54 ?_
      obtain ⟨hg55, h⟩ := ob_gd h
      replace h := ob_lt_e h
      refine ob_bast d_Model_actTable_116 hk50 hg55 ?_
      refine ob_iinc (lo2 := [(0, .ref v0), (2, .int (v2 + (1 : Int32)))]) d_Model_actTable_117 rfl rfl ?_
      refine ob_goto d_Model_actTable_120 ?_
      exact ih v0 (v2 + (1 : Int32)) (ob_pI D (D.2.1 v0 44) (((260 : Int32) * (D.1 v0 45)) + v2).toNatClampNeg ((D.1 (D.2.1 v0 27) ((15 : Int32) + v2).toNatClampNeg).toInt8.toInt32)) hp_v0 h
def f_Model_actTable (S : ob_S) (v0 : Nat) (v1 : Int32) (D : ob_D) : Option (ob_D) :=
  (if v1 = (1 : Int32) then f_Model_actTable_L10 S v0 v1 D else (if v1 = (2 : Int32) then f_Model_actTable_L10 S v0 v1 D else (if v1 = (3 : Int32) then ob_lt (ob_pI D v0 45 (0 : Int32)) fun D57 => ob_lt (ob_pI D57 v0 46 (0 : Int32)) fun D58 => some D58 else (if v1 = (4 : Int32) then if D.2.1 v0 42 ≠ 0 then ob_bd (f_Model_dataFour S v0 (0 : Int32) D) fun x42 D40 => if ob_in (D.1 v0 45) (S.2.1 (D.2.1 v0 42)) then ob_lt (ob_pI D40 (D.2.1 v0 42) (D.1 v0 45).toNatClampNeg x42) fun D44 => if D44.2.1 v0 43 ≠ 0 then if ob_in (D44.1 v0 45) (S.2.1 (D44.2.1 v0 43)) then ob_lt (ob_pI D44 (D44.2.1 v0 43) (D44.1 v0 45).toNatClampNeg ((D44.1 v0 28) - (17 : Int32))) fun D48 => f_Model_actTable_L82 S ob_FU v0 (0 : Int32) D48 else none else none else none else none else (if v1 = (5 : Int32) then ob_bd (f_Model_dataTwo S v0 (0 : Int32) D) fun x32 D30 => f_Model_actTable_L158 S ob_FU v0 (x32 &&& (16383 : Int32)) ((D30.1 v0 45) - (1 : Int32)) D30 else (if v1 = (15 : Int32) then f_Model_actTable_L193 S ob_FU v0 (0 : Int32) D else (if (32 : Int32) ≤ (D.1 v0 45) then f_Model_actTable_L242 S v0 (32 : Int32) D else f_Model_actTable_L242 S v0 (D.1 v0 45) D)))))))
theorem c_Model_actTable {l : Launch} {E : ob_E} {S : ob_S} {D : ob_D} {v0 : Nat} {v1 : Int32} {D' : ob_D} (hp_v0 : S.1 v0 = 13) (h : f_Model_actTable S v0 v1 D = some D') : ob_M l E k_Model_actTable [.ref v0, .int v1] S D none S D' := by
  refine ob_ofV (lo := [(0, .ref v0), (1, .int v1)]) (by decide) rfl (Nat.le_of_ble_eq_true rfl) rfl (Nat.le_refl _) (Nat.le_refl _) ?_
  rw [f_Model_actTable] at h
  refine ob_iload d_Model_actTable_0 rfl ?_
  refine ob_push d_Model_actTable_1 ?_
  refine ob_icmp_eq d_Model_actTable_2 (fun hc => ?_) (fun hc => ?_)
  · replace h := ob_ift hc h
    exact v_Model_actTable_L10 v0 v1 D hp_v0 h
  · replace h := ob_iff hc h
    refine ob_iload d_Model_actTable_5 rfl ?_
    refine ob_push d_Model_actTable_6 ?_
    refine ob_icmp_ne d_Model_actTable_7 (fun hc => ?_) (fun hc => ?_)
    · replace h := ob_iff hc h
      refine ob_iload d_Model_actTable_27 rfl ?_
      refine ob_push d_Model_actTable_28 ?_
      refine ob_icmp_ne d_Model_actTable_29 (fun hc => ?_) (fun hc => ?_)
      · replace h := ob_iff hc h
        refine ob_iload d_Model_actTable_45 rfl ?_
        refine ob_push d_Model_actTable_46 ?_
        refine ob_icmp_ne d_Model_actTable_47 (fun hc => ?_) (fun hc => ?_)
        · replace h := ob_iff hc h
          refine ob_iload d_Model_actTable_136 rfl ?_
          refine ob_push d_Model_actTable_137 ?_
          refine ob_icmp_ne d_Model_actTable_138 (fun hc => ?_) (fun hc => ?_)
          · replace h := ob_iff hc h
            refine ob_iload d_Model_actTable_185 rfl ?_
            refine ob_push d_Model_actTable_186 ?_
            refine ob_icmp_ne d_Model_actTable_188 (fun hc => ?_) (fun hc => ?_)
            · replace h := ob_iff hc h
              refine ob_aload d_Model_actTable_224 rfl ?_
              refine ob_getI d_Model_actTable_225 F_12_45 l_Model_369 hp_v0 ?_
              refine ob_push d_Model_actTable_228 ?_
              refine ob_icmp_ge d_Model_actTable_230 (fun hc => ?_) (fun hc => ?_)
              · replace h := ob_ift hc h
                refine ob_push d_Model_actTable_240 ?_
                refine ob_sub (lo2 := [(0, .ref v0)]) [0] rfl ?_
                exact v_Model_actTable_L242 v0 (32 : Int32) D hp_v0 h
              · replace h := ob_iff hc h
                refine ob_aload d_Model_actTable_233 rfl ?_
                refine ob_getI d_Model_actTable_234 F_12_45 l_Model_369 hp_v0 ?_
                refine ob_goto d_Model_actTable_237 ?_
                refine ob_sub (lo2 := [(0, .ref v0)]) [0] rfl ?_
                exact v_Model_actTable_L242 v0 (D.1 v0 45) D hp_v0 h
            · replace h := ob_ift hc h
              refine ob_push d_Model_actTable_191 ?_
              refine ob_istore (lo2 := [(0, .ref v0), (1, .int v1), (2, .int (0 : Int32))]) d_Model_actTable_192 rfl ?_
              refine ob_sub (lo2 := [(0, .ref v0), (2, .int (0 : Int32))]) [0, 2] rfl ?_
              exact v_Model_actTable_L193 ob_FU v0 (0 : Int32) D hp_v0 h
          · replace h := ob_ift hc h
            refine ob_aload d_Model_actTable_141 rfl ?_
            refine ob_push d_Model_actTable_142 ?_
            obtain ⟨x32, D30, h31, h⟩ := ob_bd_e h
            refine ob_callVi (As := [.int (0 : Int32)]) (rest := []) d_Model_actTable_143 c_Model_actTable_357 hp_v0 rfl rfl (Nat.le_of_ble_eq_true rfl) (c_Model_dataTwo hp_v0 h31) ⟨Nat.le_refl _, Nat.le_refl _⟩ ⟨Nat.le_refl _, Nat.le_refl _⟩ ?_
            refine ob_push d_Model_actTable_146 ?_
            refine ob_iand d_Model_actTable_149 ?_
            refine ob_istore (lo2 := [(0, .ref v0), (1, .int v1), (2, .int (x32 &&& (16383 : Int32)))]) d_Model_actTable_150 rfl ?_
            refine ob_aload d_Model_actTable_151 rfl ?_
            refine ob_getI d_Model_actTable_152 F_12_45 l_Model_369 hp_v0 ?_
            refine ob_push d_Model_actTable_155 ?_
            refine ob_isub d_Model_actTable_156 ?_
            refine ob_istore (lo2 := [(0, .ref v0), (1, .int v1), (2, .int (x32 &&& (16383 : Int32))), (3, .int ((D30.1 v0 45) - (1 : Int32)))]) d_Model_actTable_157 rfl ?_
            refine ob_sub (lo2 := [(0, .ref v0), (2, .int (x32 &&& (16383 : Int32))), (3, .int ((D30.1 v0 45) - (1 : Int32)))]) [0, 2, 3] rfl ?_
            exact v_Model_actTable_L158 ob_FU v0 (x32 &&& (16383 : Int32)) ((D30.1 v0 45) - (1 : Int32)) D30 hp_v0 h
        · replace h := ob_ift hc h
          refine ob_aload d_Model_actTable_50 rfl ?_
          obtain ⟨hg39, h⟩ := ob_gd h
          refine ob_getR d_Model_actTable_51 F_12_42 l_Model_64 hp_v0 hg39 (fun hk38 => ?_)
          refine ob_aload d_Model_actTable_54 rfl ?_
          refine ob_getI d_Model_actTable_55 F_12_45 l_Model_369 hp_v0 ?_
          refine ob_aload d_Model_actTable_58 rfl ?_
          refine ob_push d_Model_actTable_59 ?_
          obtain ⟨x42, D40, h41, h⟩ := ob_bd_e h
          refine ob_callVi (As := [.int (0 : Int32)]) (rest := [.int (D.1 v0 45), .ref (D.2.1 v0 42)]) d_Model_actTable_60 c_Model_actTable_360 hp_v0 rfl rfl (Nat.le_of_ble_eq_true rfl) (c_Model_dataFour hp_v0 h41) ⟨Nat.le_refl _, Nat.le_refl _⟩ ⟨Nat.le_refl _, Nat.le_refl _⟩ ?_
          obtain ⟨hg43, h⟩ := ob_gd h
          replace h := ob_lt_e h
          refine ob_iast d_Model_actTable_63 hk38 hg43 ?_
          refine ob_aload d_Model_actTable_64 rfl ?_
          obtain ⟨hg46, h⟩ := ob_gd h
          refine ob_getR d_Model_actTable_65 F_12_43 l_Model_67 hp_v0 hg46 (fun hk45 => ?_)
          refine ob_aload d_Model_actTable_68 rfl ?_
          refine ob_getI d_Model_actTable_69 F_12_45 l_Model_369 hp_v0 ?_
          refine ob_aload d_Model_actTable_72 rfl ?_
          refine ob_getI d_Model_actTable_73 F_12_28 l_Model_258 hp_v0 ?_
          refine ob_push d_Model_actTable_76 ?_
          refine ob_isub d_Model_actTable_78 ?_
          obtain ⟨hg47, h⟩ := ob_gd h
          replace h := ob_lt_e h
          refine ob_iast d_Model_actTable_79 hk45 hg47 ?_
          refine ob_push d_Model_actTable_80 ?_
          refine ob_istore (lo2 := [(0, .ref v0), (1, .int v1), (2, .int (0 : Int32))]) d_Model_actTable_81 rfl ?_
          refine ob_sub (lo2 := [(0, .ref v0), (2, .int (0 : Int32))]) [0, 2] rfl ?_
          exact v_Model_actTable_L82 ob_FU v0 (0 : Int32) (ob_pI (ob_pI D40 (D.2.1 v0 42) (D.1 v0 45).toNatClampNeg x42) ((ob_pI D40 (D.2.1 v0 42) (D.1 v0 45).toNatClampNeg x42).2.1 v0 43) ((ob_pI D40 (D.2.1 v0 42) (D.1 v0 45).toNatClampNeg x42).1 v0 45).toNatClampNeg (((ob_pI D40 (D.2.1 v0 42) (D.1 v0 45).toNatClampNeg x42).1 v0 28) - (17 : Int32))) hp_v0 h
      · replace h := ob_ift hc h
        refine ob_aload d_Model_actTable_32 rfl ?_
        refine ob_push d_Model_actTable_33 ?_
        replace h := ob_lt_e h
        refine ob_putI d_Model_actTable_34 F_12_45 l_Model_369 hp_v0 ?_
        refine ob_aload d_Model_actTable_37 rfl ?_
        refine ob_push d_Model_actTable_38 ?_
        replace h := ob_lt_e h
        refine ob_putZ d_Model_actTable_39 F_12_46 l_Model_380 hp_v0 (Or.inl rfl) ?_
        refine ob_goto d_Model_actTable_42 ?_
        exact ob_ve h (ob_vret d_Model_actTable_301 rfl)
    · replace h := ob_ift hc h
      exact v_Model_actTable_L10 v0 v1 D hp_v0 h
-- OrbitBoxModel.actLimit(I)V
theorem d_Model_actLimit_1 : ob_dk k_Model_actLimit 1 2 (0 : Int32) (.iconst 0) 1 := ⟨by decide +kernel, rfl, show Int32.ofInt 0 = (0 : Int32) by decide +kernel⟩
theorem d_Model_actLimit_11 : ob_dk k_Model_actLimit 11 12 (0 : Int32) (.iconst 0) 1 := ⟨by decide +kernel, rfl, show Int32.ofInt 0 = (0 : Int32) by decide +kernel⟩
theorem d_Model_actLimit_14 : ob_dk k_Model_actLimit 14 15 (5 : Int32) (.iconst 5) 1 := ⟨by decide +kernel, rfl, show Int32.ofInt 5 = (5 : Int32) by decide +kernel⟩
theorem d_Model_actLimit_115 : ob_dk k_Model_actLimit 115 117 (6 : Int32) (.bipush 6) 2 := ⟨by decide +kernel, rfl, show (Int8.ofInt 6).toInt32 = (6 : Int32) by decide +kernel⟩
theorem d_Model_actLimit_146 : ob_dk k_Model_actLimit 146 147 (1 : Int32) (.iconst 1) 1 := ⟨by decide +kernel, rfl, show Int32.ofInt 1 = (1 : Int32) by decide +kernel⟩
theorem d_Model_actLimit_154 : ob_dk k_Model_actLimit 154 155 (0 : Int32) (.iconst 0) 1 := ⟨by decide +kernel, rfl, show Int32.ofInt 0 = (0 : Int32) by decide +kernel⟩
theorem d_Model_actLimit_156 : ob_dc k_Model_actLimit 156 (.return_) 1 157 := ⟨by decide +kernel, rfl⟩
theorem d_Model_actLimit_155 : ob_dc k_Model_actLimit 155 (.bastore) 1 156 := ⟨by decide +kernel, rfl⟩
theorem d_Model_actLimit_150 : ob_dk k_Model_actLimit 150 151 (1 : Int32) (.iconst 1) 1 := ⟨by decide +kernel, rfl, show Int32.ofInt 1 = (1 : Int32) by decide +kernel⟩
theorem d_Model_actLimit_151 : ob_db k_Model_actLimit 151 (.goto 4) 4 154 155 := ⟨by decide +kernel, rfl, by decide⟩
theorem d_Model_actLimit_147 : ob_db k_Model_actLimit 147 (.if_icmp .ne 7) 7 150 154 := ⟨by decide +kernel, rfl, by decide⟩
theorem d_Model_actLimit_145 : ob_dv ob_lc k_Model_actLimit 145 146 1 (.iload_n 1) 1 := ⟨by decide +kernel, rfl, rfl⟩
theorem d_Model_actLimit_144 : ob_dv ob_lc k_Model_actLimit 144 145 2 (.iload_n 2) 1 := ⟨by decide +kernel, rfl, rfl⟩
theorem d_Model_actLimit_141 : ob_dc k_Model_actLimit 141 (.getfield 76) 3 144 := ⟨by decide +kernel, rfl⟩
theorem d_Model_actLimit_140 : ob_dv ob_ac k_Model_actLimit 140 141 0 (.aload_n 0) 1 := ⟨by decide +kernel, rfl, rfl⟩
theorem d_Model_actLimit_125 : ob_dk k_Model_actLimit 125 126 (0 : Int32) (.iconst 0) 1 := ⟨by decide +kernel, rfl, show Int32.ofInt 0 = (0 : Int32) by decide +kernel⟩
theorem d_Model_actLimit_132 : ob_dk k_Model_actLimit 132 133 (1 : Int32) (.iconst 1) 1 := ⟨by decide +kernel, rfl, show Int32.ofInt 1 = (1 : Int32) by decide +kernel⟩
theorem d_Model_actLimit_137 : ob_db k_Model_actLimit 137 (.goto 19) 19 140 156 := ⟨by decide +kernel, rfl, by decide⟩
theorem d_Model_actLimit_134 : ob_dc k_Model_actLimit 134 (.putfield 389) 3 137 := ⟨by decide +kernel, rfl⟩
theorem d_Model_actLimit_133 : ob_dc k_Model_actLimit 133 (.isub) 1 134 := ⟨by decide +kernel, rfl⟩
theorem d_Model_actLimit_129 : ob_dc k_Model_actLimit 129 (.getfield 389) 3 132 := ⟨by decide +kernel, rfl⟩
theorem d_Model_actLimit_128 : ob_dc k_Model_actLimit 128 (.dup) 1 129 := ⟨by decide +kernel, rfl⟩
theorem d_Model_actLimit_127 : ob_dv ob_ac k_Model_actLimit 127 128 0 (.aload_n 0) 1 := ⟨by decide +kernel, rfl, rfl⟩
theorem d_Model_actLimit_126 : ob_dc k_Model_actLimit 126 (.bastore) 1 127 := ⟨by decide +kernel, rfl⟩
theorem d_Model_actLimit_124 : ob_dv ob_lc k_Model_actLimit 124 125 2 (.iload_n 2) 1 := ⟨by decide +kernel, rfl, rfl⟩
theorem d_Model_actLimit_121 : ob_dc k_Model_actLimit 121 (.getfield 73) 3 124 := ⟨by decide +kernel, rfl⟩
theorem d_Model_actLimit_120 : ob_dv ob_ac k_Model_actLimit 120 121 0 (.aload_n 0) 1 := ⟨by decide +kernel, rfl, rfl⟩
theorem d_Model_actLimit_117 : ob_db k_Model_actLimit 117 (.if_icmp .ne 23) 23 120 140 := ⟨by decide +kernel, rfl, by decide⟩
theorem d_Model_actLimit_114 : ob_dv ob_lc k_Model_actLimit 114 115 1 (.iload_n 1) 1 := ⟨by decide +kernel, rfl, rfl⟩
theorem d_Model_actLimit_23 : ob_dk k_Model_actLimit 23 24 (1 : Int32) (.iconst 1) 1 := ⟨by decide +kernel, rfl, show Int32.ofInt 1 = (1 : Int32) by decide +kernel⟩
theorem d_Model_actLimit_30 : ob_dk k_Model_actLimit 30 31 (0 : Int32) (.iconst 0) 1 := ⟨by decide +kernel, rfl, show Int32.ofInt 0 = (0 : Int32) by decide +kernel⟩
theorem d_Model_actLimit_38 : ob_dk k_Model_actLimit 38 39 (1 : Int32) (.iconst 1) 1 := ⟨by decide +kernel, rfl, show Int32.ofInt 1 = (1 : Int32) by decide +kernel⟩
theorem d_Model_actLimit_49 : ob_dk k_Model_actLimit 49 50 (2 : Int32) (.iconst 2) 1 := ⟨by decide +kernel, rfl, show Int32.ofInt 2 = (2 : Int32) by decide +kernel⟩
theorem d_Model_actLimit_60 : ob_dk k_Model_actLimit 60 61 (3 : Int32) (.iconst 3) 1 := ⟨by decide +kernel, rfl, show Int32.ofInt 3 = (3 : Int32) by decide +kernel⟩
theorem d_Model_actLimit_71 : ob_dk k_Model_actLimit 71 73 (7 : Int32) (.bipush 7) 2 := ⟨by decide +kernel, rfl, show (Int8.ofInt 7).toInt32 = (7 : Int32) by decide +kernel⟩
theorem d_Model_actLimit_83 : ob_dk k_Model_actLimit 83 85 (11 : Int32) (.bipush 11) 2 := ⟨by decide +kernel, rfl, show (Int8.ofInt 11).toInt32 = (11 : Int32) by decide +kernel⟩
theorem d_Model_actLimit_95 : ob_dk k_Model_actLimit 95 97 (12 : Int32) (.bipush 12) 2 := ⟨by decide +kernel, rfl, show (Int8.ofInt 12).toInt32 = (12 : Int32) by decide +kernel⟩
theorem d_Model_actLimit_106 : ob_dk k_Model_actLimit 106 107 (1 : Int32) (.iconst 1) 1 := ⟨by decide +kernel, rfl, show Int32.ofInt 1 = (1 : Int32) by decide +kernel⟩
theorem d_Model_actLimit_111 : ob_db k_Model_actLimit 111 (.goto 45) 45 114 156 := ⟨by decide +kernel, rfl, by decide⟩
theorem d_Model_actLimit_108 : ob_dc k_Model_actLimit 108 (.putfield 389) 3 111 := ⟨by decide +kernel, rfl⟩
theorem d_Model_actLimit_107 : ob_dc k_Model_actLimit 107 (.iadd) 1 108 := ⟨by decide +kernel, rfl⟩
theorem d_Model_actLimit_103 : ob_dc k_Model_actLimit 103 (.getfield 389) 3 106 := ⟨by decide +kernel, rfl⟩
theorem d_Model_actLimit_102 : ob_dc k_Model_actLimit 102 (.dup) 1 103 := ⟨by decide +kernel, rfl⟩
theorem d_Model_actLimit_101 : ob_dv ob_ac k_Model_actLimit 101 102 0 (.aload_n 0) 1 := ⟨by decide +kernel, rfl, rfl⟩
theorem d_Model_actLimit_100 : ob_dc k_Model_actLimit 100 (.iastore) 1 101 := ⟨by decide +kernel, rfl⟩
theorem d_Model_actLimit_97 : ob_dc k_Model_actLimit 97 (.invokevirtual 302) 3 100 := ⟨by decide +kernel, rfl⟩
theorem d_Model_actLimit_94 : ob_dv ob_ac k_Model_actLimit 94 95 0 (.aload_n 0) 1 := ⟨by decide +kernel, rfl, rfl⟩
theorem d_Model_actLimit_93 : ob_dv ob_lc k_Model_actLimit 93 94 2 (.iload_n 2) 1 := ⟨by decide +kernel, rfl, rfl⟩
theorem d_Model_actLimit_90 : ob_dc k_Model_actLimit 90 (.getfield 94) 3 93 := ⟨by decide +kernel, rfl⟩
theorem d_Model_actLimit_89 : ob_dv ob_ac k_Model_actLimit 89 90 0 (.aload_n 0) 1 := ⟨by decide +kernel, rfl, rfl⟩
theorem d_Model_actLimit_88 : ob_dc k_Model_actLimit 88 (.iastore) 1 89 := ⟨by decide +kernel, rfl⟩
theorem d_Model_actLimit_85 : ob_dc k_Model_actLimit 85 (.invokevirtual 302) 3 88 := ⟨by decide +kernel, rfl⟩
theorem d_Model_actLimit_82 : ob_dv ob_ac k_Model_actLimit 82 83 0 (.aload_n 0) 1 := ⟨by decide +kernel, rfl, rfl⟩
theorem d_Model_actLimit_81 : ob_dv ob_lc k_Model_actLimit 81 82 2 (.iload_n 2) 1 := ⟨by decide +kernel, rfl, rfl⟩
theorem d_Model_actLimit_78 : ob_dc k_Model_actLimit 78 (.getfield 91) 3 81 := ⟨by decide +kernel, rfl⟩
theorem d_Model_actLimit_77 : ob_dv ob_ac k_Model_actLimit 77 78 0 (.aload_n 0) 1 := ⟨by decide +kernel, rfl, rfl⟩
theorem d_Model_actLimit_76 : ob_dc k_Model_actLimit 76 (.iastore) 1 77 := ⟨by decide +kernel, rfl⟩
theorem d_Model_actLimit_73 : ob_dc k_Model_actLimit 73 (.invokevirtual 360) 3 76 := ⟨by decide +kernel, rfl⟩
theorem d_Model_actLimit_70 : ob_dv ob_ac k_Model_actLimit 70 71 0 (.aload_n 0) 1 := ⟨by decide +kernel, rfl, rfl⟩
theorem d_Model_actLimit_69 : ob_dv ob_lc k_Model_actLimit 69 70 2 (.iload_n 2) 1 := ⟨by decide +kernel, rfl, rfl⟩
theorem d_Model_actLimit_66 : ob_dc k_Model_actLimit 66 (.getfield 88) 3 69 := ⟨by decide +kernel, rfl⟩
theorem d_Model_actLimit_65 : ob_dv ob_ac k_Model_actLimit 65 66 0 (.aload_n 0) 1 := ⟨by decide +kernel, rfl, rfl⟩
theorem d_Model_actLimit_64 : ob_dc k_Model_actLimit 64 (.iastore) 1 65 := ⟨by decide +kernel, rfl⟩
theorem d_Model_actLimit_61 : ob_dc k_Model_actLimit 61 (.invokevirtual 360) 3 64 := ⟨by decide +kernel, rfl⟩
theorem d_Model_actLimit_59 : ob_dv ob_ac k_Model_actLimit 59 60 0 (.aload_n 0) 1 := ⟨by decide +kernel, rfl, rfl⟩
theorem d_Model_actLimit_58 : ob_dv ob_lc k_Model_actLimit 58 59 2 (.iload_n 2) 1 := ⟨by decide +kernel, rfl, rfl⟩
theorem d_Model_actLimit_55 : ob_dc k_Model_actLimit 55 (.getfield 85) 3 58 := ⟨by decide +kernel, rfl⟩
theorem d_Model_actLimit_54 : ob_dv ob_ac k_Model_actLimit 54 55 0 (.aload_n 0) 1 := ⟨by decide +kernel, rfl, rfl⟩
theorem d_Model_actLimit_53 : ob_dc k_Model_actLimit 53 (.iastore) 1 54 := ⟨by decide +kernel, rfl⟩
theorem d_Model_actLimit_50 : ob_dc k_Model_actLimit 50 (.invokevirtual 302) 3 53 := ⟨by decide +kernel, rfl⟩
theorem d_Model_actLimit_48 : ob_dv ob_ac k_Model_actLimit 48 49 0 (.aload_n 0) 1 := ⟨by decide +kernel, rfl, rfl⟩
theorem d_Model_actLimit_47 : ob_dv ob_lc k_Model_actLimit 47 48 2 (.iload_n 2) 1 := ⟨by decide +kernel, rfl, rfl⟩
theorem d_Model_actLimit_44 : ob_dc k_Model_actLimit 44 (.getfield 82) 3 47 := ⟨by decide +kernel, rfl⟩
theorem d_Model_actLimit_43 : ob_dv ob_ac k_Model_actLimit 43 44 0 (.aload_n 0) 1 := ⟨by decide +kernel, rfl, rfl⟩
theorem d_Model_actLimit_42 : ob_dc k_Model_actLimit 42 (.iastore) 1 43 := ⟨by decide +kernel, rfl⟩
theorem d_Model_actLimit_39 : ob_dc k_Model_actLimit 39 (.invokevirtual 302) 3 42 := ⟨by decide +kernel, rfl⟩
theorem d_Model_actLimit_37 : ob_dv ob_ac k_Model_actLimit 37 38 0 (.aload_n 0) 1 := ⟨by decide +kernel, rfl, rfl⟩
theorem d_Model_actLimit_36 : ob_dv ob_lc k_Model_actLimit 36 37 2 (.iload_n 2) 1 := ⟨by decide +kernel, rfl, rfl⟩
theorem d_Model_actLimit_33 : ob_dc k_Model_actLimit 33 (.getfield 79) 3 36 := ⟨by decide +kernel, rfl⟩
theorem d_Model_actLimit_32 : ob_dv ob_ac k_Model_actLimit 32 33 0 (.aload_n 0) 1 := ⟨by decide +kernel, rfl, rfl⟩
theorem d_Model_actLimit_31 : ob_dc k_Model_actLimit 31 (.bastore) 1 32 := ⟨by decide +kernel, rfl⟩
theorem d_Model_actLimit_29 : ob_dv ob_lc k_Model_actLimit 29 30 2 (.iload_n 2) 1 := ⟨by decide +kernel, rfl, rfl⟩
theorem d_Model_actLimit_26 : ob_dc k_Model_actLimit 26 (.getfield 76) 3 29 := ⟨by decide +kernel, rfl⟩
theorem d_Model_actLimit_25 : ob_dv ob_ac k_Model_actLimit 25 26 0 (.aload_n 0) 1 := ⟨by decide +kernel, rfl, rfl⟩
theorem d_Model_actLimit_24 : ob_dc k_Model_actLimit 24 (.bastore) 1 25 := ⟨by decide +kernel, rfl⟩
theorem d_Model_actLimit_22 : ob_dv ob_lc k_Model_actLimit 22 23 2 (.iload_n 2) 1 := ⟨by decide +kernel, rfl, rfl⟩
theorem d_Model_actLimit_19 : ob_dc k_Model_actLimit 19 (.getfield 73) 3 22 := ⟨by decide +kernel, rfl⟩
theorem d_Model_actLimit_18 : ob_dv ob_ac k_Model_actLimit 18 19 0 (.aload_n 0) 1 := ⟨by decide +kernel, rfl, rfl⟩
theorem d_Model_actLimit_15 : ob_db k_Model_actLimit 15 (.if_icmp .ne 99) 99 18 114 := ⟨by decide +kernel, rfl, by decide⟩
theorem d_Model_actLimit_13 : ob_dv ob_lc k_Model_actLimit 13 14 1 (.iload_n 1) 1 := ⟨by decide +kernel, rfl, rfl⟩
theorem d_Model_actLimit_12 : ob_dc k_Model_actLimit 12 (.iastore) 1 13 := ⟨by decide +kernel, rfl⟩
theorem d_Model_actLimit_10 : ob_dv ob_lc k_Model_actLimit 10 11 2 (.iload_n 2) 1 := ⟨by decide +kernel, rfl, rfl⟩
theorem d_Model_actLimit_7 : ob_dc k_Model_actLimit 7 (.getfield 97) 3 10 := ⟨by decide +kernel, rfl⟩
theorem d_Model_actLimit_6 : ob_dv ob_ac k_Model_actLimit 6 7 0 (.aload_n 0) 1 := ⟨by decide +kernel, rfl, rfl⟩
theorem d_Model_actLimit_5 : ob_dv (ob_sc k_Model_actLimit.2.2.2.1) k_Model_actLimit 5 6 2 (.istore_n 2) 1 := ⟨by decide +kernel, rfl, ⟨rfl, by decide +kernel⟩⟩
theorem d_Model_actLimit_2 : ob_dc k_Model_actLimit 2 (.invokevirtual 302) 3 5 := ⟨by decide +kernel, rfl⟩
theorem d_Model_actLimit_0 : ob_dv ob_ac k_Model_actLimit 0 1 0 (.aload_n 0) 1 := ⟨by decide +kernel, rfl, rfl⟩
theorem c_Model_actLimit_302 : ob_vd k_Model_actLimit k_Model_data 302 1 12 := ⟨cw_Model_data, yd_Model_data, w_1504, w_1506, wp_72, w_14, ⟨_, _, rfl⟩, by decide, by decide⟩
theorem c_Model_actLimit_360 : ob_vd k_Model_actLimit k_Model_dataFour 360 1 12 := ⟨cw_Model_dataFour, yd_Model_dataFour, w_1524, w_1526, wp_77, w_14, ⟨_, _, rfl⟩, by decide, by decide⟩
def f_Model_actLimit (S : ob_S) (v0 : Nat) (v1 : Int32) (D : ob_D) : Option (ob_D) :=
  ob_bd (f_Model_data S v0 (0 : Int32) D) fun x3 D1 => if D1.2.1 v0 55 ≠ 0 then if ob_in x3 (S.2.1 (D1.2.1 v0 55)) then ob_lt (ob_pI D1 (D1.2.1 v0 55) x3.toNatClampNeg (0 : Int32)) fun D7 => (if v1 = (5 : Int32) then if D7.2.1 v0 47 ≠ 0 then if ob_in x3 (S.2.1 (D7.2.1 v0 47)) then ob_lt (ob_pI D7 (D7.2.1 v0 47) x3.toNatClampNeg ((1 : Int32) &&& 1)) fun D22 => if D22.2.1 v0 48 ≠ 0 then if ob_in x3 (S.2.1 (D22.2.1 v0 48)) then ob_lt (ob_pI D22 (D22.2.1 v0 48) x3.toNatClampNeg ((0 : Int32) &&& 1)) fun D26 => if D26.2.1 v0 49 ≠ 0 then ob_bd (f_Model_data S v0 (1 : Int32) D26) fun x31 D29 => if ob_in x3 (S.2.1 (D26.2.1 v0 49)) then ob_lt (ob_pI D29 (D26.2.1 v0 49) x3.toNatClampNeg x31) fun D33 => if D33.2.1 v0 50 ≠ 0 then ob_bd (f_Model_data S v0 (2 : Int32) D33) fun x38 D36 => if ob_in x3 (S.2.1 (D33.2.1 v0 50)) then ob_lt (ob_pI D36 (D33.2.1 v0 50) x3.toNatClampNeg x38) fun D40 => if D40.2.1 v0 51 ≠ 0 then ob_bd (f_Model_dataFour S v0 (3 : Int32) D40) fun x45 D43 => if ob_in x3 (S.2.1 (D40.2.1 v0 51)) then ob_lt (ob_pI D43 (D40.2.1 v0 51) x3.toNatClampNeg x45) fun D47 => if D47.2.1 v0 52 ≠ 0 then ob_bd (f_Model_dataFour S v0 (7 : Int32) D47) fun x52 D50 => if ob_in x3 (S.2.1 (D47.2.1 v0 52)) then ob_lt (ob_pI D50 (D47.2.1 v0 52) x3.toNatClampNeg x52) fun D54 => if D54.2.1 v0 53 ≠ 0 then ob_bd (f_Model_data S v0 (11 : Int32) D54) fun x59 D57 => if ob_in x3 (S.2.1 (D54.2.1 v0 53)) then ob_lt (ob_pI D57 (D54.2.1 v0 53) x3.toNatClampNeg x59) fun D61 => if D61.2.1 v0 54 ≠ 0 then ob_bd (f_Model_data S v0 (12 : Int32) D61) fun x66 D64 => if ob_in x3 (S.2.1 (D61.2.1 v0 54)) then ob_lt (ob_pI D64 (D61.2.1 v0 54) x3.toNatClampNeg x66) fun D68 => ob_lt (ob_pI D68 v0 56 ((D68.1 v0 56) + (1 : Int32))) fun D69 => some D69 else none else none else none else none else none else none else none else none else none else none else none else none else none else none else none else none else (if v1 = (6 : Int32) then if D7.2.1 v0 47 ≠ 0 then if ob_in x3 (S.2.1 (D7.2.1 v0 47)) then ob_lt (ob_pI D7 (D7.2.1 v0 47) x3.toNatClampNeg ((0 : Int32) &&& 1)) fun D17 => ob_lt (ob_pI D17 v0 56 ((D17.1 v0 56) - (1 : Int32))) fun D18 => some D18 else none else none else if D7.2.1 v0 48 ≠ 0 then (if v1 = (1 : Int32) then if ob_in x3 (S.2.1 (D7.2.1 v0 48)) then ob_lt (ob_pI D7 (D7.2.1 v0 48) x3.toNatClampNeg ((1 : Int32) &&& 1)) fun D13 => some D13 else none else if ob_in x3 (S.2.1 (D7.2.1 v0 48)) then ob_lt (ob_pI D7 (D7.2.1 v0 48) x3.toNatClampNeg ((0 : Int32) &&& 1)) fun D11 => some D11 else none) else none)) else none else none
theorem c_Model_actLimit {l : Launch} {E : ob_E} {S : ob_S} {D : ob_D} {v0 : Nat} {v1 : Int32} {D' : ob_D} (hp_v0 : S.1 v0 = 13) (h : f_Model_actLimit S v0 v1 D = some D') : ob_M l E k_Model_actLimit [.ref v0, .int v1] S D none S D' := by
  refine ob_ofV (lo := [(0, .ref v0), (1, .int v1)]) (by decide) rfl (Nat.le_of_ble_eq_true rfl) rfl (Nat.le_refl _) (Nat.le_refl _) ?_
  rw [f_Model_actLimit] at h
  refine ob_aload d_Model_actLimit_0 rfl ?_
  refine ob_push d_Model_actLimit_1 ?_
  obtain ⟨x3, D1, h2, h⟩ := ob_bd_e h
  refine ob_callVi (As := [.int (0 : Int32)]) (rest := []) d_Model_actLimit_2 c_Model_actLimit_302 hp_v0 rfl rfl (Nat.le_of_ble_eq_true rfl) (c_Model_data hp_v0 h2) ⟨Nat.le_refl _, Nat.le_refl _⟩ ⟨Nat.le_refl _, Nat.le_refl _⟩ ?_
  refine ob_istore (lo2 := [(0, .ref v0), (1, .int v1), (2, .int x3)]) d_Model_actLimit_5 rfl ?_
  refine ob_aload d_Model_actLimit_6 rfl ?_
  obtain ⟨hg5, h⟩ := ob_gd h
  refine ob_getR d_Model_actLimit_7 F_12_55 l_Model_97 hp_v0 hg5 (fun hk4 => ?_)
  refine ob_iload d_Model_actLimit_10 rfl ?_
  refine ob_push d_Model_actLimit_11 ?_
  obtain ⟨hg6, h⟩ := ob_gd h
  replace h := ob_lt_e h
  refine ob_iast d_Model_actLimit_12 hk4 hg6 ?_
  refine ob_iload d_Model_actLimit_13 rfl ?_
  refine ob_push d_Model_actLimit_14 ?_
  refine ob_icmp_ne d_Model_actLimit_15 (fun hc => ?_) (fun hc => ?_)
  · replace h := ob_iff hc h
    refine ob_iload d_Model_actLimit_114 rfl ?_
    refine ob_push d_Model_actLimit_115 ?_
    refine ob_icmp_ne d_Model_actLimit_117 (fun hc => ?_) (fun hc => ?_)
    · replace h := ob_iff hc h
      refine ob_aload d_Model_actLimit_140 rfl ?_
      obtain ⟨hg9, h⟩ := ob_gd h
      refine ob_getR d_Model_actLimit_141 F_12_48 l_Model_76 hp_v0 hg9 (fun hk8 => ?_)
      refine ob_iload d_Model_actLimit_144 rfl ?_
      refine ob_iload d_Model_actLimit_145 rfl ?_
      refine ob_push d_Model_actLimit_146 ?_
      refine ob_icmp_ne d_Model_actLimit_147 (fun hc => ?_) (fun hc => ?_)
      · replace h := ob_iff hc h
        refine ob_push d_Model_actLimit_154 ?_
        obtain ⟨hg10, h⟩ := ob_gd h
        replace h := ob_lt_e h
        refine ob_zast d_Model_actLimit_155 hk8 hg10 ?_
        exact ob_ve h (ob_vret d_Model_actLimit_156 rfl)
      · replace h := ob_ift hc h
        refine ob_push d_Model_actLimit_150 ?_
        refine ob_goto d_Model_actLimit_151 ?_
        obtain ⟨hg12, h⟩ := ob_gd h
        replace h := ob_lt_e h
        refine ob_zast d_Model_actLimit_155 hk8 hg12 ?_
        exact ob_ve h (ob_vret d_Model_actLimit_156 rfl)
    · replace h := ob_ift hc h
      refine ob_aload d_Model_actLimit_120 rfl ?_
      obtain ⟨hg15, h⟩ := ob_gd h
      refine ob_getR d_Model_actLimit_121 F_12_47 l_Model_73 hp_v0 hg15 (fun hk14 => ?_)
      refine ob_iload d_Model_actLimit_124 rfl ?_
      refine ob_push d_Model_actLimit_125 ?_
      obtain ⟨hg16, h⟩ := ob_gd h
      replace h := ob_lt_e h
      refine ob_zast d_Model_actLimit_126 hk14 hg16 ?_
      refine ob_aload d_Model_actLimit_127 rfl ?_
      refine ob_dup d_Model_actLimit_128 rfl ?_
      refine ob_getI d_Model_actLimit_129 F_12_56 l_Model_389 hp_v0 ?_
      refine ob_push d_Model_actLimit_132 ?_
      refine ob_isub d_Model_actLimit_133 ?_
      replace h := ob_lt_e h
      refine ob_putI d_Model_actLimit_134 F_12_56 l_Model_389 hp_v0 ?_
      refine ob_goto d_Model_actLimit_137 ?_
      exact ob_ve h (ob_vret d_Model_actLimit_156 rfl)
  · replace h := ob_ift hc h
    refine ob_aload d_Model_actLimit_18 rfl ?_
    obtain ⟨hg20, h⟩ := ob_gd h
    refine ob_getR d_Model_actLimit_19 F_12_47 l_Model_73 hp_v0 hg20 (fun hk19 => ?_)
    refine ob_iload d_Model_actLimit_22 rfl ?_
    refine ob_push d_Model_actLimit_23 ?_
    obtain ⟨hg21, h⟩ := ob_gd h
    replace h := ob_lt_e h
    refine ob_zast d_Model_actLimit_24 hk19 hg21 ?_
    refine ob_aload d_Model_actLimit_25 rfl ?_
    obtain ⟨hg24, h⟩ := ob_gd h
    refine ob_getR d_Model_actLimit_26 F_12_48 l_Model_76 hp_v0 hg24 (fun hk23 => ?_)
    refine ob_iload d_Model_actLimit_29 rfl ?_
    refine ob_push d_Model_actLimit_30 ?_
    obtain ⟨hg25, h⟩ := ob_gd h
    replace h := ob_lt_e h
    refine ob_zast d_Model_actLimit_31 hk23 hg25 ?_
    refine ob_aload d_Model_actLimit_32 rfl ?_
    obtain ⟨hg28, h⟩ := ob_gd h
    refine ob_getR d_Model_actLimit_33 F_12_49 l_Model_79 hp_v0 hg28 (fun hk27 => ?_)
    refine ob_iload d_Model_actLimit_36 rfl ?_
    refine ob_aload d_Model_actLimit_37 rfl ?_
    refine ob_push d_Model_actLimit_38 ?_
    obtain ⟨x31, D29, h30, h⟩ := ob_bd_e h
    refine ob_callVi (As := [.int (1 : Int32)]) (rest := [.int x3, .ref ((ob_pI (ob_pI (ob_pI D1 (D1.2.1 v0 55) x3.toNatClampNeg (0 : Int32)) ((ob_pI D1 (D1.2.1 v0 55) x3.toNatClampNeg (0 : Int32)).2.1 v0 47) x3.toNatClampNeg ((1 : Int32) &&& 1)) ((ob_pI (ob_pI D1 (D1.2.1 v0 55) x3.toNatClampNeg (0 : Int32)) ((ob_pI D1 (D1.2.1 v0 55) x3.toNatClampNeg (0 : Int32)).2.1 v0 47) x3.toNatClampNeg ((1 : Int32) &&& 1)).2.1 v0 48) x3.toNatClampNeg ((0 : Int32) &&& 1)).2.1 v0 49)]) d_Model_actLimit_39 c_Model_actLimit_302 hp_v0 rfl rfl (Nat.le_of_ble_eq_true rfl) (c_Model_data hp_v0 h30) ⟨Nat.le_refl _, Nat.le_refl _⟩ ⟨Nat.le_refl _, Nat.le_refl _⟩ ?_
    obtain ⟨hg32, h⟩ := ob_gd h
    replace h := ob_lt_e h
    refine ob_iast d_Model_actLimit_42 hk27 hg32 ?_
    refine ob_aload d_Model_actLimit_43 rfl ?_
    obtain ⟨hg35, h⟩ := ob_gd h
    refine ob_getR d_Model_actLimit_44 F_12_50 l_Model_82 hp_v0 hg35 (fun hk34 => ?_)
    refine ob_iload d_Model_actLimit_47 rfl ?_
    refine ob_aload d_Model_actLimit_48 rfl ?_
    refine ob_push d_Model_actLimit_49 ?_
    obtain ⟨x38, D36, h37, h⟩ := ob_bd_e h
    refine ob_callVi (As := [.int (2 : Int32)]) (rest := [.int x3, .ref ((ob_pI D29 ((ob_pI (ob_pI (ob_pI D1 (D1.2.1 v0 55) x3.toNatClampNeg (0 : Int32)) ((ob_pI D1 (D1.2.1 v0 55) x3.toNatClampNeg (0 : Int32)).2.1 v0 47) x3.toNatClampNeg ((1 : Int32) &&& 1)) ((ob_pI (ob_pI D1 (D1.2.1 v0 55) x3.toNatClampNeg (0 : Int32)) ((ob_pI D1 (D1.2.1 v0 55) x3.toNatClampNeg (0 : Int32)).2.1 v0 47) x3.toNatClampNeg ((1 : Int32) &&& 1)).2.1 v0 48) x3.toNatClampNeg ((0 : Int32) &&& 1)).2.1 v0 49) x3.toNatClampNeg x31).2.1 v0 50)]) d_Model_actLimit_50 c_Model_actLimit_302 hp_v0 rfl rfl (Nat.le_of_ble_eq_true rfl) (c_Model_data hp_v0 h37) ⟨Nat.le_refl _, Nat.le_refl _⟩ ⟨Nat.le_refl _, Nat.le_refl _⟩ ?_
    obtain ⟨hg39, h⟩ := ob_gd h
    replace h := ob_lt_e h
    refine ob_iast d_Model_actLimit_53 hk34 hg39 ?_
    refine ob_aload d_Model_actLimit_54 rfl ?_
    obtain ⟨hg42, h⟩ := ob_gd h
    refine ob_getR d_Model_actLimit_55 F_12_51 l_Model_85 hp_v0 hg42 (fun hk41 => ?_)
    refine ob_iload d_Model_actLimit_58 rfl ?_
    refine ob_aload d_Model_actLimit_59 rfl ?_
    refine ob_push d_Model_actLimit_60 ?_
    obtain ⟨x45, D43, h44, h⟩ := ob_bd_e h
    refine ob_callVi (As := [.int (3 : Int32)]) (rest := [.int x3, .ref ((ob_pI D36 ((ob_pI D29 ((ob_pI (ob_pI (ob_pI D1 (D1.2.1 v0 55) x3.toNatClampNeg (0 : Int32)) ((ob_pI D1 (D1.2.1 v0 55) x3.toNatClampNeg (0 : Int32)).2.1 v0 47) x3.toNatClampNeg ((1 : Int32) &&& 1)) ((ob_pI (ob_pI D1 (D1.2.1 v0 55) x3.toNatClampNeg (0 : Int32)) ((ob_pI D1 (D1.2.1 v0 55) x3.toNatClampNeg (0 : Int32)).2.1 v0 47) x3.toNatClampNeg ((1 : Int32) &&& 1)).2.1 v0 48) x3.toNatClampNeg ((0 : Int32) &&& 1)).2.1 v0 49) x3.toNatClampNeg x31).2.1 v0 50) x3.toNatClampNeg x38).2.1 v0 51)]) d_Model_actLimit_61 c_Model_actLimit_360 hp_v0 rfl rfl (Nat.le_of_ble_eq_true rfl) (c_Model_dataFour hp_v0 h44) ⟨Nat.le_refl _, Nat.le_refl _⟩ ⟨Nat.le_refl _, Nat.le_refl _⟩ ?_
    obtain ⟨hg46, h⟩ := ob_gd h
    replace h := ob_lt_e h
    refine ob_iast d_Model_actLimit_64 hk41 hg46 ?_
    refine ob_aload d_Model_actLimit_65 rfl ?_
    obtain ⟨hg49, h⟩ := ob_gd h
    refine ob_getR d_Model_actLimit_66 F_12_52 l_Model_88 hp_v0 hg49 (fun hk48 => ?_)
    refine ob_iload d_Model_actLimit_69 rfl ?_
    refine ob_aload d_Model_actLimit_70 rfl ?_
    refine ob_push d_Model_actLimit_71 ?_
    obtain ⟨x52, D50, h51, h⟩ := ob_bd_e h
    refine ob_callVi (As := [.int (7 : Int32)]) (rest := [.int x3, .ref ((ob_pI D43 ((ob_pI D36 ((ob_pI D29 ((ob_pI (ob_pI (ob_pI D1 (D1.2.1 v0 55) x3.toNatClampNeg (0 : Int32)) ((ob_pI D1 (D1.2.1 v0 55) x3.toNatClampNeg (0 : Int32)).2.1 v0 47) x3.toNatClampNeg ((1 : Int32) &&& 1)) ((ob_pI (ob_pI D1 (D1.2.1 v0 55) x3.toNatClampNeg (0 : Int32)) ((ob_pI D1 (D1.2.1 v0 55) x3.toNatClampNeg (0 : Int32)).2.1 v0 47) x3.toNatClampNeg ((1 : Int32) &&& 1)).2.1 v0 48) x3.toNatClampNeg ((0 : Int32) &&& 1)).2.1 v0 49) x3.toNatClampNeg x31).2.1 v0 50) x3.toNatClampNeg x38).2.1 v0 51) x3.toNatClampNeg x45).2.1 v0 52)]) d_Model_actLimit_73 c_Model_actLimit_360 hp_v0 rfl rfl (Nat.le_of_ble_eq_true rfl) (c_Model_dataFour hp_v0 h51) ⟨Nat.le_refl _, Nat.le_refl _⟩ ⟨Nat.le_refl _, Nat.le_refl _⟩ ?_
    obtain ⟨hg53, h⟩ := ob_gd h
    replace h := ob_lt_e h
    refine ob_iast d_Model_actLimit_76 hk48 hg53 ?_
    refine ob_aload d_Model_actLimit_77 rfl ?_
    obtain ⟨hg56, h⟩ := ob_gd h
    refine ob_getR d_Model_actLimit_78 F_12_53 l_Model_91 hp_v0 hg56 (fun hk55 => ?_)
    refine ob_iload d_Model_actLimit_81 rfl ?_
    refine ob_aload d_Model_actLimit_82 rfl ?_
    refine ob_push d_Model_actLimit_83 ?_
    obtain ⟨x59, D57, h58, h⟩ := ob_bd_e h
    refine ob_callVi (As := [.int (11 : Int32)]) (rest := [.int x3, .ref ((ob_pI D50 ((ob_pI D43 ((ob_pI D36 ((ob_pI D29 ((ob_pI (ob_pI (ob_pI D1 (D1.2.1 v0 55) x3.toNatClampNeg (0 : Int32)) ((ob_pI D1 (D1.2.1 v0 55) x3.toNatClampNeg (0 : Int32)).2.1 v0 47) x3.toNatClampNeg ((1 : Int32) &&& 1)) ((ob_pI (ob_pI D1 (D1.2.1 v0 55) x3.toNatClampNeg (0 : Int32)) ((ob_pI D1 (D1.2.1 v0 55) x3.toNatClampNeg (0 : Int32)).2.1 v0 47) x3.toNatClampNeg ((1 : Int32) &&& 1)).2.1 v0 48) x3.toNatClampNeg ((0 : Int32) &&& 1)).2.1 v0 49) x3.toNatClampNeg x31).2.1 v0 50) x3.toNatClampNeg x38).2.1 v0 51) x3.toNatClampNeg x45).2.1 v0 52) x3.toNatClampNeg x52).2.1 v0 53)]) d_Model_actLimit_85 c_Model_actLimit_302 hp_v0 rfl rfl (Nat.le_of_ble_eq_true rfl) (c_Model_data hp_v0 h58) ⟨Nat.le_refl _, Nat.le_refl _⟩ ⟨Nat.le_refl _, Nat.le_refl _⟩ ?_
    obtain ⟨hg60, h⟩ := ob_gd h
    replace h := ob_lt_e h
    refine ob_iast d_Model_actLimit_88 hk55 hg60 ?_
    refine ob_aload d_Model_actLimit_89 rfl ?_
    obtain ⟨hg63, h⟩ := ob_gd h
    refine ob_getR d_Model_actLimit_90 F_12_54 l_Model_94 hp_v0 hg63 (fun hk62 => ?_)
    refine ob_iload d_Model_actLimit_93 rfl ?_
    refine ob_aload d_Model_actLimit_94 rfl ?_
    refine ob_push d_Model_actLimit_95 ?_
    obtain ⟨x66, D64, h65, h⟩ := ob_bd_e h
    refine ob_callVi (As := [.int (12 : Int32)]) (rest := [.int x3, .ref ((ob_pI D57 ((ob_pI D50 ((ob_pI D43 ((ob_pI D36 ((ob_pI D29 ((ob_pI (ob_pI (ob_pI D1 (D1.2.1 v0 55) x3.toNatClampNeg (0 : Int32)) ((ob_pI D1 (D1.2.1 v0 55) x3.toNatClampNeg (0 : Int32)).2.1 v0 47) x3.toNatClampNeg ((1 : Int32) &&& 1)) ((ob_pI (ob_pI D1 (D1.2.1 v0 55) x3.toNatClampNeg (0 : Int32)) ((ob_pI D1 (D1.2.1 v0 55) x3.toNatClampNeg (0 : Int32)).2.1 v0 47) x3.toNatClampNeg ((1 : Int32) &&& 1)).2.1 v0 48) x3.toNatClampNeg ((0 : Int32) &&& 1)).2.1 v0 49) x3.toNatClampNeg x31).2.1 v0 50) x3.toNatClampNeg x38).2.1 v0 51) x3.toNatClampNeg x45).2.1 v0 52) x3.toNatClampNeg x52).2.1 v0 53) x3.toNatClampNeg x59).2.1 v0 54)]) d_Model_actLimit_97 c_Model_actLimit_302 hp_v0 rfl rfl (Nat.le_of_ble_eq_true rfl) (c_Model_data hp_v0 h65) ⟨Nat.le_refl _, Nat.le_refl _⟩ ⟨Nat.le_refl _, Nat.le_refl _⟩ ?_
    obtain ⟨hg67, h⟩ := ob_gd h
    replace h := ob_lt_e h
    refine ob_iast d_Model_actLimit_100 hk62 hg67 ?_
    refine ob_aload d_Model_actLimit_101 rfl ?_
    refine ob_dup d_Model_actLimit_102 rfl ?_
    refine ob_getI d_Model_actLimit_103 F_12_56 l_Model_389 hp_v0 ?_
    refine ob_push d_Model_actLimit_106 ?_
    refine ob_iadd d_Model_actLimit_107 ?_
    replace h := ob_lt_e h
    refine ob_putI d_Model_actLimit_108 F_12_56 l_Model_389 hp_v0 ?_
    refine ob_goto d_Model_actLimit_111 ?_
    exact ob_ve h (ob_vret d_Model_actLimit_156 rfl)
-- OrbitBoxModel.actStore(I)V
theorem d_Model_actStore_1 : ob_dk k_Model_actStore 1 2 (1 : Int32) (.iconst 1) 1 := ⟨by decide +kernel, rfl, show Int32.ofInt 1 = (1 : Int32) by decide +kernel⟩
theorem d_Model_actStore_15 : ob_dk k_Model_actStore 15 16 (0 : Int32) (.iconst 0) 1 := ⟨by decide +kernel, rfl, show Int32.ofInt 0 = (0 : Int32) by decide +kernel⟩
theorem d_Model_actStore_20 : ob_dk k_Model_actStore 20 21 (1 : Int32) (.iconst 1) 1 := ⟨by decide +kernel, rfl, show Int32.ofInt 1 = (1 : Int32) by decide +kernel⟩
theorem d_Model_actStore_28 : ob_dk k_Model_actStore 28 29 (0 : Int32) (.iconst 0) 1 := ⟨by decide +kernel, rfl, show Int32.ofInt 0 = (0 : Int32) by decide +kernel⟩
theorem d_Model_actStore_109 : ob_dc k_Model_actStore 109 (.return_) 1 110 := ⟨by decide +kernel, rfl⟩
theorem d_Model_actStore_30 : ob_db k_Model_actStore 30 (.goto 79) 79 33 109 := ⟨by decide +kernel, rfl, by decide⟩
theorem d_Model_actStore_29 : ob_dc k_Model_actStore 29 (.bastore) 1 30 := ⟨by decide +kernel, rfl⟩
theorem d_Model_actStore_24 : ob_dk k_Model_actStore 24 25 (1 : Int32) (.iconst 1) 1 := ⟨by decide +kernel, rfl, show Int32.ofInt 1 = (1 : Int32) by decide +kernel⟩
theorem d_Model_actStore_25 : ob_db k_Model_actStore 25 (.goto 4) 4 28 29 := ⟨by decide +kernel, rfl, by decide⟩
theorem d_Model_actStore_21 : ob_db k_Model_actStore 21 (.if_icmp .ne 7) 7 24 28 := ⟨by decide +kernel, rfl, by decide⟩
theorem d_Model_actStore_19 : ob_dv ob_lc k_Model_actStore 19 20 1 (.iload_n 1) 1 := ⟨by decide +kernel, rfl, rfl⟩
theorem d_Model_actStore_16 : ob_dc k_Model_actStore 16 (.invokevirtual 302) 3 19 := ⟨by decide +kernel, rfl⟩
theorem d_Model_actStore_14 : ob_dv ob_ac k_Model_actStore 14 15 0 (.aload_n 0) 1 := ⟨by decide +kernel, rfl, rfl⟩
theorem d_Model_actStore_11 : ob_dc k_Model_actStore 11 (.getfield 127) 3 14 := ⟨by decide +kernel, rfl⟩
theorem d_Model_actStore_10 : ob_dv ob_ac k_Model_actStore 10 11 0 (.aload_n 0) 1 := ⟨by decide +kernel, rfl, rfl⟩
theorem d_Model_actStore_6 : ob_dk k_Model_actStore 6 7 (2 : Int32) (.iconst 2) 1 := ⟨by decide +kernel, rfl, show Int32.ofInt 2 = (2 : Int32) by decide +kernel⟩
theorem d_Model_actStore_34 : ob_dk k_Model_actStore 34 36 (9 : Int32) (.bipush 9) 2 := ⟨by decide +kernel, rfl, show (Int8.ofInt 9).toInt32 = (9 : Int32) by decide +kernel⟩
theorem d_Model_actStore_71 : ob_dk k_Model_actStore 71 73 (11 : Int32) (.bipush 11) 2 := ⟨by decide +kernel, rfl, show (Int8.ofInt 11).toInt32 = (11 : Int32) by decide +kernel⟩
theorem d_Model_actStore_105 : ob_dk k_Model_actStore 105 106 (0 : Int32) (.iconst 0) 1 := ⟨by decide +kernel, rfl, show Int32.ofInt 0 = (0 : Int32) by decide +kernel⟩
theorem d_Model_actStore_106 : ob_dc k_Model_actStore 106 (.putfield 449) 3 109 := ⟨by decide +kernel, rfl⟩
theorem d_Model_actStore_104 : ob_dv ob_ac k_Model_actStore 104 105 0 (.aload_n 0) 1 := ⟨by decide +kernel, rfl, rfl⟩
theorem d_Model_actStore_87 : ob_dk k_Model_actStore 87 88 (0 : Int32) (.iconst 0) 1 := ⟨by decide +kernel, rfl, show Int32.ofInt 0 = (0 : Int32) by decide +kernel⟩
theorem d_Model_actStore_90 : ob_dk k_Model_actStore 90 91 (0 : Int32) (.iconst 0) 1 := ⟨by decide +kernel, rfl, show Int32.ofInt 0 = (0 : Int32) by decide +kernel⟩
theorem d_Model_actStore_101 : ob_db k_Model_actStore 101 (.goto (-25)) (-25) 104 76 := ⟨by decide +kernel, rfl, by decide⟩
theorem d_Model_actStore_98 : ob_dc k_Model_actStore 98 (.invokevirtual 434) 3 101 := ⟨by decide +kernel, rfl⟩
theorem d_Model_actStore_97 : ob_dv ob_ac k_Model_actStore 97 98 0 (.aload_n 0) 1 := ⟨by decide +kernel, rfl, rfl⟩
theorem d_Model_actStore_94 : ob_db k_Model_actStore 94 (.if_icmp .gt 15) 15 97 109 := ⟨by decide +kernel, rfl, by decide⟩
theorem d_Model_actStore_91 : ob_dc k_Model_actStore 91 (.invokevirtual 360) 3 94 := ⟨by decide +kernel, rfl⟩
theorem d_Model_actStore_89 : ob_dv ob_ac k_Model_actStore 89 90 0 (.aload_n 0) 1 := ⟨by decide +kernel, rfl, rfl⟩
theorem d_Model_actStore_88 : ob_dc k_Model_actStore 88 (.iaload) 1 89 := ⟨by decide +kernel, rfl⟩
theorem d_Model_actStore_84 : ob_dc k_Model_actStore 84 (.getfield 136) 3 87 := ⟨by decide +kernel, rfl⟩
theorem d_Model_actStore_83 : ob_dv ob_ac k_Model_actStore 83 84 0 (.aload_n 0) 1 := ⟨by decide +kernel, rfl, rfl⟩
theorem d_Model_actStore_80 : ob_db k_Model_actStore 80 (.ifCond .le 29) 29 83 109 := ⟨by decide +kernel, rfl, by decide⟩
theorem d_Model_actStore_77 : ob_dc k_Model_actStore 77 (.getfield 443) 3 80 := ⟨by decide +kernel, rfl⟩
theorem d_Model_actStore_76 : ob_dv ob_ac k_Model_actStore 76 77 0 (.aload_n 0) 1 := ⟨by decide +kernel, rfl, rfl⟩
theorem d_Model_actStore_73 : ob_db k_Model_actStore 73 (.if_icmp .ne 31) 31 76 104 := ⟨by decide +kernel, rfl, by decide⟩
theorem d_Model_actStore_70 : ob_dv ob_lc k_Model_actStore 70 71 1 (.iload_n 1) 1 := ⟨by decide +kernel, rfl, rfl⟩
theorem d_Model_actStore_40 : ob_dk k_Model_actStore 40 41 (1 : Int32) (.iconst 1) 1 := ⟨by decide +kernel, rfl, show Int32.ofInt 1 = (1 : Int32) by decide +kernel⟩
theorem d_Model_actStore_46 : ob_dk k_Model_actStore 46 47 (0 : Int32) (.iconst 0) 1 := ⟨by decide +kernel, rfl, show Int32.ofInt 0 = (0 : Int32) by decide +kernel⟩
theorem d_Model_actStore_55 : ob_dk k_Model_actStore 55 56 (4 : Int32) (.iconst 4) 1 := ⟨by decide +kernel, rfl, show Int32.ofInt 4 = (4 : Int32) by decide +kernel⟩
theorem d_Model_actStore_63 : ob_dk k_Model_actStore 63 64 (0 : Int32) (.iconst 0) 1 := ⟨by decide +kernel, rfl, show Int32.ofInt 0 = (0 : Int32) by decide +kernel⟩
theorem d_Model_actStore_67 : ob_db k_Model_actStore 67 (.goto 42) 42 70 109 := ⟨by decide +kernel, rfl, by decide⟩
theorem d_Model_actStore_64 : ob_dc k_Model_actStore 64 (.putfield 446) 3 67 := ⟨by decide +kernel, rfl⟩
theorem d_Model_actStore_62 : ob_dv ob_ac k_Model_actStore 62 63 0 (.aload_n 0) 1 := ⟨by decide +kernel, rfl, rfl⟩
theorem d_Model_actStore_59 : ob_dc k_Model_actStore 59 (.putfield 455) 3 62 := ⟨by decide +kernel, rfl⟩
theorem d_Model_actStore_56 : ob_dc k_Model_actStore 56 (.invokevirtual 360) 3 59 := ⟨by decide +kernel, rfl⟩
theorem d_Model_actStore_54 : ob_dv ob_ac k_Model_actStore 54 55 0 (.aload_n 0) 1 := ⟨by decide +kernel, rfl, rfl⟩
theorem d_Model_actStore_53 : ob_dv ob_ac k_Model_actStore 53 54 0 (.aload_n 0) 1 := ⟨by decide +kernel, rfl, rfl⟩
theorem d_Model_actStore_50 : ob_dc k_Model_actStore 50 (.putfield 452) 3 53 := ⟨by decide +kernel, rfl⟩
theorem d_Model_actStore_47 : ob_dc k_Model_actStore 47 (.invokevirtual 360) 3 50 := ⟨by decide +kernel, rfl⟩
theorem d_Model_actStore_45 : ob_dv ob_ac k_Model_actStore 45 46 0 (.aload_n 0) 1 := ⟨by decide +kernel, rfl, rfl⟩
theorem d_Model_actStore_44 : ob_dv ob_ac k_Model_actStore 44 45 0 (.aload_n 0) 1 := ⟨by decide +kernel, rfl, rfl⟩
theorem d_Model_actStore_41 : ob_dc k_Model_actStore 41 (.putfield 449) 3 44 := ⟨by decide +kernel, rfl⟩
theorem d_Model_actStore_39 : ob_dv ob_ac k_Model_actStore 39 40 0 (.aload_n 0) 1 := ⟨by decide +kernel, rfl, rfl⟩
theorem d_Model_actStore_36 : ob_db k_Model_actStore 36 (.if_icmp .ne 34) 34 39 70 := ⟨by decide +kernel, rfl, by decide⟩
theorem d_Model_actStore_33 : ob_dv ob_lc k_Model_actStore 33 34 1 (.iload_n 1) 1 := ⟨by decide +kernel, rfl, rfl⟩
theorem d_Model_actStore_7 : ob_db k_Model_actStore 7 (.if_icmp .ne 26) 26 10 33 := ⟨by decide +kernel, rfl, by decide⟩
theorem d_Model_actStore_5 : ob_dv ob_lc k_Model_actStore 5 6 1 (.iload_n 1) 1 := ⟨by decide +kernel, rfl, rfl⟩
theorem d_Model_actStore_2 : ob_db k_Model_actStore 2 (.if_icmp .eq 8) 8 5 10 := ⟨by decide +kernel, rfl, by decide⟩
theorem d_Model_actStore_0 : ob_dv ob_lc k_Model_actStore 0 1 1 (.iload_n 1) 1 := ⟨by decide +kernel, rfl, rfl⟩
theorem c_Model_actStore_302 : ob_vd k_Model_actStore k_Model_data 302 1 12 := ⟨cw_Model_data, yd_Model_data, w_1504, w_1506, wp_72, w_14, ⟨_, _, rfl⟩, by decide, by decide⟩
theorem c_Model_actStore_434 : ob_vd k_Model_actStore k_Model_dropOldest 434 0 12 := ⟨cw_Model_dropOldest, yd_Model_dropOldest, w_1492, w_1494, wp_69, w_14, ⟨_, _, rfl⟩, by decide, by decide⟩
theorem c_Model_actStore_360 : ob_vd k_Model_actStore k_Model_dataFour 360 1 12 := ⟨cw_Model_dataFour, yd_Model_dataFour, w_1524, w_1526, wp_77, w_14, ⟨_, _, rfl⟩, by decide, by decide⟩
def f_Model_actStore_L10 (S : ob_S) (v0 : Nat) (v1 : Int32) (D : ob_D) : Option (ob_D) :=
  if D.2.1 v0 74 ≠ 0 then ob_bd (f_Model_data S v0 (0 : Int32) D) fun x5 D3 => (if v1 = (1 : Int32) then if ob_in x5 (S.2.1 (D.2.1 v0 74)) then ob_lt (ob_pI D3 (D.2.1 v0 74) x5.toNatClampNeg ((1 : Int32) &&& 1)) fun D9 => some D9 else none else if ob_in x5 (S.2.1 (D.2.1 v0 74)) then ob_lt (ob_pI D3 (D.2.1 v0 74) x5.toNatClampNeg ((0 : Int32) &&& 1)) fun D7 => some D7 else none) else none
theorem v_Model_actStore_L10 {l : Launch} {E : ob_E} {S : ob_S} {D' : ob_D} : ∀ (v0 : Nat) (v1 : Int32) (D : ob_D), S.1 v0 = 13 → f_Model_actStore_L10 S v0 v1 D = some D' → ob_V l E k_Model_actStore 10 [(0, .ref v0), (1, .int v1)] [] S D none S D' := by
  intro v0 v1 D hp_v0 h
  rw [f_Model_actStore_L10] at h
  refine ob_aload d_Model_actStore_10 rfl ?_
  obtain ⟨hg2, h⟩ := ob_gd h
  refine ob_getR d_Model_actStore_11 F_12_74 l_Model_127 hp_v0 hg2 (fun hk1 => ?_)
  refine ob_aload d_Model_actStore_14 rfl ?_
  refine ob_push d_Model_actStore_15 ?_
  obtain ⟨x5, D3, h4, h⟩ := ob_bd_e h
  refine ob_callVi (As := [.int (0 : Int32)]) (rest := [.ref (D.2.1 v0 74)]) d_Model_actStore_16 c_Model_actStore_302 hp_v0 rfl rfl (Nat.le_of_ble_eq_true rfl) (c_Model_data hp_v0 h4) ⟨Nat.le_refl _, Nat.le_refl _⟩ ⟨Nat.le_refl _, Nat.le_refl _⟩ ?_
  refine ob_iload d_Model_actStore_19 rfl ?_
  refine ob_push d_Model_actStore_20 ?_
  refine ob_icmp_ne d_Model_actStore_21 (fun hc => ?_) (fun hc => ?_)
  · replace h := ob_iff hc h
    refine ob_push d_Model_actStore_28 ?_
    obtain ⟨hg6, h⟩ := ob_gd h
    replace h := ob_lt_e h
    refine ob_zast d_Model_actStore_29 hk1 hg6 ?_
    refine ob_goto d_Model_actStore_30 ?_
    exact ob_ve h (ob_vret d_Model_actStore_109 rfl)
  · replace h := ob_ift hc h
    refine ob_push d_Model_actStore_24 ?_
    refine ob_goto d_Model_actStore_25 ?_
    obtain ⟨hg8, h⟩ := ob_gd h
    replace h := ob_lt_e h
    refine ob_zast d_Model_actStore_29 hk1 hg8 ?_
    refine ob_goto d_Model_actStore_30 ?_
    exact ob_ve h (ob_vret d_Model_actStore_109 rfl)
def f_Model_actStore_L76 (S : ob_S) : Nat → Nat → ob_D → Option (ob_D)
  | 0, _, _ => none
  | n + 1, v0, D => (if (D.1 v0 78) ≤ 0 then some D else if D.2.1 v0 77 ≠ 0 then if ob_in (0 : Int32) (S.2.1 (D.2.1 v0 77)) then ob_bd (f_Model_dataFour S v0 (0 : Int32) D) fun x16 D14 => (if x16 < (D.1 (D.2.1 v0 77) (0 : Int32).toNatClampNeg) then some D14 else ob_bv (f_Model_dropOldest S v0 D14) fun D17 => f_Model_actStore_L76 S n v0 D17) else none else none)
theorem v_Model_actStore_L76 {l : Launch} {E : ob_E} {S : ob_S} {D' : ob_D} : ∀ (n : Nat), ∀ (v0 : Nat) (D : ob_D), S.1 v0 = 13 → f_Model_actStore_L76 S n v0 D = some D' → ob_V l E k_Model_actStore 76 [(0, .ref v0)] [] S D none S D' := by
  intro n
  induction n with
  | zero =>
    intro v0 D hp_v0 h
    have h : none = some D' := h
    cases h
  | succ n ih =>
    intro v0 D hp_v0 h
    rw [f_Model_actStore_L76] at h
    refine ob_aload d_Model_actStore_76 rfl ?_
    refine ob_getI d_Model_actStore_77 F_12_78 l_Model_443 hp_v0 ?_
    refine ob_if_le d_Model_actStore_80 (fun hc => ?_) (fun hc => ?_)
    · replace h := ob_ift hc h
      exact ob_ve h (ob_vret d_Model_actStore_109 rfl)
    · replace h := ob_iff hc h
      refine ob_aload d_Model_actStore_83 rfl ?_
      obtain ⟨hg12, h⟩ := ob_gd h
      refine ob_getR d_Model_actStore_84 F_12_77 l_Model_136 hp_v0 hg12 (fun hk11 => ?_)
      refine ob_push d_Model_actStore_87 ?_
      obtain ⟨hg13, h⟩ := ob_gd h
      refine ob_iald d_Model_actStore_88 hk11 hg13 ?_
      refine ob_aload d_Model_actStore_89 rfl ?_
      refine ob_push d_Model_actStore_90 ?_
      obtain ⟨x16, D14, h15, h⟩ := ob_bd_e h
      refine ob_callVi (As := [.int (0 : Int32)]) (rest := [.int (D.1 (D.2.1 v0 77) (0 : Int32).toNatClampNeg)]) d_Model_actStore_91 c_Model_actStore_360 hp_v0 rfl rfl (Nat.le_of_ble_eq_true rfl) (c_Model_dataFour hp_v0 h15) ⟨Nat.le_refl _, Nat.le_refl _⟩ ⟨Nat.le_refl _, Nat.le_refl _⟩ ?_
      refine ob_icmp_gt d_Model_actStore_94 (fun hc => ?_) (fun hc => ?_)
      · replace h := ob_ift hc h
        exact ob_ve h (ob_vret d_Model_actStore_109 rfl)
      · replace h := ob_iff hc h
        refine ob_aload d_Model_actStore_97 rfl ?_
        obtain ⟨D17, h18, h⟩ := ob_bv_e h
        refine ob_callVv (As := []) (rest := []) d_Model_actStore_98 c_Model_actStore_434 hp_v0 rfl rfl (Nat.le_of_ble_eq_true rfl) (c_Model_dropOldest hp_v0 h18) ⟨Nat.le_refl _, Nat.le_refl _⟩ ⟨Nat.le_refl _, Nat.le_refl _⟩ ?_
        refine ob_goto d_Model_actStore_101 ?_
        exact ih v0 D17 hp_v0 h
def f_Model_actStore (S : ob_S) (v0 : Nat) (v1 : Int32) (D : ob_D) : Option (ob_D) :=
  (if v1 = (1 : Int32) then f_Model_actStore_L10 S v0 v1 D else (if v1 = (2 : Int32) then f_Model_actStore_L10 S v0 v1 D else (if v1 = (9 : Int32) then ob_lt (ob_pI D v0 80 (1 : Int32)) fun D19 => ob_bd (f_Model_dataFour S v0 (0 : Int32) D19) fun x22 D20 => ob_lt (ob_pI D20 v0 81 x22) fun D23 => ob_bd (f_Model_dataFour S v0 (4 : Int32) D23) fun x26 D24 => ob_lt (ob_pI D24 v0 82 x26) fun D27 => ob_lt (ob_pI D27 v0 83 (0 : Int32)) fun D28 => some D28 else (if v1 = (11 : Int32) then f_Model_actStore_L76 S ob_FU v0 D else ob_lt (ob_pI D v0 80 (0 : Int32)) fun D10 => some D10))))
theorem c_Model_actStore {l : Launch} {E : ob_E} {S : ob_S} {D : ob_D} {v0 : Nat} {v1 : Int32} {D' : ob_D} (hp_v0 : S.1 v0 = 13) (h : f_Model_actStore S v0 v1 D = some D') : ob_M l E k_Model_actStore [.ref v0, .int v1] S D none S D' := by
  refine ob_ofV (lo := [(0, .ref v0), (1, .int v1)]) (by decide) rfl (Nat.le_of_ble_eq_true rfl) rfl (Nat.le_refl _) (Nat.le_refl _) ?_
  rw [f_Model_actStore] at h
  refine ob_iload d_Model_actStore_0 rfl ?_
  refine ob_push d_Model_actStore_1 ?_
  refine ob_icmp_eq d_Model_actStore_2 (fun hc => ?_) (fun hc => ?_)
  · replace h := ob_ift hc h
    exact v_Model_actStore_L10 v0 v1 D hp_v0 h
  · replace h := ob_iff hc h
    refine ob_iload d_Model_actStore_5 rfl ?_
    refine ob_push d_Model_actStore_6 ?_
    refine ob_icmp_ne d_Model_actStore_7 (fun hc => ?_) (fun hc => ?_)
    · replace h := ob_iff hc h
      refine ob_iload d_Model_actStore_33 rfl ?_
      refine ob_push d_Model_actStore_34 ?_
      refine ob_icmp_ne d_Model_actStore_36 (fun hc => ?_) (fun hc => ?_)
      · replace h := ob_iff hc h
        refine ob_iload d_Model_actStore_70 rfl ?_
        refine ob_push d_Model_actStore_71 ?_
        refine ob_icmp_ne d_Model_actStore_73 (fun hc => ?_) (fun hc => ?_)
        · replace h := ob_iff hc h
          refine ob_aload d_Model_actStore_104 rfl ?_
          refine ob_push d_Model_actStore_105 ?_
          replace h := ob_lt_e h
          refine ob_putZ d_Model_actStore_106 F_12_80 l_Model_449 hp_v0 (Or.inl rfl) ?_
          exact ob_ve h (ob_vret d_Model_actStore_109 rfl)
        · replace h := ob_ift hc h
          refine ob_sub (lo2 := [(0, .ref v0)]) [0] rfl ?_
          exact v_Model_actStore_L76 ob_FU v0 D hp_v0 h
      · replace h := ob_ift hc h
        refine ob_aload d_Model_actStore_39 rfl ?_
        refine ob_push d_Model_actStore_40 ?_
        replace h := ob_lt_e h
        refine ob_putZ d_Model_actStore_41 F_12_80 l_Model_449 hp_v0 (Or.inr rfl) ?_
        refine ob_aload d_Model_actStore_44 rfl ?_
        refine ob_aload d_Model_actStore_45 rfl ?_
        refine ob_push d_Model_actStore_46 ?_
        obtain ⟨x22, D20, h21, h⟩ := ob_bd_e h
        refine ob_callVi (As := [.int (0 : Int32)]) (rest := [.ref v0]) d_Model_actStore_47 c_Model_actStore_360 hp_v0 rfl rfl (Nat.le_of_ble_eq_true rfl) (c_Model_dataFour hp_v0 h21) ⟨Nat.le_refl _, Nat.le_refl _⟩ ⟨Nat.le_refl _, Nat.le_refl _⟩ ?_
        replace h := ob_lt_e h
        refine ob_putI d_Model_actStore_50 F_12_81 l_Model_452 hp_v0 ?_
        refine ob_aload d_Model_actStore_53 rfl ?_
        refine ob_aload d_Model_actStore_54 rfl ?_
        refine ob_push d_Model_actStore_55 ?_
        obtain ⟨x26, D24, h25, h⟩ := ob_bd_e h
        refine ob_callVi (As := [.int (4 : Int32)]) (rest := [.ref v0]) d_Model_actStore_56 c_Model_actStore_360 hp_v0 rfl rfl (Nat.le_of_ble_eq_true rfl) (c_Model_dataFour hp_v0 h25) ⟨Nat.le_refl _, Nat.le_refl _⟩ ⟨Nat.le_refl _, Nat.le_refl _⟩ ?_
        replace h := ob_lt_e h
        refine ob_putI d_Model_actStore_59 F_12_82 l_Model_455 hp_v0 ?_
        refine ob_aload d_Model_actStore_62 rfl ?_
        refine ob_push d_Model_actStore_63 ?_
        replace h := ob_lt_e h
        refine ob_putI d_Model_actStore_64 F_12_83 l_Model_446 hp_v0 ?_
        refine ob_goto d_Model_actStore_67 ?_
        exact ob_ve h (ob_vret d_Model_actStore_109 rfl)
    · replace h := ob_ift hc h
      exact v_Model_actStore_L10 v0 v1 D hp_v0 h
-- OrbitBoxModel.actAction(I)V
theorem d_Model_actAction_1 : ob_dk k_Model_actAction 1 2 (0 : Int32) (.iconst 0) 1 := ⟨by decide +kernel, rfl, show Int32.ofInt 0 = (0 : Int32) by decide +kernel⟩
theorem d_Model_actAction_7 : ob_dk k_Model_actAction 7 8 (1 : Int32) (.iconst 1) 1 := ⟨by decide +kernel, rfl, show Int32.ofInt 1 = (1 : Int32) by decide +kernel⟩
theorem d_Model_actAction_82 : ob_dk k_Model_actAction 82 83 (2 : Int32) (.iconst 2) 1 := ⟨by decide +kernel, rfl, show Int32.ofInt 2 = (2 : Int32) by decide +kernel⟩
theorem d_Model_actAction_102 : ob_dk k_Model_actAction 102 103 (4 : Int32) (.iconst 4) 1 := ⟨by decide +kernel, rfl, show Int32.ofInt 4 = (4 : Int32) by decide +kernel⟩
theorem d_Model_actAction_110 : ob_dk k_Model_actAction 110 111 (0 : Int32) (.iconst 0) 1 := ⟨by decide +kernel, rfl, show Int32.ofInt 0 = (0 : Int32) by decide +kernel⟩
theorem d_Model_actAction_112 : ob_dc k_Model_actAction 112 (.return_) 1 113 := ⟨by decide +kernel, rfl⟩
theorem d_Model_actAction_111 : ob_dc k_Model_actAction 111 (.bastore) 1 112 := ⟨by decide +kernel, rfl⟩
theorem d_Model_actAction_106 : ob_dk k_Model_actAction 106 107 (1 : Int32) (.iconst 1) 1 := ⟨by decide +kernel, rfl, show Int32.ofInt 1 = (1 : Int32) by decide +kernel⟩
theorem d_Model_actAction_107 : ob_db k_Model_actAction 107 (.goto 4) 4 110 111 := ⟨by decide +kernel, rfl, by decide⟩
theorem d_Model_actAction_103 : ob_db k_Model_actAction 103 (.if_icmp .ne 7) 7 106 110 := ⟨by decide +kernel, rfl, by decide⟩
theorem d_Model_actAction_101 : ob_dv ob_lc k_Model_actAction 101 102 1 (.iload_n 1) 1 := ⟨by decide +kernel, rfl, rfl⟩
theorem d_Model_actAction_100 : ob_dv ob_lc k_Model_actAction 100 101 2 (.iload_n 2) 1 := ⟨by decide +kernel, rfl, rfl⟩
theorem d_Model_actAction_97 : ob_dc k_Model_actAction 97 (.getfield 106) 3 100 := ⟨by decide +kernel, rfl⟩
theorem d_Model_actAction_96 : ob_dv ob_ac k_Model_actAction 96 97 0 (.aload_n 0) 1 := ⟨by decide +kernel, rfl, rfl⟩
theorem d_Model_actAction_91 : ob_dk k_Model_actAction 91 92 (0 : Int32) (.iconst 0) 1 := ⟨by decide +kernel, rfl, show Int32.ofInt 0 = (0 : Int32) by decide +kernel⟩
theorem d_Model_actAction_93 : ob_db k_Model_actAction 93 (.goto 19) 19 96 112 := ⟨by decide +kernel, rfl, by decide⟩
theorem d_Model_actAction_92 : ob_dc k_Model_actAction 92 (.bastore) 1 93 := ⟨by decide +kernel, rfl⟩
theorem d_Model_actAction_90 : ob_dv ob_lc k_Model_actAction 90 91 2 (.iload_n 2) 1 := ⟨by decide +kernel, rfl, rfl⟩
theorem d_Model_actAction_87 : ob_dc k_Model_actAction 87 (.getfield 103) 3 90 := ⟨by decide +kernel, rfl⟩
theorem d_Model_actAction_86 : ob_dv ob_ac k_Model_actAction 86 87 0 (.aload_n 0) 1 := ⟨by decide +kernel, rfl, rfl⟩
theorem d_Model_actAction_83 : ob_db k_Model_actAction 83 (.if_icmp .ne 13) 13 86 96 := ⟨by decide +kernel, rfl, by decide⟩
theorem d_Model_actAction_81 : ob_dv ob_lc k_Model_actAction 81 82 1 (.iload_n 1) 1 := ⟨by decide +kernel, rfl, rfl⟩
theorem d_Model_actAction_16 : ob_dk k_Model_actAction 16 17 (1 : Int32) (.iconst 1) 1 := ⟨by decide +kernel, rfl, show Int32.ofInt 1 = (1 : Int32) by decide +kernel⟩
theorem d_Model_actAction_23 : ob_dk k_Model_actAction 23 24 (0 : Int32) (.iconst 0) 1 := ⟨by decide +kernel, rfl, show Int32.ofInt 0 = (0 : Int32) by decide +kernel⟩
theorem d_Model_actAction_34 : ob_dk k_Model_actAction 34 36 (14 : Int32) (.bipush 14) 2 := ⟨by decide +kernel, rfl, show (Int8.ofInt 14).toInt32 = (14 : Int32) by decide +kernel⟩
theorem d_Model_actAction_38 : ob_dk k_Model_actAction 38 39 (0 : Int32) (.iconst 0) 1 := ⟨by decide +kernel, rfl, show Int32.ofInt 0 = (0 : Int32) by decide +kernel⟩
theorem d_Model_actAction_45 : ob_dk k_Model_actAction 45 47 (14 : Int32) (.bipush 14) 2 := ⟨by decide +kernel, rfl, show (Int8.ofInt 14).toInt32 = (14 : Int32) by decide +kernel⟩
theorem d_Model_actAction_78 : ob_db k_Model_actAction 78 (.goto 34) 34 81 112 := ⟨by decide +kernel, rfl, by decide⟩
theorem d_Model_actAction_55 : ob_dk k_Model_actAction 55 58 (260 : Int32) (.sipush 260) 3 := ⟨by decide +kernel, rfl, show (Int16.ofInt 260).toInt32 = (260 : Int32) by decide +kernel⟩
theorem d_Model_actAction_66 : ob_dk k_Model_actAction 66 68 (12 : Int32) (.bipush 12) 2 := ⟨by decide +kernel, rfl, show (Int8.ofInt 12).toInt32 = (12 : Int32) by decide +kernel⟩
theorem d_Model_actAction_72 : ob_di k_Model_actAction 72 75 3 1 (1 : Int32) := ⟨by decide +kernel, rfl, by decide +kernel, by decide +kernel⟩
theorem d_Model_actAction_75 : ob_db k_Model_actAction 75 (.goto (-35)) (-35) 78 40 := ⟨by decide +kernel, rfl, by decide⟩
theorem d_Model_actAction_71 : ob_dc k_Model_actAction 71 (.bastore) 1 72 := ⟨by decide +kernel, rfl⟩
theorem d_Model_actAction_70 : ob_dc k_Model_actAction 70 (.baload) 1 71 := ⟨by decide +kernel, rfl⟩
theorem d_Model_actAction_69 : ob_dc k_Model_actAction 69 (.iadd) 1 70 := ⟨by decide +kernel, rfl⟩
theorem d_Model_actAction_68 : ob_dv ob_lc k_Model_actAction 68 69 3 (.iload_n 3) 1 := ⟨by decide +kernel, rfl, rfl⟩
theorem d_Model_actAction_63 : ob_dc k_Model_actAction 63 (.getfield 34) 3 66 := ⟨by decide +kernel, rfl⟩
theorem d_Model_actAction_62 : ob_dv ob_ac k_Model_actAction 62 63 0 (.aload_n 0) 1 := ⟨by decide +kernel, rfl, rfl⟩
theorem d_Model_actAction_61 : ob_dc k_Model_actAction 61 (.iadd) 1 62 := ⟨by decide +kernel, rfl⟩
theorem d_Model_actAction_60 : ob_dv ob_lc k_Model_actAction 60 61 3 (.iload_n 3) 1 := ⟨by decide +kernel, rfl, rfl⟩
theorem d_Model_actAction_59 : ob_dc k_Model_actAction 59 (.imul) 1 60 := ⟨by decide +kernel, rfl⟩
theorem d_Model_actAction_58 : ob_dv ob_lc k_Model_actAction 58 59 2 (.iload_n 2) 1 := ⟨by decide +kernel, rfl, rfl⟩
theorem d_Model_actAction_52 : ob_dc k_Model_actAction 52 (.getfield 109) 3 55 := ⟨by decide +kernel, rfl⟩
theorem d_Model_actAction_51 : ob_dv ob_ac k_Model_actAction 51 52 0 (.aload_n 0) 1 := ⟨by decide +kernel, rfl, rfl⟩
theorem d_Model_actAction_48 : ob_db k_Model_actAction 48 (.if_icmp .ge 30) 30 51 78 := ⟨by decide +kernel, rfl, by decide⟩
theorem d_Model_actAction_47 : ob_dc k_Model_actAction 47 (.isub) 1 48 := ⟨by decide +kernel, rfl⟩
theorem d_Model_actAction_42 : ob_dc k_Model_actAction 42 (.getfield 258) 3 45 := ⟨by decide +kernel, rfl⟩
theorem d_Model_actAction_41 : ob_dv ob_ac k_Model_actAction 41 42 0 (.aload_n 0) 1 := ⟨by decide +kernel, rfl, rfl⟩
theorem d_Model_actAction_40 : ob_dv ob_lc k_Model_actAction 40 41 3 (.iload_n 3) 1 := ⟨by decide +kernel, rfl, rfl⟩
theorem d_Model_actAction_39 : ob_dv (ob_sc k_Model_actAction.2.2.2.1) k_Model_actAction 39 40 3 (.istore_n 3) 1 := ⟨by decide +kernel, rfl, ⟨rfl, by decide +kernel⟩⟩
theorem d_Model_actAction_37 : ob_dc k_Model_actAction 37 (.iastore) 1 38 := ⟨by decide +kernel, rfl⟩
theorem d_Model_actAction_36 : ob_dc k_Model_actAction 36 (.isub) 1 37 := ⟨by decide +kernel, rfl⟩
theorem d_Model_actAction_31 : ob_dc k_Model_actAction 31 (.getfield 258) 3 34 := ⟨by decide +kernel, rfl⟩
theorem d_Model_actAction_30 : ob_dv ob_ac k_Model_actAction 30 31 0 (.aload_n 0) 1 := ⟨by decide +kernel, rfl, rfl⟩
theorem d_Model_actAction_29 : ob_dv ob_lc k_Model_actAction 29 30 2 (.iload_n 2) 1 := ⟨by decide +kernel, rfl, rfl⟩
theorem d_Model_actAction_26 : ob_dc k_Model_actAction 26 (.getfield 112) 3 29 := ⟨by decide +kernel, rfl⟩
theorem d_Model_actAction_25 : ob_dv ob_ac k_Model_actAction 25 26 0 (.aload_n 0) 1 := ⟨by decide +kernel, rfl, rfl⟩
theorem d_Model_actAction_24 : ob_dc k_Model_actAction 24 (.bastore) 1 25 := ⟨by decide +kernel, rfl⟩
theorem d_Model_actAction_22 : ob_dv ob_lc k_Model_actAction 22 23 2 (.iload_n 2) 1 := ⟨by decide +kernel, rfl, rfl⟩
theorem d_Model_actAction_19 : ob_dc k_Model_actAction 19 (.getfield 106) 3 22 := ⟨by decide +kernel, rfl⟩
theorem d_Model_actAction_18 : ob_dv ob_ac k_Model_actAction 18 19 0 (.aload_n 0) 1 := ⟨by decide +kernel, rfl, rfl⟩
theorem d_Model_actAction_17 : ob_dc k_Model_actAction 17 (.bastore) 1 18 := ⟨by decide +kernel, rfl⟩
theorem d_Model_actAction_15 : ob_dv ob_lc k_Model_actAction 15 16 2 (.iload_n 2) 1 := ⟨by decide +kernel, rfl, rfl⟩
theorem d_Model_actAction_12 : ob_dc k_Model_actAction 12 (.getfield 103) 3 15 := ⟨by decide +kernel, rfl⟩
theorem d_Model_actAction_11 : ob_dv ob_ac k_Model_actAction 11 12 0 (.aload_n 0) 1 := ⟨by decide +kernel, rfl, rfl⟩
theorem d_Model_actAction_8 : ob_db k_Model_actAction 8 (.if_icmp .ne 73) 73 11 81 := ⟨by decide +kernel, rfl, by decide⟩
theorem d_Model_actAction_6 : ob_dv ob_lc k_Model_actAction 6 7 1 (.iload_n 1) 1 := ⟨by decide +kernel, rfl, rfl⟩
theorem d_Model_actAction_5 : ob_dv (ob_sc k_Model_actAction.2.2.2.1) k_Model_actAction 5 6 2 (.istore_n 2) 1 := ⟨by decide +kernel, rfl, ⟨rfl, by decide +kernel⟩⟩
theorem d_Model_actAction_2 : ob_dc k_Model_actAction 2 (.invokevirtual 302) 3 5 := ⟨by decide +kernel, rfl⟩
theorem d_Model_actAction_0 : ob_dv ob_ac k_Model_actAction 0 1 0 (.aload_n 0) 1 := ⟨by decide +kernel, rfl, rfl⟩
theorem c_Model_actAction_302 : ob_vd k_Model_actAction k_Model_data 302 1 12 := ⟨cw_Model_data, yd_Model_data, w_1504, w_1506, wp_72, w_14, ⟨_, _, rfl⟩, by decide, by decide⟩
def f_Model_actAction_L40 (S : ob_S) : Nat → Nat → Int32 → Int32 → ob_D → Option (ob_D)
  | 0, _, _, _, _ => none
  | n + 1, v0, v2, v3, D => (if ((D.1 v0 28) - (14 : Int32)) ≤ v3 then some D else if D.2.1 v0 63 ≠ 0 then if D.2.1 v0 27 ≠ 0 then if ob_in ((12 : Int32) + v3) (S.2.1 (D.2.1 v0 27)) then if ob_in (((260 : Int32) * v2) + v3) (S.2.1 (D.2.1 v0 63)) then ob_lt (ob_pI D (D.2.1 v0 63) (((260 : Int32) * v2) + v3).toNatClampNeg ((D.1 (D.2.1 v0 27) ((12 : Int32) + v3).toNatClampNeg).toInt8.toInt32)) fun D32 => f_Model_actAction_L40 S n v0 v2 (v3 + (1 : Int32)) D32 else none else none else none else none)
theorem v_Model_actAction_L40 {l : Launch} {E : ob_E} {S : ob_S} {D' : ob_D} : ∀ (n : Nat), ∀ (v0 : Nat) (v2 : Int32) (v3 : Int32) (D : ob_D), S.1 v0 = 13 → f_Model_actAction_L40 S n v0 v2 v3 D = some D' → ob_V l E k_Model_actAction 40 [(0, .ref v0), (2, .int v2), (3, .int v3)] [] S D none S D' := by
  intro n
  induction n with
  | zero =>
    intro v0 v2 v3 D hp_v0 h
    have h : none = some D' := h
    cases h
  | succ n ih =>
    intro v0 v2 v3 D hp_v0 h
    rw [f_Model_actAction_L40] at h
    refine ob_iload d_Model_actAction_40 rfl ?_
    refine ob_aload d_Model_actAction_41 rfl ?_
    refine ob_getI d_Model_actAction_42 F_12_28 l_Model_258 hp_v0 ?_
    refine ob_push d_Model_actAction_45 ?_
    refine ob_isub d_Model_actAction_47 ?_
    refine ob_icmp_ge d_Model_actAction_48 (fun hc => ?_) (fun hc => ?_)
    · replace h := ob_ift hc h
      refine ob_goto d_Model_actAction_78 ?_
      exact ob_ve h (ob_vret d_Model_actAction_112 rfl)
    · replace h := ob_iff hc h
      refine ob_aload d_Model_actAction_51 rfl ?_
      obtain ⟨hg27, h⟩ := ob_gd h
      refine ob_getR d_Model_actAction_52 F_12_63 l_Model_109 hp_v0 hg27 (fun hk26 => ?_)
      refine ob_push d_Model_actAction_55 ?_
      refine ob_iload d_Model_actAction_58 rfl ?_
      refine ob_imul d_Model_actAction_59 ?_
      refine ob_iload d_Model_actAction_60 rfl ?_
      refine ob_iadd d_Model_actAction_61 ?_
      refine ob_aload d_Model_actAction_62 rfl ?_
      obtain ⟨hg29, h⟩ := ob_gd h
      refine ob_getR d_Model_actAction_63 F_12_27 l_Model_34 hp_v0 hg29 (fun hk28 => ?_)
      refine ob_push d_Model_actAction_66 ?_
      refine ob_iload d_Model_actAction_68 rfl ?_
      refine ob_iadd d_Model_actAction_69 ?_
      obtain ⟨hg30, h⟩ := ob_gd h
      refine ob_bald d_Model_actAction_70 hk28 hg30 ?_
      obtain ⟨hg31, h⟩ := ob_gd h
      replace h := ob_lt_e h
      refine ob_bast d_Model_actAction_71 hk26 hg31 ?_
      refine ob_iinc (lo2 := [(0, .ref v0), (2, .int v2), (3, .int (v3 + (1 : Int32)))]) d_Model_actAction_72 rfl rfl ?_
      refine ob_goto d_Model_actAction_75 ?_
      exact ih v0 v2 (v3 + (1 : Int32)) (ob_pI D (D.2.1 v0 63) (((260 : Int32) * v2) + v3).toNatClampNeg ((D.1 (D.2.1 v0 27) ((12 : Int32) + v3).toNatClampNeg).toInt8.toInt32)) hp_v0 h
def f_Model_actAction (S : ob_S) (v0 : Nat) (v1 : Int32) (D : ob_D) : Option (ob_D) :=
  ob_bd (f_Model_data S v0 (0 : Int32) D) fun x3 D1 => (if v1 = (1 : Int32) then if D1.2.1 v0 61 ≠ 0 then if ob_in x3 (S.2.1 (D1.2.1 v0 61)) then ob_lt (ob_pI D1 (D1.2.1 v0 61) x3.toNatClampNeg ((1 : Int32) &&& 1)) fun D17 => if D17.2.1 v0 62 ≠ 0 then if ob_in x3 (S.2.1 (D17.2.1 v0 62)) then ob_lt (ob_pI D17 (D17.2.1 v0 62) x3.toNatClampNeg ((0 : Int32) &&& 1)) fun D21 => if D21.2.1 v0 64 ≠ 0 then if ob_in x3 (S.2.1 (D21.2.1 v0 64)) then ob_lt (ob_pI D21 (D21.2.1 v0 64) x3.toNatClampNeg ((D21.1 v0 28) - (14 : Int32))) fun D25 => f_Model_actAction_L40 S ob_FU v0 x3 (0 : Int32) D25 else none else none else none else none else none else none else (if v1 = (2 : Int32) then if D1.2.1 v0 61 ≠ 0 then if ob_in x3 (S.2.1 (D1.2.1 v0 61)) then ob_lt (ob_pI D1 (D1.2.1 v0 61) x3.toNatClampNeg ((0 : Int32) &&& 1)) fun D13 => some D13 else none else none else if D1.2.1 v0 62 ≠ 0 then (if v1 = (4 : Int32) then if ob_in x3 (S.2.1 (D1.2.1 v0 62)) then ob_lt (ob_pI D1 (D1.2.1 v0 62) x3.toNatClampNeg ((1 : Int32) &&& 1)) fun D9 => some D9 else none else if ob_in x3 (S.2.1 (D1.2.1 v0 62)) then ob_lt (ob_pI D1 (D1.2.1 v0 62) x3.toNatClampNeg ((0 : Int32) &&& 1)) fun D7 => some D7 else none) else none))
theorem c_Model_actAction {l : Launch} {E : ob_E} {S : ob_S} {D : ob_D} {v0 : Nat} {v1 : Int32} {D' : ob_D} (hp_v0 : S.1 v0 = 13) (h : f_Model_actAction S v0 v1 D = some D') : ob_M l E k_Model_actAction [.ref v0, .int v1] S D none S D' := by
  refine ob_ofV (lo := [(0, .ref v0), (1, .int v1)]) (by decide) rfl (Nat.le_of_ble_eq_true rfl) rfl (Nat.le_refl _) (Nat.le_refl _) ?_
  rw [f_Model_actAction] at h
  refine ob_aload d_Model_actAction_0 rfl ?_
  refine ob_push d_Model_actAction_1 ?_
  obtain ⟨x3, D1, h2, h⟩ := ob_bd_e h
  refine ob_callVi (As := [.int (0 : Int32)]) (rest := []) d_Model_actAction_2 c_Model_actAction_302 hp_v0 rfl rfl (Nat.le_of_ble_eq_true rfl) (c_Model_data hp_v0 h2) ⟨Nat.le_refl _, Nat.le_refl _⟩ ⟨Nat.le_refl _, Nat.le_refl _⟩ ?_
  refine ob_istore (lo2 := [(0, .ref v0), (1, .int v1), (2, .int x3)]) d_Model_actAction_5 rfl ?_
  refine ob_iload d_Model_actAction_6 rfl ?_
  refine ob_push d_Model_actAction_7 ?_
  refine ob_icmp_ne d_Model_actAction_8 (fun hc => ?_) (fun hc => ?_)
  · replace h := ob_iff hc h
    refine ob_iload d_Model_actAction_81 rfl ?_
    refine ob_push d_Model_actAction_82 ?_
    refine ob_icmp_ne d_Model_actAction_83 (fun hc => ?_) (fun hc => ?_)
    · replace h := ob_iff hc h
      refine ob_aload d_Model_actAction_96 rfl ?_
      obtain ⟨hg5, h⟩ := ob_gd h
      refine ob_getR d_Model_actAction_97 F_12_62 l_Model_106 hp_v0 hg5 (fun hk4 => ?_)
      refine ob_iload d_Model_actAction_100 rfl ?_
      refine ob_iload d_Model_actAction_101 rfl ?_
      refine ob_push d_Model_actAction_102 ?_
      refine ob_icmp_ne d_Model_actAction_103 (fun hc => ?_) (fun hc => ?_)
      · replace h := ob_iff hc h
        refine ob_push d_Model_actAction_110 ?_
        obtain ⟨hg6, h⟩ := ob_gd h
        replace h := ob_lt_e h
        refine ob_zast d_Model_actAction_111 hk4 hg6 ?_
        exact ob_ve h (ob_vret d_Model_actAction_112 rfl)
      · replace h := ob_ift hc h
        refine ob_push d_Model_actAction_106 ?_
        refine ob_goto d_Model_actAction_107 ?_
        obtain ⟨hg8, h⟩ := ob_gd h
        replace h := ob_lt_e h
        refine ob_zast d_Model_actAction_111 hk4 hg8 ?_
        exact ob_ve h (ob_vret d_Model_actAction_112 rfl)
    · replace h := ob_ift hc h
      refine ob_aload d_Model_actAction_86 rfl ?_
      obtain ⟨hg11, h⟩ := ob_gd h
      refine ob_getR d_Model_actAction_87 F_12_61 l_Model_103 hp_v0 hg11 (fun hk10 => ?_)
      refine ob_iload d_Model_actAction_90 rfl ?_
      refine ob_push d_Model_actAction_91 ?_
      obtain ⟨hg12, h⟩ := ob_gd h
      replace h := ob_lt_e h
      refine ob_zast d_Model_actAction_92 hk10 hg12 ?_
      refine ob_goto d_Model_actAction_93 ?_
      exact ob_ve h (ob_vret d_Model_actAction_112 rfl)
  · replace h := ob_ift hc h
    refine ob_aload d_Model_actAction_11 rfl ?_
    obtain ⟨hg15, h⟩ := ob_gd h
    refine ob_getR d_Model_actAction_12 F_12_61 l_Model_103 hp_v0 hg15 (fun hk14 => ?_)
    refine ob_iload d_Model_actAction_15 rfl ?_
    refine ob_push d_Model_actAction_16 ?_
    obtain ⟨hg16, h⟩ := ob_gd h
    replace h := ob_lt_e h
    refine ob_zast d_Model_actAction_17 hk14 hg16 ?_
    refine ob_aload d_Model_actAction_18 rfl ?_
    obtain ⟨hg19, h⟩ := ob_gd h
    refine ob_getR d_Model_actAction_19 F_12_62 l_Model_106 hp_v0 hg19 (fun hk18 => ?_)
    refine ob_iload d_Model_actAction_22 rfl ?_
    refine ob_push d_Model_actAction_23 ?_
    obtain ⟨hg20, h⟩ := ob_gd h
    replace h := ob_lt_e h
    refine ob_zast d_Model_actAction_24 hk18 hg20 ?_
    refine ob_aload d_Model_actAction_25 rfl ?_
    obtain ⟨hg23, h⟩ := ob_gd h
    refine ob_getR d_Model_actAction_26 F_12_64 l_Model_112 hp_v0 hg23 (fun hk22 => ?_)
    refine ob_iload d_Model_actAction_29 rfl ?_
    refine ob_aload d_Model_actAction_30 rfl ?_
    refine ob_getI d_Model_actAction_31 F_12_28 l_Model_258 hp_v0 ?_
    refine ob_push d_Model_actAction_34 ?_
    refine ob_isub d_Model_actAction_36 ?_
    obtain ⟨hg24, h⟩ := ob_gd h
    replace h := ob_lt_e h
    refine ob_iast d_Model_actAction_37 hk22 hg24 ?_
    refine ob_push d_Model_actAction_38 ?_
    refine ob_istore (lo2 := [(0, .ref v0), (1, .int v1), (2, .int x3), (3, .int (0 : Int32))]) d_Model_actAction_39 rfl ?_
    refine ob_sub (lo2 := [(0, .ref v0), (2, .int x3), (3, .int (0 : Int32))]) [0, 2, 3] rfl ?_
    exact v_Model_actAction_L40 ob_FU v0 x3 (0 : Int32) (ob_pI (ob_pI (ob_pI D1 (D1.2.1 v0 61) x3.toNatClampNeg ((1 : Int32) &&& 1)) ((ob_pI D1 (D1.2.1 v0 61) x3.toNatClampNeg ((1 : Int32) &&& 1)).2.1 v0 62) x3.toNatClampNeg ((0 : Int32) &&& 1)) ((ob_pI (ob_pI D1 (D1.2.1 v0 61) x3.toNatClampNeg ((1 : Int32) &&& 1)) ((ob_pI D1 (D1.2.1 v0 61) x3.toNatClampNeg ((1 : Int32) &&& 1)).2.1 v0 62) x3.toNatClampNeg ((0 : Int32) &&& 1)).2.1 v0 64) x3.toNatClampNeg (((ob_pI (ob_pI D1 (D1.2.1 v0 61) x3.toNatClampNeg ((1 : Int32) &&& 1)) ((ob_pI D1 (D1.2.1 v0 61) x3.toNatClampNeg ((1 : Int32) &&& 1)).2.1 v0 62) x3.toNatClampNeg ((0 : Int32) &&& 1)).1 v0 28) - (14 : Int32))) hp_v0 h
-- OrbitBoxModel.act(II)V
theorem d_Model_act_1 : decode k_Model_act.2.2.1 1 = .ok (.tableswitch 161 3 19 #[83, 161, 91, 114, 161, 122, 161, 161, 129, 137, 161, 161, 145, 161, 161, 161, 153], 83) := by decide +kernel
theorem d_Model_act_173 : ob_dc k_Model_act 173 (.return_) 1 174 := ⟨by decide +kernel, rfl⟩
theorem d_Model_act_89 : ob_db k_Model_act 89 (.goto 84) 84 92 173 := ⟨by decide +kernel, rfl, by decide⟩
theorem d_Model_act_86 : ob_dc k_Model_act 86 (.invokevirtual 324) 3 89 := ⟨by decide +kernel, rfl⟩
theorem d_Model_act_85 : ob_dv ob_lc k_Model_act 85 86 2 (.iload_n 2) 1 := ⟨by decide +kernel, rfl, rfl⟩
theorem d_Model_act_84 : ob_dv ob_ac k_Model_act 84 85 0 (.aload_n 0) 1 := ⟨by decide +kernel, rfl, rfl⟩
theorem d_Model_act_97 : ob_dk k_Model_act 97 98 (0 : Int32) (.iconst 0) 1 := ⟨by decide +kernel, rfl, show Int32.ofInt 0 = (0 : Int32) by decide +kernel⟩
theorem d_Model_act_102 : ob_dk k_Model_act 102 103 (5 : Int32) (.iconst 5) 1 := ⟨by decide +kernel, rfl, show Int32.ofInt 5 = (5 : Int32) by decide +kernel⟩
theorem d_Model_act_110 : ob_dk k_Model_act 110 111 (0 : Int32) (.iconst 0) 1 := ⟨by decide +kernel, rfl, show Int32.ofInt 0 = (0 : Int32) by decide +kernel⟩
theorem d_Model_act_112 : ob_db k_Model_act 112 (.goto 61) 61 115 173 := ⟨by decide +kernel, rfl, by decide⟩
theorem d_Model_act_111 : ob_dc k_Model_act 111 (.bastore) 1 112 := ⟨by decide +kernel, rfl⟩
theorem d_Model_act_106 : ob_dk k_Model_act 106 107 (1 : Int32) (.iconst 1) 1 := ⟨by decide +kernel, rfl, show Int32.ofInt 1 = (1 : Int32) by decide +kernel⟩
theorem d_Model_act_107 : ob_db k_Model_act 107 (.goto 4) 4 110 111 := ⟨by decide +kernel, rfl, by decide⟩
theorem d_Model_act_103 : ob_db k_Model_act 103 (.if_icmp .ne 7) 7 106 110 := ⟨by decide +kernel, rfl, by decide⟩
theorem d_Model_act_101 : ob_dv ob_lc k_Model_act 101 102 2 (.iload_n 2) 1 := ⟨by decide +kernel, rfl, rfl⟩
theorem d_Model_act_98 : ob_dc k_Model_act 98 (.invokevirtual 302) 3 101 := ⟨by decide +kernel, rfl⟩
theorem d_Model_act_96 : ob_dv ob_ac k_Model_act 96 97 0 (.aload_n 0) 1 := ⟨by decide +kernel, rfl, rfl⟩
theorem d_Model_act_93 : ob_dc k_Model_act 93 (.getfield 100) 3 96 := ⟨by decide +kernel, rfl⟩
theorem d_Model_act_92 : ob_dv ob_ac k_Model_act 92 93 0 (.aload_n 0) 1 := ⟨by decide +kernel, rfl, rfl⟩
theorem d_Model_act_120 : ob_db k_Model_act 120 (.goto 53) 53 123 173 := ⟨by decide +kernel, rfl, by decide⟩
theorem d_Model_act_117 : ob_dc k_Model_act 117 (.invokevirtual 327) 3 120 := ⟨by decide +kernel, rfl⟩
theorem d_Model_act_116 : ob_dv ob_lc k_Model_act 116 117 2 (.iload_n 2) 1 := ⟨by decide +kernel, rfl, rfl⟩
theorem d_Model_act_115 : ob_dv ob_ac k_Model_act 115 116 0 (.aload_n 0) 1 := ⟨by decide +kernel, rfl, rfl⟩
theorem d_Model_act_127 : ob_db k_Model_act 127 (.goto 46) 46 130 173 := ⟨by decide +kernel, rfl, by decide⟩
theorem d_Model_act_124 : ob_dc k_Model_act 124 (.invokevirtual 330) 3 127 := ⟨by decide +kernel, rfl⟩
theorem d_Model_act_123 : ob_dv ob_ac k_Model_act 123 124 0 (.aload_n 0) 1 := ⟨by decide +kernel, rfl, rfl⟩
theorem d_Model_act_135 : ob_db k_Model_act 135 (.goto 38) 38 138 173 := ⟨by decide +kernel, rfl, by decide⟩
theorem d_Model_act_132 : ob_dc k_Model_act 132 (.invokevirtual 333) 3 135 := ⟨by decide +kernel, rfl⟩
theorem d_Model_act_131 : ob_dv ob_lc k_Model_act 131 132 2 (.iload_n 2) 1 := ⟨by decide +kernel, rfl, rfl⟩
theorem d_Model_act_130 : ob_dv ob_ac k_Model_act 130 131 0 (.aload_n 0) 1 := ⟨by decide +kernel, rfl, rfl⟩
theorem d_Model_act_143 : ob_db k_Model_act 143 (.goto 30) 30 146 173 := ⟨by decide +kernel, rfl, by decide⟩
theorem d_Model_act_140 : ob_dc k_Model_act 140 (.invokevirtual 336) 3 143 := ⟨by decide +kernel, rfl⟩
theorem d_Model_act_139 : ob_dv ob_lc k_Model_act 139 140 2 (.iload_n 2) 1 := ⟨by decide +kernel, rfl, rfl⟩
theorem d_Model_act_138 : ob_dv ob_ac k_Model_act 138 139 0 (.aload_n 0) 1 := ⟨by decide +kernel, rfl, rfl⟩
theorem d_Model_act_151 : ob_db k_Model_act 151 (.goto 22) 22 154 173 := ⟨by decide +kernel, rfl, by decide⟩
theorem d_Model_act_148 : ob_dc k_Model_act 148 (.invokevirtual 339) 3 151 := ⟨by decide +kernel, rfl⟩
theorem d_Model_act_147 : ob_dv ob_lc k_Model_act 147 148 2 (.iload_n 2) 1 := ⟨by decide +kernel, rfl, rfl⟩
theorem d_Model_act_146 : ob_dv ob_ac k_Model_act 146 147 0 (.aload_n 0) 1 := ⟨by decide +kernel, rfl, rfl⟩
theorem d_Model_act_159 : ob_db k_Model_act 159 (.goto 14) 14 162 173 := ⟨by decide +kernel, rfl, by decide⟩
theorem d_Model_act_156 : ob_dc k_Model_act 156 (.invokevirtual 342) 3 159 := ⟨by decide +kernel, rfl⟩
theorem d_Model_act_155 : ob_dv ob_lc k_Model_act 155 156 2 (.iload_n 2) 1 := ⟨by decide +kernel, rfl, rfl⟩
theorem d_Model_act_154 : ob_dv ob_ac k_Model_act 154 155 0 (.aload_n 0) 1 := ⟨by decide +kernel, rfl, rfl⟩
theorem d_Model_act_163 : ob_dk k_Model_act 163 165 (17 : Int32) (.bipush 17) 2 := ⟨by decide +kernel, rfl, show (Int8.ofInt 17).toInt32 = (17 : Int32) by decide +kernel⟩
theorem d_Model_act_165 : ob_dk k_Model_act 165 166 (2 : Int32) (.iconst 2) 1 := ⟨by decide +kernel, rfl, show Int32.ofInt 2 = (2 : Int32) by decide +kernel⟩
theorem d_Model_act_170 : ob_dc k_Model_act 170 (.invokevirtual 276) 3 173 := ⟨by decide +kernel, rfl⟩
theorem d_Model_act_169 : ob_dv ob_ac k_Model_act 169 170 0 (.aload_n 0) 1 := ⟨by decide +kernel, rfl, rfl⟩
theorem d_Model_act_166 : ob_dc k_Model_act 166 (.invokevirtual 267) 3 169 := ⟨by decide +kernel, rfl⟩
theorem d_Model_act_162 : ob_dv ob_ac k_Model_act 162 163 0 (.aload_n 0) 1 := ⟨by decide +kernel, rfl, rfl⟩
theorem d_Model_act_0 : ob_dv ob_lc k_Model_act 0 1 1 (.iload_n 1) 1 := ⟨by decide +kernel, rfl, rfl⟩
theorem c_Model_act_324 : ob_vd k_Model_act k_Model_actForm 324 1 12 := ⟨cw_Model_actForm, yd_Model_actForm, w_1552, w_1554, wp_83, w_14, ⟨_, _, rfl⟩, by decide, by decide⟩
theorem c_Model_act_302 : ob_vd k_Model_act k_Model_data 302 1 12 := ⟨cw_Model_data, yd_Model_data, w_1504, w_1506, wp_72, w_14, ⟨_, _, rfl⟩, by decide, by decide⟩
theorem c_Model_act_327 : ob_vd k_Model_act k_Model_actMemory 327 1 12 := ⟨cw_Model_actMemory, yd_Model_actMemory, w_1564, w_1566, wp_86, w_14, ⟨_, _, rfl⟩, by decide, by decide⟩
theorem c_Model_act_330 : ob_vd k_Model_act k_Model_actFunction 330 0 12 := ⟨cw_Model_actFunction, yd_Model_actFunction, w_1568, w_1570, wp_87, w_14, ⟨_, _, rfl⟩, by decide, by decide⟩
theorem c_Model_act_333 : ob_vd k_Model_act k_Model_actTable 333 1 12 := ⟨cw_Model_actTable, yd_Model_actTable, w_1580, w_1582, wp_90, w_14, ⟨_, _, rfl⟩, by decide, by decide⟩
theorem c_Model_act_336 : ob_vd k_Model_act k_Model_actLimit 336 1 12 := ⟨cw_Model_actLimit, yd_Model_actLimit, w_1584, w_1586, wp_91, w_14, ⟨_, _, rfl⟩, by decide, by decide⟩
theorem c_Model_act_339 : ob_vd k_Model_act k_Model_actStore 339 1 12 := ⟨cw_Model_actStore, yd_Model_actStore, w_1588, w_1590, wp_92, w_14, ⟨_, _, rfl⟩, by decide, by decide⟩
theorem c_Model_act_342 : ob_vd k_Model_act k_Model_actAction 342 1 12 := ⟨cw_Model_actAction, yd_Model_actAction, w_1592, w_1594, wp_93, w_14, ⟨_, _, rfl⟩, by decide, by decide⟩
theorem c_Model_act_276 : ob_vd k_Model_act k_Model_made 276 0 12 := ⟨cw_Model_made, yd_Model_made, w_1477, w_1479, wp_66, w_14, ⟨_, _, rfl⟩, by decide, by decide⟩
theorem c_Model_act_267 : ob_vd k_Model_act k_Model_report 267 2 12 := ⟨cw_Model_report, yd_Model_report, w_1456, w_1458, wp_61, w_14, ⟨_, _, rfl⟩, by decide, by decide⟩
def f_Model_act (S : ob_S) (v0 : Nat) (v1 : Int32) (v2 : Int32) (D : ob_D) : Option (ob_D) :=
  (if v1 = (3 : Int32) then ob_bv (f_Model_actForm S v0 v2 D) fun D1 => some D1 else if v1 = (5 : Int32) then if D.2.1 v0 60 ≠ 0 then ob_bd (f_Model_data S v0 (0 : Int32) D) fun x8 D6 => (if v2 = (5 : Int32) then if ob_in x8 (S.2.1 (D.2.1 v0 60)) then ob_lt (ob_pI D6 (D.2.1 v0 60) x8.toNatClampNeg ((1 : Int32) &&& 1)) fun D12 => some D12 else none else if ob_in x8 (S.2.1 (D.2.1 v0 60)) then ob_lt (ob_pI D6 (D.2.1 v0 60) x8.toNatClampNeg ((0 : Int32) &&& 1)) fun D10 => some D10 else none) else none else if v1 = (6 : Int32) then ob_bv (f_Model_actMemory S v0 v2 D) fun D14 => some D14 else if v1 = (8 : Int32) then ob_bv (f_Model_actFunction S v0 D) fun D17 => some D17 else if v1 = (11 : Int32) then ob_bv (f_Model_actTable S v0 v2 D) fun D20 => some D20 else if v1 = (12 : Int32) then ob_bv (f_Model_actLimit S v0 v2 D) fun D23 => some D23 else if v1 = (15 : Int32) then ob_bv (f_Model_actStore S v0 v2 D) fun D26 => some D26 else if v1 = (19 : Int32) then ob_bv (f_Model_actAction S v0 v2 D) fun D29 => some D29 else ob_bv (f_Model_report S v0 (17 : Int32) (2 : Int32) D) fun D32 => ob_bv (f_Model_made S v0 D32) fun D34 => some D34)
theorem c_Model_act {l : Launch} {E : ob_E} {S : ob_S} {D : ob_D} {v0 : Nat} {v1 : Int32} {v2 : Int32} {D' : ob_D} (hp_v0 : S.1 v0 = 13) (h : f_Model_act S v0 v1 v2 D = some D') : ob_M l E k_Model_act [.ref v0, .int v1, .int v2] S D none S D' := by
  refine ob_ofV (lo := [(0, .ref v0), (1, .int v1), (2, .int v2)]) (by decide) rfl (Nat.le_of_ble_eq_true rfl) rfl (Nat.le_refl _) (Nat.le_refl _) ?_
  rw [f_Model_act] at h
  refine ob_iload d_Model_act_0 rfl ?_
  by_cases hs3 : v1 = (3 : Int32)
  · replace h := ob_ift hs3 h
    refine ob_tabI (off := 83) (t := 84) d_Model_act_1 hs3 (by decide +kernel) ?_
    refine ob_aload d_Model_act_84 rfl ?_
    refine ob_iload d_Model_act_85 rfl ?_
    obtain ⟨D1, h2, h⟩ := ob_bv_e h
    refine ob_callVv (As := [.int v2]) (rest := []) d_Model_act_86 c_Model_act_324 hp_v0 rfl rfl (Nat.le_of_ble_eq_true rfl) (c_Model_actForm hp_v0 h2) ⟨Nat.le_refl _, Nat.le_refl _⟩ ⟨Nat.le_refl _, Nat.le_refl _⟩ ?_
    refine ob_goto d_Model_act_89 ?_
    exact ob_ve h (ob_vret d_Model_act_173 rfl)
  replace h := ob_iff hs3 h
  by_cases hs13 : v1 = (5 : Int32)
  · replace h := ob_ift hs13 h
    refine ob_tabI (off := 91) (t := 92) d_Model_act_1 hs13 (by decide +kernel) ?_
    refine ob_aload d_Model_act_92 rfl ?_
    obtain ⟨hg5, h⟩ := ob_gd h
    refine ob_getR d_Model_act_93 F_12_60 l_Model_100 hp_v0 hg5 (fun hk4 => ?_)
    refine ob_aload d_Model_act_96 rfl ?_
    refine ob_push d_Model_act_97 ?_
    obtain ⟨x8, D6, h7, h⟩ := ob_bd_e h
    refine ob_callVi (As := [.int (0 : Int32)]) (rest := [.ref (D.2.1 v0 60)]) d_Model_act_98 c_Model_act_302 hp_v0 rfl rfl (Nat.le_of_ble_eq_true rfl) (c_Model_data hp_v0 h7) ⟨Nat.le_refl _, Nat.le_refl _⟩ ⟨Nat.le_refl _, Nat.le_refl _⟩ ?_
    refine ob_iload d_Model_act_101 rfl ?_
    refine ob_push d_Model_act_102 ?_
    refine ob_icmp_ne d_Model_act_103 (fun hc => ?_) (fun hc => ?_)
    · replace h := ob_iff hc h
      refine ob_push d_Model_act_110 ?_
      obtain ⟨hg9, h⟩ := ob_gd h
      replace h := ob_lt_e h
      refine ob_zast d_Model_act_111 hk4 hg9 ?_
      refine ob_goto d_Model_act_112 ?_
      exact ob_ve h (ob_vret d_Model_act_173 rfl)
    · replace h := ob_ift hc h
      refine ob_push d_Model_act_106 ?_
      refine ob_goto d_Model_act_107 ?_
      obtain ⟨hg11, h⟩ := ob_gd h
      replace h := ob_lt_e h
      refine ob_zast d_Model_act_111 hk4 hg11 ?_
      refine ob_goto d_Model_act_112 ?_
      exact ob_ve h (ob_vret d_Model_act_173 rfl)
  replace h := ob_iff hs13 h
  by_cases hs16 : v1 = (6 : Int32)
  · replace h := ob_ift hs16 h
    refine ob_tabI (off := 114) (t := 115) d_Model_act_1 hs16 (by decide +kernel) ?_
    refine ob_aload d_Model_act_115 rfl ?_
    refine ob_iload d_Model_act_116 rfl ?_
    obtain ⟨D14, h15, h⟩ := ob_bv_e h
    refine ob_callVv (As := [.int v2]) (rest := []) d_Model_act_117 c_Model_act_327 hp_v0 rfl rfl (Nat.le_of_ble_eq_true rfl) (c_Model_actMemory hp_v0 h15) ⟨Nat.le_refl _, Nat.le_refl _⟩ ⟨Nat.le_refl _, Nat.le_refl _⟩ ?_
    refine ob_goto d_Model_act_120 ?_
    exact ob_ve h (ob_vret d_Model_act_173 rfl)
  replace h := ob_iff hs16 h
  by_cases hs19 : v1 = (8 : Int32)
  · replace h := ob_ift hs19 h
    refine ob_tabI (off := 122) (t := 123) d_Model_act_1 hs19 (by decide +kernel) ?_
    refine ob_aload d_Model_act_123 rfl ?_
    obtain ⟨D17, h18, h⟩ := ob_bv_e h
    refine ob_callVv (As := []) (rest := []) d_Model_act_124 c_Model_act_330 hp_v0 rfl rfl (Nat.le_of_ble_eq_true rfl) (c_Model_actFunction hp_v0 h18) ⟨Nat.le_refl _, Nat.le_refl _⟩ ⟨Nat.le_refl _, Nat.le_refl _⟩ ?_
    refine ob_goto d_Model_act_127 ?_
    exact ob_ve h (ob_vret d_Model_act_173 rfl)
  replace h := ob_iff hs19 h
  by_cases hs22 : v1 = (11 : Int32)
  · replace h := ob_ift hs22 h
    refine ob_tabI (off := 129) (t := 130) d_Model_act_1 hs22 (by decide +kernel) ?_
    refine ob_aload d_Model_act_130 rfl ?_
    refine ob_iload d_Model_act_131 rfl ?_
    obtain ⟨D20, h21, h⟩ := ob_bv_e h
    refine ob_callVv (As := [.int v2]) (rest := []) d_Model_act_132 c_Model_act_333 hp_v0 rfl rfl (Nat.le_of_ble_eq_true rfl) (c_Model_actTable hp_v0 h21) ⟨Nat.le_refl _, Nat.le_refl _⟩ ⟨Nat.le_refl _, Nat.le_refl _⟩ ?_
    refine ob_goto d_Model_act_135 ?_
    exact ob_ve h (ob_vret d_Model_act_173 rfl)
  replace h := ob_iff hs22 h
  by_cases hs25 : v1 = (12 : Int32)
  · replace h := ob_ift hs25 h
    refine ob_tabI (off := 137) (t := 138) d_Model_act_1 hs25 (by decide +kernel) ?_
    refine ob_aload d_Model_act_138 rfl ?_
    refine ob_iload d_Model_act_139 rfl ?_
    obtain ⟨D23, h24, h⟩ := ob_bv_e h
    refine ob_callVv (As := [.int v2]) (rest := []) d_Model_act_140 c_Model_act_336 hp_v0 rfl rfl (Nat.le_of_ble_eq_true rfl) (c_Model_actLimit hp_v0 h24) ⟨Nat.le_refl _, Nat.le_refl _⟩ ⟨Nat.le_refl _, Nat.le_refl _⟩ ?_
    refine ob_goto d_Model_act_143 ?_
    exact ob_ve h (ob_vret d_Model_act_173 rfl)
  replace h := ob_iff hs25 h
  by_cases hs28 : v1 = (15 : Int32)
  · replace h := ob_ift hs28 h
    refine ob_tabI (off := 145) (t := 146) d_Model_act_1 hs28 (by decide +kernel) ?_
    refine ob_aload d_Model_act_146 rfl ?_
    refine ob_iload d_Model_act_147 rfl ?_
    obtain ⟨D26, h27, h⟩ := ob_bv_e h
    refine ob_callVv (As := [.int v2]) (rest := []) d_Model_act_148 c_Model_act_339 hp_v0 rfl rfl (Nat.le_of_ble_eq_true rfl) (c_Model_actStore hp_v0 h27) ⟨Nat.le_refl _, Nat.le_refl _⟩ ⟨Nat.le_refl _, Nat.le_refl _⟩ ?_
    refine ob_goto d_Model_act_151 ?_
    exact ob_ve h (ob_vret d_Model_act_173 rfl)
  replace h := ob_iff hs28 h
  by_cases hs31 : v1 = (19 : Int32)
  · replace h := ob_ift hs31 h
    refine ob_tabI (off := 153) (t := 154) d_Model_act_1 hs31 (by decide +kernel) ?_
    refine ob_aload d_Model_act_154 rfl ?_
    refine ob_iload d_Model_act_155 rfl ?_
    obtain ⟨D29, h30, h⟩ := ob_bv_e h
    refine ob_callVv (As := [.int v2]) (rest := []) d_Model_act_156 c_Model_act_342 hp_v0 rfl rfl (Nat.le_of_ble_eq_true rfl) (c_Model_actAction hp_v0 h30) ⟨Nat.le_refl _, Nat.le_refl _⟩ ⟨Nat.le_refl _, Nat.le_refl _⟩ ?_
    refine ob_goto d_Model_act_159 ?_
    exact ob_ve h (ob_vret d_Model_act_173 rfl)
  replace h := ob_iff hs31 h
  by_cases hs36 : v1 = (4 : Int32)
  · refine ob_tabI (off := 161) (t := 162) d_Model_act_1 hs36 (by decide +kernel) ?_
    refine ob_aload d_Model_act_162 rfl ?_
    refine ob_push d_Model_act_163 ?_
    refine ob_push d_Model_act_165 ?_
    obtain ⟨D32, h33, h⟩ := ob_bv_e h
    refine ob_callVv (As := [.int (17 : Int32), .int (2 : Int32)]) (rest := []) d_Model_act_166 c_Model_act_267 hp_v0 rfl rfl (Nat.le_of_ble_eq_true rfl) (c_Model_report hp_v0 h33) ⟨Nat.le_refl _, Nat.le_refl _⟩ ⟨Nat.le_refl _, Nat.le_refl _⟩ ?_
    refine ob_aload d_Model_act_169 rfl ?_
    obtain ⟨D34, h35, h⟩ := ob_bv_e h
    refine ob_callVv (As := []) (rest := []) d_Model_act_170 c_Model_act_276 hp_v0 rfl rfl (Nat.le_of_ble_eq_true rfl) (c_Model_made hp_v0 h35) ⟨Nat.le_refl _, Nat.le_refl _⟩ ⟨Nat.le_refl _, Nat.le_refl _⟩ ?_
    exact ob_ve h (ob_vret d_Model_act_173 rfl)
  by_cases hs37 : v1 = (7 : Int32)
  · refine ob_tabI (off := 161) (t := 162) d_Model_act_1 hs37 (by decide +kernel) ?_
    refine ob_aload d_Model_act_162 rfl ?_
    refine ob_push d_Model_act_163 ?_
    refine ob_push d_Model_act_165 ?_
    obtain ⟨D32, h33, h⟩ := ob_bv_e h
    refine ob_callVv (As := [.int (17 : Int32), .int (2 : Int32)]) (rest := []) d_Model_act_166 c_Model_act_267 hp_v0 rfl rfl (Nat.le_of_ble_eq_true rfl) (c_Model_report hp_v0 h33) ⟨Nat.le_refl _, Nat.le_refl _⟩ ⟨Nat.le_refl _, Nat.le_refl _⟩ ?_
    refine ob_aload d_Model_act_169 rfl ?_
    obtain ⟨D34, h35, h⟩ := ob_bv_e h
    refine ob_callVv (As := []) (rest := []) d_Model_act_170 c_Model_act_276 hp_v0 rfl rfl (Nat.le_of_ble_eq_true rfl) (c_Model_made hp_v0 h35) ⟨Nat.le_refl _, Nat.le_refl _⟩ ⟨Nat.le_refl _, Nat.le_refl _⟩ ?_
    exact ob_ve h (ob_vret d_Model_act_173 rfl)
  by_cases hs38 : v1 = (9 : Int32)
  · refine ob_tabI (off := 161) (t := 162) d_Model_act_1 hs38 (by decide +kernel) ?_
    refine ob_aload d_Model_act_162 rfl ?_
    refine ob_push d_Model_act_163 ?_
    refine ob_push d_Model_act_165 ?_
    obtain ⟨D32, h33, h⟩ := ob_bv_e h
    refine ob_callVv (As := [.int (17 : Int32), .int (2 : Int32)]) (rest := []) d_Model_act_166 c_Model_act_267 hp_v0 rfl rfl (Nat.le_of_ble_eq_true rfl) (c_Model_report hp_v0 h33) ⟨Nat.le_refl _, Nat.le_refl _⟩ ⟨Nat.le_refl _, Nat.le_refl _⟩ ?_
    refine ob_aload d_Model_act_169 rfl ?_
    obtain ⟨D34, h35, h⟩ := ob_bv_e h
    refine ob_callVv (As := []) (rest := []) d_Model_act_170 c_Model_act_276 hp_v0 rfl rfl (Nat.le_of_ble_eq_true rfl) (c_Model_made hp_v0 h35) ⟨Nat.le_refl _, Nat.le_refl _⟩ ⟨Nat.le_refl _, Nat.le_refl _⟩ ?_
    exact ob_ve h (ob_vret d_Model_act_173 rfl)
  by_cases hs39 : v1 = (10 : Int32)
  · refine ob_tabI (off := 161) (t := 162) d_Model_act_1 hs39 (by decide +kernel) ?_
    refine ob_aload d_Model_act_162 rfl ?_
    refine ob_push d_Model_act_163 ?_
    refine ob_push d_Model_act_165 ?_
    obtain ⟨D32, h33, h⟩ := ob_bv_e h
    refine ob_callVv (As := [.int (17 : Int32), .int (2 : Int32)]) (rest := []) d_Model_act_166 c_Model_act_267 hp_v0 rfl rfl (Nat.le_of_ble_eq_true rfl) (c_Model_report hp_v0 h33) ⟨Nat.le_refl _, Nat.le_refl _⟩ ⟨Nat.le_refl _, Nat.le_refl _⟩ ?_
    refine ob_aload d_Model_act_169 rfl ?_
    obtain ⟨D34, h35, h⟩ := ob_bv_e h
    refine ob_callVv (As := []) (rest := []) d_Model_act_170 c_Model_act_276 hp_v0 rfl rfl (Nat.le_of_ble_eq_true rfl) (c_Model_made hp_v0 h35) ⟨Nat.le_refl _, Nat.le_refl _⟩ ⟨Nat.le_refl _, Nat.le_refl _⟩ ?_
    exact ob_ve h (ob_vret d_Model_act_173 rfl)
  by_cases hs40 : v1 = (13 : Int32)
  · refine ob_tabI (off := 161) (t := 162) d_Model_act_1 hs40 (by decide +kernel) ?_
    refine ob_aload d_Model_act_162 rfl ?_
    refine ob_push d_Model_act_163 ?_
    refine ob_push d_Model_act_165 ?_
    obtain ⟨D32, h33, h⟩ := ob_bv_e h
    refine ob_callVv (As := [.int (17 : Int32), .int (2 : Int32)]) (rest := []) d_Model_act_166 c_Model_act_267 hp_v0 rfl rfl (Nat.le_of_ble_eq_true rfl) (c_Model_report hp_v0 h33) ⟨Nat.le_refl _, Nat.le_refl _⟩ ⟨Nat.le_refl _, Nat.le_refl _⟩ ?_
    refine ob_aload d_Model_act_169 rfl ?_
    obtain ⟨D34, h35, h⟩ := ob_bv_e h
    refine ob_callVv (As := []) (rest := []) d_Model_act_170 c_Model_act_276 hp_v0 rfl rfl (Nat.le_of_ble_eq_true rfl) (c_Model_made hp_v0 h35) ⟨Nat.le_refl _, Nat.le_refl _⟩ ⟨Nat.le_refl _, Nat.le_refl _⟩ ?_
    exact ob_ve h (ob_vret d_Model_act_173 rfl)
  by_cases hs41 : v1 = (14 : Int32)
  · refine ob_tabI (off := 161) (t := 162) d_Model_act_1 hs41 (by decide +kernel) ?_
    refine ob_aload d_Model_act_162 rfl ?_
    refine ob_push d_Model_act_163 ?_
    refine ob_push d_Model_act_165 ?_
    obtain ⟨D32, h33, h⟩ := ob_bv_e h
    refine ob_callVv (As := [.int (17 : Int32), .int (2 : Int32)]) (rest := []) d_Model_act_166 c_Model_act_267 hp_v0 rfl rfl (Nat.le_of_ble_eq_true rfl) (c_Model_report hp_v0 h33) ⟨Nat.le_refl _, Nat.le_refl _⟩ ⟨Nat.le_refl _, Nat.le_refl _⟩ ?_
    refine ob_aload d_Model_act_169 rfl ?_
    obtain ⟨D34, h35, h⟩ := ob_bv_e h
    refine ob_callVv (As := []) (rest := []) d_Model_act_170 c_Model_act_276 hp_v0 rfl rfl (Nat.le_of_ble_eq_true rfl) (c_Model_made hp_v0 h35) ⟨Nat.le_refl _, Nat.le_refl _⟩ ⟨Nat.le_refl _, Nat.le_refl _⟩ ?_
    exact ob_ve h (ob_vret d_Model_act_173 rfl)
  by_cases hs42 : v1 = (16 : Int32)
  · refine ob_tabI (off := 161) (t := 162) d_Model_act_1 hs42 (by decide +kernel) ?_
    refine ob_aload d_Model_act_162 rfl ?_
    refine ob_push d_Model_act_163 ?_
    refine ob_push d_Model_act_165 ?_
    obtain ⟨D32, h33, h⟩ := ob_bv_e h
    refine ob_callVv (As := [.int (17 : Int32), .int (2 : Int32)]) (rest := []) d_Model_act_166 c_Model_act_267 hp_v0 rfl rfl (Nat.le_of_ble_eq_true rfl) (c_Model_report hp_v0 h33) ⟨Nat.le_refl _, Nat.le_refl _⟩ ⟨Nat.le_refl _, Nat.le_refl _⟩ ?_
    refine ob_aload d_Model_act_169 rfl ?_
    obtain ⟨D34, h35, h⟩ := ob_bv_e h
    refine ob_callVv (As := []) (rest := []) d_Model_act_170 c_Model_act_276 hp_v0 rfl rfl (Nat.le_of_ble_eq_true rfl) (c_Model_made hp_v0 h35) ⟨Nat.le_refl _, Nat.le_refl _⟩ ⟨Nat.le_refl _, Nat.le_refl _⟩ ?_
    exact ob_ve h (ob_vret d_Model_act_173 rfl)
  by_cases hs43 : v1 = (17 : Int32)
  · refine ob_tabI (off := 161) (t := 162) d_Model_act_1 hs43 (by decide +kernel) ?_
    refine ob_aload d_Model_act_162 rfl ?_
    refine ob_push d_Model_act_163 ?_
    refine ob_push d_Model_act_165 ?_
    obtain ⟨D32, h33, h⟩ := ob_bv_e h
    refine ob_callVv (As := [.int (17 : Int32), .int (2 : Int32)]) (rest := []) d_Model_act_166 c_Model_act_267 hp_v0 rfl rfl (Nat.le_of_ble_eq_true rfl) (c_Model_report hp_v0 h33) ⟨Nat.le_refl _, Nat.le_refl _⟩ ⟨Nat.le_refl _, Nat.le_refl _⟩ ?_
    refine ob_aload d_Model_act_169 rfl ?_
    obtain ⟨D34, h35, h⟩ := ob_bv_e h
    refine ob_callVv (As := []) (rest := []) d_Model_act_170 c_Model_act_276 hp_v0 rfl rfl (Nat.le_of_ble_eq_true rfl) (c_Model_made hp_v0 h35) ⟨Nat.le_refl _, Nat.le_refl _⟩ ⟨Nat.le_refl _, Nat.le_refl _⟩ ?_
    exact ob_ve h (ob_vret d_Model_act_173 rfl)
  by_cases hs44 : v1 = (18 : Int32)
  · refine ob_tabI (off := 161) (t := 162) d_Model_act_1 hs44 (by decide +kernel) ?_
    refine ob_aload d_Model_act_162 rfl ?_
    refine ob_push d_Model_act_163 ?_
    refine ob_push d_Model_act_165 ?_
    obtain ⟨D32, h33, h⟩ := ob_bv_e h
    refine ob_callVv (As := [.int (17 : Int32), .int (2 : Int32)]) (rest := []) d_Model_act_166 c_Model_act_267 hp_v0 rfl rfl (Nat.le_of_ble_eq_true rfl) (c_Model_report hp_v0 h33) ⟨Nat.le_refl _, Nat.le_refl _⟩ ⟨Nat.le_refl _, Nat.le_refl _⟩ ?_
    refine ob_aload d_Model_act_169 rfl ?_
    obtain ⟨D34, h35, h⟩ := ob_bv_e h
    refine ob_callVv (As := []) (rest := []) d_Model_act_170 c_Model_act_276 hp_v0 rfl rfl (Nat.le_of_ble_eq_true rfl) (c_Model_made hp_v0 h35) ⟨Nat.le_refl _, Nat.le_refl _⟩ ⟨Nat.le_refl _, Nat.le_refl _⟩ ?_
    exact ob_ve h (ob_vret d_Model_act_173 rfl)
  refine ob_tabO (t := 162) d_Model_act_1 (by decide) (ob_out _ _ _ (fun k h1 h2 hk => ?_)) ?_
  · have hh : k = 3 ∨ k = 4 ∨ k = 5 ∨ k = 6 ∨ k = 7 ∨ k = 8 ∨ k = 9 ∨ k = 10 ∨ k = 11 ∨ k = 12 ∨ k = 13 ∨ k = 14 ∨ k = 15 ∨ k = 16 ∨ k = 17 ∨ k = 18 ∨ k = 19 := by omega
    rcases hh with rfl | rfl | rfl | rfl | rfl | rfl | rfl | rfl | rfl | rfl | rfl | rfl | rfl | rfl | rfl | rfl | rfl
    · exact hs3 (Int32.toInt_inj.mp hk)
    · exact hs36 (Int32.toInt_inj.mp hk)
    · exact hs13 (Int32.toInt_inj.mp hk)
    · exact hs16 (Int32.toInt_inj.mp hk)
    · exact hs37 (Int32.toInt_inj.mp hk)
    · exact hs19 (Int32.toInt_inj.mp hk)
    · exact hs38 (Int32.toInt_inj.mp hk)
    · exact hs39 (Int32.toInt_inj.mp hk)
    · exact hs22 (Int32.toInt_inj.mp hk)
    · exact hs25 (Int32.toInt_inj.mp hk)
    · exact hs40 (Int32.toInt_inj.mp hk)
    · exact hs41 (Int32.toInt_inj.mp hk)
    · exact hs28 (Int32.toInt_inj.mp hk)
    · exact hs42 (Int32.toInt_inj.mp hk)
    · exact hs43 (Int32.toInt_inj.mp hk)
    · exact hs44 (Int32.toInt_inj.mp hk)
    · exact hs31 (Int32.toInt_inj.mp hk)
  · skip
    refine ob_aload d_Model_act_162 rfl ?_
    refine ob_push d_Model_act_163 ?_
    refine ob_push d_Model_act_165 ?_
    obtain ⟨D32, h33, h⟩ := ob_bv_e h
    refine ob_callVv (As := [.int (17 : Int32), .int (2 : Int32)]) (rest := []) d_Model_act_166 c_Model_act_267 hp_v0 rfl rfl (Nat.le_of_ble_eq_true rfl) (c_Model_report hp_v0 h33) ⟨Nat.le_refl _, Nat.le_refl _⟩ ⟨Nat.le_refl _, Nat.le_refl _⟩ ?_
    refine ob_aload d_Model_act_169 rfl ?_
    obtain ⟨D34, h35, h⟩ := ob_bv_e h
    refine ob_callVv (As := []) (rest := []) d_Model_act_170 c_Model_act_276 hp_v0 rfl rfl (Nat.le_of_ble_eq_true rfl) (c_Model_made hp_v0 h35) ⟨Nat.le_refl _, Nat.le_refl _⟩ ⟨Nat.le_refl _, Nat.le_refl _⟩ ?_
    exact ob_ve h (ob_vret d_Model_act_173 rfl)
-- OrbitBoxModel.handle()V
theorem d_Model_handle_5 : ob_dk k_Model_handle 5 6 (1 : Int32) (.iconst 1) 1 := ⟨by decide +kernel, rfl, show Int32.ofInt 1 = (1 : Int32) by decide +kernel⟩
theorem d_Model_handle_14 : ob_dk k_Model_handle 14 15 (0 : Int32) (.iconst 0) 1 := ⟨by decide +kernel, rfl, show Int32.ofInt 0 = (0 : Int32) by decide +kernel⟩
theorem d_Model_handle_48 : ob_dk k_Model_handle 48 50 (6 : Int32) (.bipush 6) 2 := ⟨by decide +kernel, rfl, show (Int8.ofInt 6).toInt32 = (6 : Int32) by decide +kernel⟩
theorem d_Model_handle_51 : ob_dk k_Model_handle 51 53 (15 : Int32) (.bipush 15) 2 := ⟨by decide +kernel, rfl, show (Int8.ofInt 15).toInt32 = (15 : Int32) by decide +kernel⟩
theorem d_Model_handle_59 : ob_dk k_Model_handle 59 61 (7 : Int32) (.bipush 7) 2 := ⟨by decide +kernel, rfl, show (Int8.ofInt 7).toInt32 = (7 : Int32) by decide +kernel⟩
theorem d_Model_handle_62 : ob_dk k_Model_handle 62 65 (255 : Int32) (.sipush 255) 3 := ⟨by decide +kernel, rfl, show (Int16.ofInt 255).toInt32 = (255 : Int32) by decide +kernel⟩
theorem d_Model_handle_71 : ob_dk k_Model_handle 71 73 (8 : Int32) (.bipush 8) 2 := ⟨by decide +kernel, rfl, show (Int8.ofInt 8).toInt32 = (8 : Int32) by decide +kernel⟩
theorem d_Model_handle_74 : ob_dk k_Model_handle 74 77 (255 : Int32) (.sipush 255) 3 := ⟨by decide +kernel, rfl, show (Int16.ofInt 255).toInt32 = (255 : Int32) by decide +kernel⟩
theorem d_Model_handle_81 : ob_dk k_Model_handle 81 82 (1 : Int32) (.iconst 1) 1 := ⟨by decide +kernel, rfl, show Int32.ofInt 1 = (1 : Int32) by decide +kernel⟩
theorem d_Model_handle_125 : ob_dk k_Model_handle 125 126 (2 : Int32) (.iconst 2) 1 := ⟨by decide +kernel, rfl, show Int32.ofInt 2 = (2 : Int32) by decide +kernel⟩
theorem d_Model_handle_144 : ob_dk k_Model_handle 144 146 (8 : Int32) (.bipush 8) 2 := ⟨by decide +kernel, rfl, show (Int8.ofInt 8).toInt32 = (8 : Int32) by decide +kernel⟩
theorem d_Model_handle_157 : ob_dc k_Model_handle 157 (.return_) 1 158 := ⟨by decide +kernel, rfl⟩
theorem d_Model_handle_151 : ob_dk k_Model_handle 151 153 (7 : Int32) (.bipush 7) 2 := ⟨by decide +kernel, rfl, show (Int8.ofInt 7).toInt32 = (7 : Int32) by decide +kernel⟩
theorem d_Model_handle_153 : ob_dk k_Model_handle 153 154 (0 : Int32) (.iconst 0) 1 := ⟨by decide +kernel, rfl, show Int32.ofInt 0 = (0 : Int32) by decide +kernel⟩
theorem d_Model_handle_154 : ob_dc k_Model_handle 154 (.invokevirtual 288) 3 157 := ⟨by decide +kernel, rfl⟩
theorem d_Model_handle_150 : ob_dv ob_ac k_Model_handle 150 151 0 (.aload_n 0) 1 := ⟨by decide +kernel, rfl, rfl⟩
theorem d_Model_handle_147 : ob_db k_Model_handle 147 (.ifCond .eq 10) 10 150 157 := ⟨by decide +kernel, rfl, by decide⟩
theorem d_Model_handle_146 : ob_dc k_Model_handle 146 (.iand) 1 147 := ⟨by decide +kernel, rfl⟩
theorem d_Model_handle_143 : ob_dv ob_lc k_Model_handle 143 144 2 (.iload_n 2) 1 := ⟨by decide +kernel, rfl, rfl⟩
theorem d_Model_handle_140 : ob_dc k_Model_handle 140 (.invokevirtual 295) 3 143 := ⟨by decide +kernel, rfl⟩
theorem d_Model_handle_138 : ob_dv ob_lc k_Model_handle 138 140 4 (.iload 4) 2 := ⟨by decide +kernel, rfl, rfl⟩
theorem d_Model_handle_137 : ob_dv ob_lc k_Model_handle 137 138 3 (.iload_n 3) 1 := ⟨by decide +kernel, rfl, rfl⟩
theorem d_Model_handle_136 : ob_dv ob_ac k_Model_handle 136 137 0 (.aload_n 0) 1 := ⟨by decide +kernel, rfl, rfl⟩
theorem d_Model_handle_131 : ob_dk k_Model_handle 131 132 (3 : Int32) (.iconst 3) 1 := ⟨by decide +kernel, rfl, show Int32.ofInt 3 = (3 : Int32) by decide +kernel⟩
theorem d_Model_handle_132 : ob_dk k_Model_handle 132 133 (0 : Int32) (.iconst 0) 1 := ⟨by decide +kernel, rfl, show Int32.ofInt 0 = (0 : Int32) by decide +kernel⟩
theorem d_Model_handle_133 : ob_dc k_Model_handle 133 (.invokevirtual 288) 3 136 := ⟨by decide +kernel, rfl⟩
theorem d_Model_handle_130 : ob_dv ob_ac k_Model_handle 130 131 0 (.aload_n 0) 1 := ⟨by decide +kernel, rfl, rfl⟩
theorem d_Model_handle_127 : ob_db k_Model_handle 127 (.ifCond .eq 9) 9 130 136 := ⟨by decide +kernel, rfl, by decide⟩
theorem d_Model_handle_126 : ob_dc k_Model_handle 126 (.iand) 1 127 := ⟨by decide +kernel, rfl⟩
theorem d_Model_handle_124 : ob_dv ob_lc k_Model_handle 124 125 2 (.iload_n 2) 1 := ⟨by decide +kernel, rfl, rfl⟩
theorem d_Model_handle_111 : ob_dk k_Model_handle 111 112 (1 : Int32) (.iconst 1) 1 := ⟨by decide +kernel, rfl, show Int32.ofInt 1 = (1 : Int32) by decide +kernel⟩
theorem d_Model_handle_117 : ob_dk k_Model_handle 117 118 (4 : Int32) (.iconst 4) 1 := ⟨by decide +kernel, rfl, show Int32.ofInt 4 = (4 : Int32) by decide +kernel⟩
theorem d_Model_handle_123 : ob_dc k_Model_handle 123 (.return_) 1 124 := ⟨by decide +kernel, rfl⟩
theorem d_Model_handle_120 : ob_dc k_Model_handle 120 (.invokevirtual 288) 3 123 := ⟨by decide +kernel, rfl⟩
theorem d_Model_handle_118 : ob_dv ob_lc k_Model_handle 118 120 5 (.iload 5) 2 := ⟨by decide +kernel, rfl, rfl⟩
theorem d_Model_handle_116 : ob_dv ob_ac k_Model_handle 116 117 0 (.aload_n 0) 1 := ⟨by decide +kernel, rfl, rfl⟩
theorem d_Model_handle_113 : ob_dc k_Model_handle 113 (.putfield 285) 3 116 := ⟨by decide +kernel, rfl⟩
theorem d_Model_handle_112 : ob_dc k_Model_handle 112 (.iadd) 1 113 := ⟨by decide +kernel, rfl⟩
theorem d_Model_handle_108 : ob_dc k_Model_handle 108 (.getfield 285) 3 111 := ⟨by decide +kernel, rfl⟩
theorem d_Model_handle_107 : ob_dc k_Model_handle 107 (.dup) 1 108 := ⟨by decide +kernel, rfl⟩
theorem d_Model_handle_106 : ob_dv ob_ac k_Model_handle 106 107 0 (.aload_n 0) 1 := ⟨by decide +kernel, rfl, rfl⟩
theorem d_Model_handle_103 : ob_db k_Model_handle 103 (.ifCond .eq 21) 21 106 124 := ⟨by decide +kernel, rfl, by decide⟩
theorem d_Model_handle_101 : ob_dv ob_lc k_Model_handle 101 103 5 (.iload 5) 2 := ⟨by decide +kernel, rfl, rfl⟩
theorem d_Model_handle_99 : ob_dv (ob_sc k_Model_handle.2.2.2.1) k_Model_handle 99 101 5 (.istore 5) 2 := ⟨by decide +kernel, rfl, ⟨rfl, by decide +kernel⟩⟩
theorem d_Model_handle_96 : ob_dc k_Model_handle 96 (.invokevirtual 291) 3 99 := ⟨by decide +kernel, rfl⟩
theorem d_Model_handle_94 : ob_dv ob_lc k_Model_handle 94 96 4 (.iload 4) 2 := ⟨by decide +kernel, rfl, rfl⟩
theorem d_Model_handle_93 : ob_dv ob_lc k_Model_handle 93 94 3 (.iload_n 3) 1 := ⟨by decide +kernel, rfl, rfl⟩
theorem d_Model_handle_92 : ob_dv ob_ac k_Model_handle 92 93 0 (.aload_n 0) 1 := ⟨by decide +kernel, rfl, rfl⟩
theorem d_Model_handle_87 : ob_dk k_Model_handle 87 88 (1 : Int32) (.iconst 1) 1 := ⟨by decide +kernel, rfl, show Int32.ofInt 1 = (1 : Int32) by decide +kernel⟩
theorem d_Model_handle_88 : ob_dk k_Model_handle 88 89 (0 : Int32) (.iconst 0) 1 := ⟨by decide +kernel, rfl, show Int32.ofInt 0 = (0 : Int32) by decide +kernel⟩
theorem d_Model_handle_89 : ob_dc k_Model_handle 89 (.invokevirtual 288) 3 92 := ⟨by decide +kernel, rfl⟩
theorem d_Model_handle_86 : ob_dv ob_ac k_Model_handle 86 87 0 (.aload_n 0) 1 := ⟨by decide +kernel, rfl, rfl⟩
theorem d_Model_handle_83 : ob_db k_Model_handle 83 (.ifCond .eq 9) 9 86 92 := ⟨by decide +kernel, rfl, by decide⟩
theorem d_Model_handle_82 : ob_dc k_Model_handle 82 (.iand) 1 83 := ⟨by decide +kernel, rfl⟩
theorem d_Model_handle_80 : ob_dv ob_lc k_Model_handle 80 81 2 (.iload_n 2) 1 := ⟨by decide +kernel, rfl, rfl⟩
theorem d_Model_handle_78 : ob_dv (ob_sc k_Model_handle.2.2.2.1) k_Model_handle 78 80 4 (.istore 4) 2 := ⟨by decide +kernel, rfl, ⟨rfl, by decide +kernel⟩⟩
theorem d_Model_handle_77 : ob_dc k_Model_handle 77 (.iand) 1 78 := ⟨by decide +kernel, rfl⟩
theorem d_Model_handle_73 : ob_dc k_Model_handle 73 (.baload) 1 74 := ⟨by decide +kernel, rfl⟩
theorem d_Model_handle_68 : ob_dc k_Model_handle 68 (.getfield 34) 3 71 := ⟨by decide +kernel, rfl⟩
theorem d_Model_handle_67 : ob_dv ob_ac k_Model_handle 67 68 0 (.aload_n 0) 1 := ⟨by decide +kernel, rfl, rfl⟩
theorem d_Model_handle_66 : ob_dv (ob_sc k_Model_handle.2.2.2.1) k_Model_handle 66 67 3 (.istore_n 3) 1 := ⟨by decide +kernel, rfl, ⟨rfl, by decide +kernel⟩⟩
theorem d_Model_handle_65 : ob_dc k_Model_handle 65 (.iand) 1 66 := ⟨by decide +kernel, rfl⟩
theorem d_Model_handle_61 : ob_dc k_Model_handle 61 (.baload) 1 62 := ⟨by decide +kernel, rfl⟩
theorem d_Model_handle_56 : ob_dc k_Model_handle 56 (.getfield 34) 3 59 := ⟨by decide +kernel, rfl⟩
theorem d_Model_handle_55 : ob_dv ob_ac k_Model_handle 55 56 0 (.aload_n 0) 1 := ⟨by decide +kernel, rfl, rfl⟩
theorem d_Model_handle_54 : ob_dv (ob_sc k_Model_handle.2.2.2.1) k_Model_handle 54 55 2 (.istore_n 2) 1 := ⟨by decide +kernel, rfl, ⟨rfl, by decide +kernel⟩⟩
theorem d_Model_handle_53 : ob_dc k_Model_handle 53 (.iand) 1 54 := ⟨by decide +kernel, rfl⟩
theorem d_Model_handle_50 : ob_dc k_Model_handle 50 (.baload) 1 51 := ⟨by decide +kernel, rfl⟩
theorem d_Model_handle_45 : ob_dc k_Model_handle 45 (.getfield 34) 3 48 := ⟨by decide +kernel, rfl⟩
theorem d_Model_handle_44 : ob_dv ob_ac k_Model_handle 44 45 0 (.aload_n 0) 1 := ⟨by decide +kernel, rfl, rfl⟩
theorem d_Model_handle_32 : ob_dk k_Model_handle 32 33 (1 : Int32) (.iconst 1) 1 := ⟨by decide +kernel, rfl, show Int32.ofInt 1 = (1 : Int32) by decide +kernel⟩
theorem d_Model_handle_38 : ob_dk k_Model_handle 38 39 (2 : Int32) (.iconst 2) 1 := ⟨by decide +kernel, rfl, show Int32.ofInt 2 = (2 : Int32) by decide +kernel⟩
theorem d_Model_handle_43 : ob_dc k_Model_handle 43 (.return_) 1 44 := ⟨by decide +kernel, rfl⟩
theorem d_Model_handle_40 : ob_dc k_Model_handle 40 (.invokevirtual 288) 3 43 := ⟨by decide +kernel, rfl⟩
theorem d_Model_handle_39 : ob_dv ob_lc k_Model_handle 39 40 1 (.iload_n 1) 1 := ⟨by decide +kernel, rfl, rfl⟩
theorem d_Model_handle_37 : ob_dv ob_ac k_Model_handle 37 38 0 (.aload_n 0) 1 := ⟨by decide +kernel, rfl, rfl⟩
theorem d_Model_handle_34 : ob_dc k_Model_handle 34 (.putfield 285) 3 37 := ⟨by decide +kernel, rfl⟩
theorem d_Model_handle_33 : ob_dc k_Model_handle 33 (.iadd) 1 34 := ⟨by decide +kernel, rfl⟩
theorem d_Model_handle_29 : ob_dc k_Model_handle 29 (.getfield 285) 3 32 := ⟨by decide +kernel, rfl⟩
theorem d_Model_handle_28 : ob_dc k_Model_handle 28 (.dup) 1 29 := ⟨by decide +kernel, rfl⟩
theorem d_Model_handle_27 : ob_dv ob_ac k_Model_handle 27 28 0 (.aload_n 0) 1 := ⟨by decide +kernel, rfl, rfl⟩
theorem d_Model_handle_24 : ob_db k_Model_handle 24 (.ifCond .eq 20) 20 27 44 := ⟨by decide +kernel, rfl, by decide⟩
theorem d_Model_handle_23 : ob_dv ob_lc k_Model_handle 23 24 1 (.iload_n 1) 1 := ⟨by decide +kernel, rfl, rfl⟩
theorem d_Model_handle_22 : ob_dv (ob_sc k_Model_handle.2.2.2.1) k_Model_handle 22 23 1 (.istore_n 1) 1 := ⟨by decide +kernel, rfl, ⟨rfl, by decide +kernel⟩⟩
theorem d_Model_handle_19 : ob_dc k_Model_handle 19 (.invokestatic 282) 3 22 := ⟨by decide +kernel, rfl⟩
theorem d_Model_handle_16 : ob_dc k_Model_handle 16 (.getfield 258) 3 19 := ⟨by decide +kernel, rfl⟩
theorem d_Model_handle_15 : ob_dv ob_ac k_Model_handle 15 16 0 (.aload_n 0) 1 := ⟨by decide +kernel, rfl, rfl⟩
theorem d_Model_handle_11 : ob_dc k_Model_handle 11 (.getfield 34) 3 14 := ⟨by decide +kernel, rfl⟩
theorem d_Model_handle_10 : ob_dv ob_ac k_Model_handle 10 11 0 (.aload_n 0) 1 := ⟨by decide +kernel, rfl, rfl⟩
theorem d_Model_handle_7 : ob_dc k_Model_handle 7 (.putfield 279) 3 10 := ⟨by decide +kernel, rfl⟩
theorem d_Model_handle_6 : ob_dc k_Model_handle 6 (.iadd) 1 7 := ⟨by decide +kernel, rfl⟩
theorem d_Model_handle_2 : ob_dc k_Model_handle 2 (.getfield 279) 3 5 := ⟨by decide +kernel, rfl⟩
theorem d_Model_handle_1 : ob_dc k_Model_handle 1 (.dup) 1 2 := ⟨by decide +kernel, rfl⟩
theorem d_Model_handle_0 : ob_dv ob_ac k_Model_handle 0 1 0 (.aload_n 0) 1 := ⟨by decide +kernel, rfl, rfl⟩
theorem c_Model_handle_288 : ob_vd k_Model_handle k_Model_verified 288 2 12 := ⟨cw_Model_verified, yd_Model_verified, w_1452, w_1454, wp_60, w_14, ⟨_, _, rfl⟩, by decide, by decide⟩
theorem c_Model_handle_295 : ob_vd k_Model_handle k_Model_act 295 2 12 := ⟨cw_Model_act, yd_Model_act, w_1548, w_1550, wp_82, w_14, ⟨_, _, rfl⟩, by decide, by decide⟩
theorem c_Model_handle_291 : ob_vd k_Model_handle k_Model_failure 291 2 12 := ⟨cw_Model_failure, yd_Model_failure, w_1496, w_1498, wp_70, w_14, ⟨_, _, rfl⟩, by decide, by decide⟩
theorem c_Model_handle_282 : ob_sd k_Model_handle k_Model_faultOf 282 3 := ⟨cw_Model_faultOf, yd_Model_faultOf, w_1446, w_1447, w_14, by decide, by decide⟩
def f_Model_handle_L136 (S : ob_S) (v0 : Nat) (v2 : Int32) (v3 : Int32) (v4 : Int32) (D : ob_D) : Option (ob_D) :=
  ob_bv (f_Model_act S v0 v3 v4 D) fun D19 => (if (v2 &&& (8 : Int32)) = 0 then some D19 else ob_bv (f_Model_verified S v0 (7 : Int32) (0 : Int32) D19) fun D21 => some D21)
theorem v_Model_handle_L136 {l : Launch} {E : ob_E} {S : ob_S} {D' : ob_D} : ∀ (v0 : Nat) (v2 : Int32) (v3 : Int32) (v4 : Int32) (D : ob_D), S.1 v0 = 13 → f_Model_handle_L136 S v0 v2 v3 v4 D = some D' → ob_V l E k_Model_handle 136 [(0, .ref v0), (2, .int v2), (3, .int v3), (4, .int v4)] [] S D none S D' := by
  intro v0 v2 v3 v4 D hp_v0 h
  rw [f_Model_handle_L136] at h
  refine ob_aload d_Model_handle_136 rfl ?_
  refine ob_iload d_Model_handle_137 rfl ?_
  refine ob_iload d_Model_handle_138 rfl ?_
  obtain ⟨D19, h20, h⟩ := ob_bv_e h
  refine ob_callVv (As := [.int v3, .int v4]) (rest := []) d_Model_handle_140 c_Model_handle_295 hp_v0 rfl rfl (Nat.le_of_ble_eq_true rfl) (c_Model_act hp_v0 h20) ⟨Nat.le_refl _, Nat.le_refl _⟩ ⟨Nat.le_refl _, Nat.le_refl _⟩ ?_
  refine ob_iload d_Model_handle_143 rfl ?_
  refine ob_push d_Model_handle_144 ?_
  refine ob_iand d_Model_handle_146 ?_
  refine ob_if_eq d_Model_handle_147 (fun hc => ?_) (fun hc => ?_)
  · replace h := ob_ift hc h
    exact ob_ve h (ob_vret d_Model_handle_157 rfl)
  · replace h := ob_iff hc h
    refine ob_aload d_Model_handle_150 rfl ?_
    refine ob_push d_Model_handle_151 ?_
    refine ob_push d_Model_handle_153 ?_
    obtain ⟨D21, h22, h⟩ := ob_bv_e h
    refine ob_callVv (As := [.int (7 : Int32), .int (0 : Int32)]) (rest := []) d_Model_handle_154 c_Model_handle_288 hp_v0 rfl rfl (Nat.le_of_ble_eq_true rfl) (c_Model_verified hp_v0 h22) ⟨Nat.le_refl _, Nat.le_refl _⟩ ⟨Nat.le_refl _, Nat.le_refl _⟩ ?_
    exact ob_ve h (ob_vret d_Model_handle_157 rfl)
def f_Model_handle_L92 (S : ob_S) (v0 : Nat) (v2 : Int32) (v3 : Int32) (v4 : Int32) (D : ob_D) : Option (ob_D) :=
  ob_bd (f_Model_failure S v0 v3 v4 D) fun x18 D16 => (if x18 = 0 then (if (v2 &&& (2 : Int32)) = 0 then f_Model_handle_L136 S v0 v2 v3 v4 D16 else ob_bv (f_Model_verified S v0 (3 : Int32) (0 : Int32) D16) fun D23 => f_Model_handle_L136 S v0 v2 v3 v4 D23) else ob_lt (ob_pI D16 v0 30 ((D16.1 v0 30) + (1 : Int32))) fun D25 => ob_bv (f_Model_verified S v0 (4 : Int32) x18 D25) fun D26 => some D26)
theorem v_Model_handle_L92 {l : Launch} {E : ob_E} {S : ob_S} {D' : ob_D} : ∀ (v0 : Nat) (v2 : Int32) (v3 : Int32) (v4 : Int32) (D : ob_D), S.1 v0 = 13 → f_Model_handle_L92 S v0 v2 v3 v4 D = some D' → ob_V l E k_Model_handle 92 [(0, .ref v0), (2, .int v2), (3, .int v3), (4, .int v4)] [] S D none S D' := by
  intro v0 v2 v3 v4 D hp_v0 h
  rw [f_Model_handle_L92] at h
  refine ob_aload d_Model_handle_92 rfl ?_
  refine ob_iload d_Model_handle_93 rfl ?_
  refine ob_iload d_Model_handle_94 rfl ?_
  obtain ⟨x18, D16, h17, h⟩ := ob_bd_e h
  refine ob_callVi (As := [.int v3, .int v4]) (rest := []) d_Model_handle_96 c_Model_handle_291 hp_v0 rfl rfl (Nat.le_of_ble_eq_true rfl) (c_Model_failure hp_v0 h17) ⟨Nat.le_refl _, Nat.le_refl _⟩ ⟨Nat.le_refl _, Nat.le_refl _⟩ ?_
  refine ob_istore (lo2 := [(0, .ref v0), (2, .int v2), (3, .int v3), (4, .int v4), (5, .int x18)]) d_Model_handle_99 rfl ?_
  refine ob_iload d_Model_handle_101 rfl ?_
  refine ob_if_eq d_Model_handle_103 (fun hc => ?_) (fun hc => ?_)
  · replace h := ob_ift hc h
    refine ob_iload d_Model_handle_124 rfl ?_
    refine ob_push d_Model_handle_125 ?_
    refine ob_iand d_Model_handle_126 ?_
    refine ob_if_eq d_Model_handle_127 (fun hc => ?_) (fun hc => ?_)
    · replace h := ob_ift hc h
      refine ob_sub (lo2 := [(0, .ref v0), (2, .int v2), (3, .int v3), (4, .int v4)]) [0, 1, 2, 3] rfl ?_
      exact v_Model_handle_L136 v0 v2 v3 v4 D16 hp_v0 h
    · replace h := ob_iff hc h
      refine ob_aload d_Model_handle_130 rfl ?_
      refine ob_push d_Model_handle_131 ?_
      refine ob_push d_Model_handle_132 ?_
      obtain ⟨D23, h24, h⟩ := ob_bv_e h
      refine ob_callVv (As := [.int (3 : Int32), .int (0 : Int32)]) (rest := []) d_Model_handle_133 c_Model_handle_288 hp_v0 rfl rfl (Nat.le_of_ble_eq_true rfl) (c_Model_verified hp_v0 h24) ⟨Nat.le_refl _, Nat.le_refl _⟩ ⟨Nat.le_refl _, Nat.le_refl _⟩ ?_
      refine ob_sub (lo2 := [(0, .ref v0), (2, .int v2), (3, .int v3), (4, .int v4)]) [0, 1, 2, 3] rfl ?_
      exact v_Model_handle_L136 v0 v2 v3 v4 D23 hp_v0 h
  · replace h := ob_iff hc h
    refine ob_aload d_Model_handle_106 rfl ?_
    refine ob_dup d_Model_handle_107 rfl ?_
    refine ob_getI d_Model_handle_108 F_12_30 l_Model_285 hp_v0 ?_
    refine ob_push d_Model_handle_111 ?_
    refine ob_iadd d_Model_handle_112 ?_
    replace h := ob_lt_e h
    refine ob_putI d_Model_handle_113 F_12_30 l_Model_285 hp_v0 ?_
    refine ob_aload d_Model_handle_116 rfl ?_
    refine ob_push d_Model_handle_117 ?_
    refine ob_iload d_Model_handle_118 rfl ?_
    obtain ⟨D26, h27, h⟩ := ob_bv_e h
    refine ob_callVv (As := [.int (4 : Int32), .int x18]) (rest := []) d_Model_handle_120 c_Model_handle_288 hp_v0 rfl rfl (Nat.le_of_ble_eq_true rfl) (c_Model_verified hp_v0 h27) ⟨Nat.le_refl _, Nat.le_refl _⟩ ⟨Nat.le_refl _, Nat.le_refl _⟩ ?_
    exact ob_ve h (ob_vret d_Model_handle_123 rfl)
def f_Model_handle (S : ob_S) (v0 : Nat) (D : ob_D) : Option (ob_D) :=
  ob_lt (ob_pI D v0 29 ((D.1 v0 29) + (1 : Int32))) fun D1 => if D1.2.1 v0 27 ≠ 0 then ob_bd (f_Model_faultOf S (D1.2.1 v0 27) (0 : Int32) (D1.1 v0 28) D1) fun x6 D4 => (if x6 = 0 then if D4.2.1 v0 27 ≠ 0 then if ob_in (6 : Int32) (S.2.1 (D4.2.1 v0 27)) then if D4.2.1 v0 27 ≠ 0 then if ob_in (7 : Int32) (S.2.1 (D4.2.1 v0 27)) then if D4.2.1 v0 27 ≠ 0 then if ob_in (8 : Int32) (S.2.1 (D4.2.1 v0 27)) then (if (((D4.1 (D4.2.1 v0 27) (6 : Int32).toNatClampNeg) &&& (15 : Int32)) &&& (1 : Int32)) = 0 then f_Model_handle_L92 S v0 ((D4.1 (D4.2.1 v0 27) (6 : Int32).toNatClampNeg) &&& (15 : Int32)) ((D4.1 (D4.2.1 v0 27) (7 : Int32).toNatClampNeg) &&& (255 : Int32)) ((D4.1 (D4.2.1 v0 27) (8 : Int32).toNatClampNeg) &&& (255 : Int32)) D4 else ob_bv (f_Model_verified S v0 (1 : Int32) (0 : Int32) D4) fun D28 => f_Model_handle_L92 S v0 ((D4.1 (D4.2.1 v0 27) (6 : Int32).toNatClampNeg) &&& (15 : Int32)) ((D4.1 (D4.2.1 v0 27) (7 : Int32).toNatClampNeg) &&& (255 : Int32)) ((D4.1 (D4.2.1 v0 27) (8 : Int32).toNatClampNeg) &&& (255 : Int32)) D28) else none else none else none else none else none else none else ob_lt (ob_pI D4 v0 30 ((D4.1 v0 30) + (1 : Int32))) fun D30 => ob_bv (f_Model_verified S v0 (2 : Int32) x6 D30) fun D31 => some D31) else none
theorem c_Model_handle {l : Launch} {E : ob_E} {S : ob_S} {D : ob_D} {v0 : Nat} {D' : ob_D} (hp_v0 : S.1 v0 = 13) (h : f_Model_handle S v0 D = some D') : ob_M l E k_Model_handle [.ref v0] S D none S D' := by
  refine ob_ofV (lo := [(0, .ref v0)]) (by decide) rfl (Nat.le_of_ble_eq_true rfl) rfl (Nat.le_refl _) (Nat.le_refl _) ?_
  rw [f_Model_handle] at h
  refine ob_aload d_Model_handle_0 rfl ?_
  refine ob_dup d_Model_handle_1 rfl ?_
  refine ob_getI d_Model_handle_2 F_12_29 l_Model_279 hp_v0 ?_
  refine ob_push d_Model_handle_5 ?_
  refine ob_iadd d_Model_handle_6 ?_
  replace h := ob_lt_e h
  refine ob_putI d_Model_handle_7 F_12_29 l_Model_279 hp_v0 ?_
  refine ob_aload d_Model_handle_10 rfl ?_
  obtain ⟨hg3, h⟩ := ob_gd h
  refine ob_getR d_Model_handle_11 F_12_27 l_Model_34 hp_v0 hg3 (fun hk2 => ?_)
  refine ob_push d_Model_handle_14 ?_
  refine ob_aload d_Model_handle_15 rfl ?_
  refine ob_getI d_Model_handle_16 F_12_28 l_Model_258 hp_v0 ?_
  obtain ⟨x6, D4, h5, h⟩ := ob_bd_e h
  refine ob_callSi (As := [.ref ((ob_pI D v0 29 ((D.1 v0 29) + (1 : Int32))).2.1 v0 27), .int (0 : Int32), .int ((ob_pI D v0 29 ((D.1 v0 29) + (1 : Int32))).1 v0 28)]) (rest := []) d_Model_handle_19 c_Model_handle_282 rfl rfl (Nat.le_of_ble_eq_true rfl) (c_Model_faultOf hk2 h5) ⟨Nat.le_refl _, Nat.le_refl _⟩ ⟨Nat.le_refl _, Nat.le_refl _⟩ ?_
  refine ob_istore (lo2 := [(0, .ref v0), (1, .int x6)]) d_Model_handle_22 rfl ?_
  refine ob_iload d_Model_handle_23 rfl ?_
  refine ob_if_eq d_Model_handle_24 (fun hc => ?_) (fun hc => ?_)
  · replace h := ob_ift hc h
    refine ob_aload d_Model_handle_44 rfl ?_
    obtain ⟨hg8, h⟩ := ob_gd h
    refine ob_getR d_Model_handle_45 F_12_27 l_Model_34 hp_v0 hg8 (fun hk7 => ?_)
    refine ob_push d_Model_handle_48 ?_
    obtain ⟨hg9, h⟩ := ob_gd h
    refine ob_bald d_Model_handle_50 hk7 hg9 ?_
    refine ob_push d_Model_handle_51 ?_
    refine ob_iand d_Model_handle_53 ?_
    refine ob_istore (lo2 := [(0, .ref v0), (1, .int x6), (2, .int ((D4.1 (D4.2.1 v0 27) (6 : Int32).toNatClampNeg) &&& (15 : Int32)))]) d_Model_handle_54 rfl ?_
    refine ob_aload d_Model_handle_55 rfl ?_
    obtain ⟨hg11, h⟩ := ob_gd h
    refine ob_getR d_Model_handle_56 F_12_27 l_Model_34 hp_v0 hg11 (fun hk10 => ?_)
    refine ob_push d_Model_handle_59 ?_
    obtain ⟨hg12, h⟩ := ob_gd h
    refine ob_bald d_Model_handle_61 hk10 hg12 ?_
    refine ob_push d_Model_handle_62 ?_
    refine ob_iand d_Model_handle_65 ?_
    refine ob_istore (lo2 := [(0, .ref v0), (1, .int x6), (2, .int ((D4.1 (D4.2.1 v0 27) (6 : Int32).toNatClampNeg) &&& (15 : Int32))), (3, .int ((D4.1 (D4.2.1 v0 27) (7 : Int32).toNatClampNeg) &&& (255 : Int32)))]) d_Model_handle_66 rfl ?_
    refine ob_aload d_Model_handle_67 rfl ?_
    obtain ⟨hg14, h⟩ := ob_gd h
    refine ob_getR d_Model_handle_68 F_12_27 l_Model_34 hp_v0 hg14 (fun hk13 => ?_)
    refine ob_push d_Model_handle_71 ?_
    obtain ⟨hg15, h⟩ := ob_gd h
    refine ob_bald d_Model_handle_73 hk13 hg15 ?_
    refine ob_push d_Model_handle_74 ?_
    refine ob_iand d_Model_handle_77 ?_
    refine ob_istore (lo2 := [(0, .ref v0), (1, .int x6), (2, .int ((D4.1 (D4.2.1 v0 27) (6 : Int32).toNatClampNeg) &&& (15 : Int32))), (3, .int ((D4.1 (D4.2.1 v0 27) (7 : Int32).toNatClampNeg) &&& (255 : Int32))), (4, .int ((D4.1 (D4.2.1 v0 27) (8 : Int32).toNatClampNeg) &&& (255 : Int32)))]) d_Model_handle_78 rfl ?_
    refine ob_iload d_Model_handle_80 rfl ?_
    refine ob_push d_Model_handle_81 ?_
    refine ob_iand d_Model_handle_82 ?_
    refine ob_if_eq d_Model_handle_83 (fun hc => ?_) (fun hc => ?_)
    · replace h := ob_ift hc h
      refine ob_sub (lo2 := [(0, .ref v0), (2, .int ((D4.1 (D4.2.1 v0 27) (6 : Int32).toNatClampNeg) &&& (15 : Int32))), (3, .int ((D4.1 (D4.2.1 v0 27) (7 : Int32).toNatClampNeg) &&& (255 : Int32))), (4, .int ((D4.1 (D4.2.1 v0 27) (8 : Int32).toNatClampNeg) &&& (255 : Int32)))]) [0, 2, 3, 4] rfl ?_
      exact v_Model_handle_L92 v0 ((D4.1 (D4.2.1 v0 27) (6 : Int32).toNatClampNeg) &&& (15 : Int32)) ((D4.1 (D4.2.1 v0 27) (7 : Int32).toNatClampNeg) &&& (255 : Int32)) ((D4.1 (D4.2.1 v0 27) (8 : Int32).toNatClampNeg) &&& (255 : Int32)) D4 hp_v0 h
    · replace h := ob_iff hc h
      refine ob_aload d_Model_handle_86 rfl ?_
      refine ob_push d_Model_handle_87 ?_
      refine ob_push d_Model_handle_88 ?_
      obtain ⟨D28, h29, h⟩ := ob_bv_e h
      refine ob_callVv (As := [.int (1 : Int32), .int (0 : Int32)]) (rest := []) d_Model_handle_89 c_Model_handle_288 hp_v0 rfl rfl (Nat.le_of_ble_eq_true rfl) (c_Model_verified hp_v0 h29) ⟨Nat.le_refl _, Nat.le_refl _⟩ ⟨Nat.le_refl _, Nat.le_refl _⟩ ?_
      refine ob_sub (lo2 := [(0, .ref v0), (2, .int ((D4.1 (D4.2.1 v0 27) (6 : Int32).toNatClampNeg) &&& (15 : Int32))), (3, .int ((D4.1 (D4.2.1 v0 27) (7 : Int32).toNatClampNeg) &&& (255 : Int32))), (4, .int ((D4.1 (D4.2.1 v0 27) (8 : Int32).toNatClampNeg) &&& (255 : Int32)))]) [0, 2, 3, 4] rfl ?_
      exact v_Model_handle_L92 v0 ((D4.1 (D4.2.1 v0 27) (6 : Int32).toNatClampNeg) &&& (15 : Int32)) ((D4.1 (D4.2.1 v0 27) (7 : Int32).toNatClampNeg) &&& (255 : Int32)) ((D4.1 (D4.2.1 v0 27) (8 : Int32).toNatClampNeg) &&& (255 : Int32)) D28 hp_v0 h
  · replace h := ob_iff hc h
    refine ob_aload d_Model_handle_27 rfl ?_
    refine ob_dup d_Model_handle_28 rfl ?_
    refine ob_getI d_Model_handle_29 F_12_30 l_Model_285 hp_v0 ?_
    refine ob_push d_Model_handle_32 ?_
    refine ob_iadd d_Model_handle_33 ?_
    replace h := ob_lt_e h
    refine ob_putI d_Model_handle_34 F_12_30 l_Model_285 hp_v0 ?_
    refine ob_aload d_Model_handle_37 rfl ?_
    refine ob_push d_Model_handle_38 ?_
    refine ob_iload d_Model_handle_39 rfl ?_
    obtain ⟨D31, h32, h⟩ := ob_bv_e h
    refine ob_callVv (As := [.int (2 : Int32), .int x6]) (rest := []) d_Model_handle_40 c_Model_handle_288 hp_v0 rfl rfl (Nat.le_of_ble_eq_true rfl) (c_Model_verified hp_v0 h32) ⟨Nat.le_refl _, Nat.le_refl _⟩ ⟨Nat.le_refl _, Nat.le_refl _⟩ ?_
    exact ob_ve h (ob_vret d_Model_handle_43 rfl)
-- OrbitBoxModel.watch(I)V
theorem d_Model_watch_46 : ob_dk k_Model_watch 46 47 (1 : Int32) (.iconst 1) 1 := ⟨by decide +kernel, rfl, show Int32.ofInt 1 = (1 : Int32) by decide +kernel⟩
theorem d_Model_watch_70 : ob_dk k_Model_watch 70 71 (1 : Int32) (.iconst 1) 1 := ⟨by decide +kernel, rfl, show Int32.ofInt 1 = (1 : Int32) by decide +kernel⟩
theorem d_Model_watch_92 : ob_dk k_Model_watch 92 93 (1 : Int32) (.iconst 1) 1 := ⟨by decide +kernel, rfl, show Int32.ofInt 1 = (1 : Int32) by decide +kernel⟩
theorem d_Model_watch_123 : ob_dc k_Model_watch 123 (.return_) 1 124 := ⟨by decide +kernel, rfl⟩
theorem d_Model_watch_104 : ob_dk k_Model_watch 104 105 (1 : Int32) (.iconst 1) 1 := ⟨by decide +kernel, rfl, show Int32.ofInt 1 = (1 : Int32) by decide +kernel⟩
theorem d_Model_watch_118 : ob_dk k_Model_watch 118 119 (1 : Int32) (.iconst 1) 1 := ⟨by decide +kernel, rfl, show Int32.ofInt 1 = (1 : Int32) by decide +kernel⟩
theorem d_Model_watch_120 : ob_dc k_Model_watch 120 (.putfield 398) 3 123 := ⟨by decide +kernel, rfl⟩
theorem d_Model_watch_119 : ob_dc k_Model_watch 119 (.isub) 1 120 := ⟨by decide +kernel, rfl⟩
theorem d_Model_watch_117 : ob_dc k_Model_watch 117 (.iadd) 1 118 := ⟨by decide +kernel, rfl⟩
theorem d_Model_watch_114 : ob_dc k_Model_watch 114 (.getfield 171) 3 117 := ⟨by decide +kernel, rfl⟩
theorem d_Model_watch_113 : ob_dv ob_ac k_Model_watch 113 114 0 (.aload_n 0) 1 := ⟨by decide +kernel, rfl, rfl⟩
theorem d_Model_watch_110 : ob_dc k_Model_watch 110 (.getfield 372) 3 113 := ⟨by decide +kernel, rfl⟩
theorem d_Model_watch_109 : ob_dv ob_ac k_Model_watch 109 110 0 (.aload_n 0) 1 := ⟨by decide +kernel, rfl, rfl⟩
theorem d_Model_watch_108 : ob_dv ob_ac k_Model_watch 108 109 0 (.aload_n 0) 1 := ⟨by decide +kernel, rfl, rfl⟩
theorem d_Model_watch_105 : ob_dc k_Model_watch 105 (.putfield 395) 3 108 := ⟨by decide +kernel, rfl⟩
theorem d_Model_watch_103 : ob_dv ob_ac k_Model_watch 103 104 0 (.aload_n 0) 1 := ⟨by decide +kernel, rfl, rfl⟩
theorem d_Model_watch_100 : ob_db k_Model_watch 100 (.ifCond .ne 23) 23 103 123 := ⟨by decide +kernel, rfl, by decide⟩
theorem d_Model_watch_97 : ob_dc k_Model_watch 97 (.getfield 395) 3 100 := ⟨by decide +kernel, rfl⟩
theorem d_Model_watch_96 : ob_dv ob_ac k_Model_watch 96 97 0 (.aload_n 0) 1 := ⟨by decide +kernel, rfl, rfl⟩
theorem d_Model_watch_93 : ob_db k_Model_watch 93 (.if_icmp .ne 30) 30 96 123 := ⟨by decide +kernel, rfl, by decide⟩
theorem d_Model_watch_91 : ob_dc k_Model_watch 91 (.iaload) 1 92 := ⟨by decide +kernel, rfl⟩
theorem d_Model_watch_90 : ob_dv ob_lc k_Model_watch 90 91 1 (.iload_n 1) 1 := ⟨by decide +kernel, rfl, rfl⟩
theorem d_Model_watch_87 : ob_dc k_Model_watch 87 (.getfield 94) 3 90 := ⟨by decide +kernel, rfl⟩
theorem d_Model_watch_86 : ob_dv ob_ac k_Model_watch 86 87 0 (.aload_n 0) 1 := ⟨by decide +kernel, rfl, rfl⟩
theorem d_Model_watch_83 : ob_dc k_Model_watch 83 (.invokevirtual 366) 3 86 := ⟨by decide +kernel, rfl⟩
theorem d_Model_watch_82 : ob_dv ob_lc k_Model_watch 82 83 2 (.iload_n 2) 1 := ⟨by decide +kernel, rfl, rfl⟩
theorem d_Model_watch_81 : ob_dc k_Model_watch 81 (.iaload) 1 82 := ⟨by decide +kernel, rfl⟩
theorem d_Model_watch_80 : ob_dv ob_lc k_Model_watch 80 81 1 (.iload_n 1) 1 := ⟨by decide +kernel, rfl, rfl⟩
theorem d_Model_watch_77 : ob_dc k_Model_watch 77 (.getfield 91) 3 80 := ⟨by decide +kernel, rfl⟩
theorem d_Model_watch_76 : ob_dv ob_ac k_Model_watch 76 77 0 (.aload_n 0) 1 := ⟨by decide +kernel, rfl, rfl⟩
theorem d_Model_watch_75 : ob_dv ob_ac k_Model_watch 75 76 0 (.aload_n 0) 1 := ⟨by decide +kernel, rfl, rfl⟩
theorem d_Model_watch_72 : ob_dc k_Model_watch 72 (.putfield 392) 3 75 := ⟨by decide +kernel, rfl⟩
theorem d_Model_watch_71 : ob_dc k_Model_watch 71 (.iadd) 1 72 := ⟨by decide +kernel, rfl⟩
theorem d_Model_watch_67 : ob_dc k_Model_watch 67 (.getfield 392) 3 70 := ⟨by decide +kernel, rfl⟩
theorem d_Model_watch_66 : ob_dc k_Model_watch 66 (.dup) 1 67 := ⟨by decide +kernel, rfl⟩
theorem d_Model_watch_65 : ob_dv ob_ac k_Model_watch 65 66 0 (.aload_n 0) 1 := ⟨by decide +kernel, rfl, rfl⟩
theorem d_Model_watch_64 : ob_dc k_Model_watch 64 (.return_) 1 65 := ⟨by decide +kernel, rfl⟩
theorem d_Model_watch_61 : ob_db k_Model_watch 61 (.if_icmp .eq 4) 4 64 65 := ⟨by decide +kernel, rfl, by decide⟩
theorem d_Model_watch_60 : ob_dc k_Model_watch 60 (.iaload) 1 61 := ⟨by decide +kernel, rfl⟩
theorem d_Model_watch_59 : ob_dv ob_lc k_Model_watch 59 60 1 (.iload_n 1) 1 := ⟨by decide +kernel, rfl, rfl⟩
theorem d_Model_watch_56 : ob_dc k_Model_watch 56 (.getfield 82) 3 59 := ⟨by decide +kernel, rfl⟩
theorem d_Model_watch_55 : ob_dv ob_ac k_Model_watch 55 56 0 (.aload_n 0) 1 := ⟨by decide +kernel, rfl, rfl⟩
theorem d_Model_watch_54 : ob_dc k_Model_watch 54 (.iaload) 1 55 := ⟨by decide +kernel, rfl⟩
theorem d_Model_watch_53 : ob_dv ob_lc k_Model_watch 53 54 1 (.iload_n 1) 1 := ⟨by decide +kernel, rfl, rfl⟩
theorem d_Model_watch_50 : ob_dc k_Model_watch 50 (.getfield 97) 3 53 := ⟨by decide +kernel, rfl⟩
theorem d_Model_watch_49 : ob_dv ob_ac k_Model_watch 49 50 0 (.aload_n 0) 1 := ⟨by decide +kernel, rfl, rfl⟩
theorem d_Model_watch_48 : ob_dc k_Model_watch 48 (.iastore) 1 49 := ⟨by decide +kernel, rfl⟩
theorem d_Model_watch_47 : ob_dc k_Model_watch 47 (.iadd) 1 48 := ⟨by decide +kernel, rfl⟩
theorem d_Model_watch_45 : ob_dc k_Model_watch 45 (.iaload) 1 46 := ⟨by decide +kernel, rfl⟩
theorem d_Model_watch_44 : ob_dc k_Model_watch 44 (.dup2) 1 45 := ⟨by decide +kernel, rfl⟩
theorem d_Model_watch_43 : ob_dv ob_lc k_Model_watch 43 44 1 (.iload_n 1) 1 := ⟨by decide +kernel, rfl, rfl⟩
theorem d_Model_watch_40 : ob_dc k_Model_watch 40 (.getfield 97) 3 43 := ⟨by decide +kernel, rfl⟩
theorem d_Model_watch_39 : ob_dv ob_ac k_Model_watch 39 40 0 (.aload_n 0) 1 := ⟨by decide +kernel, rfl, rfl⟩
theorem d_Model_watch_36 : ob_dk k_Model_watch 36 37 (0 : Int32) (.iconst 0) 1 := ⟨by decide +kernel, rfl, show Int32.ofInt 0 = (0 : Int32) by decide +kernel⟩
theorem d_Model_watch_38 : ob_dc k_Model_watch 38 (.return_) 1 39 := ⟨by decide +kernel, rfl⟩
theorem d_Model_watch_37 : ob_dc k_Model_watch 37 (.iastore) 1 38 := ⟨by decide +kernel, rfl⟩
theorem d_Model_watch_35 : ob_dv ob_lc k_Model_watch 35 36 1 (.iload_n 1) 1 := ⟨by decide +kernel, rfl, rfl⟩
theorem d_Model_watch_32 : ob_dc k_Model_watch 32 (.getfield 97) 3 35 := ⟨by decide +kernel, rfl⟩
theorem d_Model_watch_31 : ob_dv ob_ac k_Model_watch 31 32 0 (.aload_n 0) 1 := ⟨by decide +kernel, rfl, rfl⟩
theorem d_Model_watch_28 : ob_db k_Model_watch 28 (.if_icmp .gt 11) 11 31 39 := ⟨by decide +kernel, rfl, by decide⟩
theorem d_Model_watch_27 : ob_dc k_Model_watch 27 (.iaload) 1 28 := ⟨by decide +kernel, rfl⟩
theorem d_Model_watch_26 : ob_dv ob_lc k_Model_watch 26 27 1 (.iload_n 1) 1 := ⟨by decide +kernel, rfl, rfl⟩
theorem d_Model_watch_23 : ob_dc k_Model_watch 23 (.getfield 88) 3 26 := ⟨by decide +kernel, rfl⟩
theorem d_Model_watch_22 : ob_dv ob_ac k_Model_watch 22 23 0 (.aload_n 0) 1 := ⟨by decide +kernel, rfl, rfl⟩
theorem d_Model_watch_21 : ob_dv ob_lc k_Model_watch 21 22 2 (.iload_n 2) 1 := ⟨by decide +kernel, rfl, rfl⟩
theorem d_Model_watch_18 : ob_db k_Model_watch 18 (.if_icmp .lt 21) 21 21 39 := ⟨by decide +kernel, rfl, by decide⟩
theorem d_Model_watch_17 : ob_dc k_Model_watch 17 (.iaload) 1 18 := ⟨by decide +kernel, rfl⟩
theorem d_Model_watch_16 : ob_dv ob_lc k_Model_watch 16 17 1 (.iload_n 1) 1 := ⟨by decide +kernel, rfl, rfl⟩
theorem d_Model_watch_13 : ob_dc k_Model_watch 13 (.getfield 85) 3 16 := ⟨by decide +kernel, rfl⟩
theorem d_Model_watch_12 : ob_dv ob_ac k_Model_watch 12 13 0 (.aload_n 0) 1 := ⟨by decide +kernel, rfl, rfl⟩
theorem d_Model_watch_11 : ob_dv ob_lc k_Model_watch 11 12 2 (.iload_n 2) 1 := ⟨by decide +kernel, rfl, rfl⟩
theorem d_Model_watch_10 : ob_dv (ob_sc k_Model_watch.2.2.2.1) k_Model_watch 10 11 2 (.istore_n 2) 1 := ⟨by decide +kernel, rfl, ⟨rfl, by decide +kernel⟩⟩
theorem d_Model_watch_7 : ob_dc k_Model_watch 7 (.invokevirtual 351) 3 10 := ⟨by decide +kernel, rfl⟩
theorem d_Model_watch_6 : ob_dc k_Model_watch 6 (.iaload) 1 7 := ⟨by decide +kernel, rfl⟩
theorem d_Model_watch_5 : ob_dv ob_lc k_Model_watch 5 6 1 (.iload_n 1) 1 := ⟨by decide +kernel, rfl, rfl⟩
theorem d_Model_watch_2 : ob_dc k_Model_watch 2 (.getfield 79) 3 5 := ⟨by decide +kernel, rfl⟩
theorem d_Model_watch_1 : ob_dv ob_ac k_Model_watch 1 2 0 (.aload_n 0) 1 := ⟨by decide +kernel, rfl, rfl⟩
theorem d_Model_watch_0 : ob_dv ob_ac k_Model_watch 0 1 0 (.aload_n 0) 1 := ⟨by decide +kernel, rfl, rfl⟩
theorem c_Model_watch_366 : ob_vd k_Model_watch k_Model_raise 366 2 12 := ⟨cw_Model_raise, yd_Model_raise, w_1576, w_1578, wp_89, w_14, ⟨_, _, rfl⟩, by decide, by decide⟩
theorem c_Model_watch_351 : ob_vd k_Model_watch k_Model_parameter 351 1 12 := ⟨cw_Model_parameter, yd_Model_parameter, w_1560, w_1562, wp_85, w_14, ⟨_, _, rfl⟩, by decide, by decide⟩
def f_Model_watch_L39 (S : ob_S) (v0 : Nat) (v1 : Int32) (v2 : Int32) (D : ob_D) : Option (ob_D) :=
  if D.2.1 v0 55 ≠ 0 then if ob_in v1 (S.2.1 (D.2.1 v0 55)) then if ob_in v1 (S.2.1 (D.2.1 v0 55)) then ob_lt (ob_pI D (D.2.1 v0 55) v1.toNatClampNeg ((D.1 (D.2.1 v0 55) v1.toNatClampNeg) + (1 : Int32))) fun D14 => if D14.2.1 v0 55 ≠ 0 then if ob_in v1 (S.2.1 (D14.2.1 v0 55)) then if D14.2.1 v0 50 ≠ 0 then if ob_in v1 (S.2.1 (D14.2.1 v0 50)) then (if (D14.1 (D14.2.1 v0 55) v1.toNatClampNeg) = (D14.1 (D14.2.1 v0 50) v1.toNatClampNeg) then ob_lt (ob_pI D14 v0 57 ((D14.1 v0 57) + (1 : Int32))) fun D21 => if D21.2.1 v0 53 ≠ 0 then if ob_in v1 (S.2.1 (D21.2.1 v0 53)) then ob_bv (f_Model_raise S v0 (D21.1 (D21.2.1 v0 53) v1.toNatClampNeg) v2 D21) fun D25 => if D25.2.1 v0 54 ≠ 0 then if ob_in v1 (S.2.1 (D25.2.1 v0 54)) then (if (D25.1 (D25.2.1 v0 54) v1.toNatClampNeg) = (1 : Int32) then (if (D25.1 v0 59) = 0 then ob_lt (ob_pI D25 v0 59 (1 : Int32)) fun D30 => ob_lt (ob_pI D30 v0 58 (((D30.1 v0 41) + (D30.1 v0 3)) - (1 : Int32))) fun D31 => some D31 else some D25) else some D25) else none else none else none else none else some D14) else none else none else none else none else none else none else none
theorem v_Model_watch_L39 {l : Launch} {E : ob_E} {S : ob_S} {D' : ob_D} : ∀ (v0 : Nat) (v1 : Int32) (v2 : Int32) (D : ob_D), S.1 v0 = 13 → f_Model_watch_L39 S v0 v1 v2 D = some D' → ob_V l E k_Model_watch 39 [(0, .ref v0), (1, .int v1), (2, .int v2)] [] S D none S D' := by
  intro v0 v1 v2 D hp_v0 h
  rw [f_Model_watch_L39] at h
  refine ob_aload d_Model_watch_39 rfl ?_
  obtain ⟨hg11, h⟩ := ob_gd h
  refine ob_getR d_Model_watch_40 F_12_55 l_Model_97 hp_v0 hg11 (fun hk10 => ?_)
  refine ob_iload d_Model_watch_43 rfl ?_
  refine ob_dup2 d_Model_watch_44 rfl rfl ?_
  obtain ⟨hg12, h⟩ := ob_gd h
  refine ob_iald d_Model_watch_45 hk10 hg12 ?_
  refine ob_push d_Model_watch_46 ?_
  refine ob_iadd d_Model_watch_47 ?_
  obtain ⟨hg13, h⟩ := ob_gd h
  replace h := ob_lt_e h
  refine ob_iast d_Model_watch_48 hk10 hg13 ?_
  refine ob_aload d_Model_watch_49 rfl ?_
  obtain ⟨hg16, h⟩ := ob_gd h
  refine ob_getR d_Model_watch_50 F_12_55 l_Model_97 hp_v0 hg16 (fun hk15 => ?_)
  refine ob_iload d_Model_watch_53 rfl ?_
  obtain ⟨hg17, h⟩ := ob_gd h
  refine ob_iald d_Model_watch_54 hk15 hg17 ?_
  refine ob_aload d_Model_watch_55 rfl ?_
  obtain ⟨hg19, h⟩ := ob_gd h
  refine ob_getR d_Model_watch_56 F_12_50 l_Model_82 hp_v0 hg19 (fun hk18 => ?_)
  refine ob_iload d_Model_watch_59 rfl ?_
  obtain ⟨hg20, h⟩ := ob_gd h
  refine ob_iald d_Model_watch_60 hk18 hg20 ?_
  refine ob_icmp_eq d_Model_watch_61 (fun hc => ?_) (fun hc => ?_)
  · replace h := ob_ift hc h
    refine ob_aload d_Model_watch_65 rfl ?_
    refine ob_dup d_Model_watch_66 rfl ?_
    refine ob_getI d_Model_watch_67 F_12_57 l_Model_392 hp_v0 ?_
    refine ob_push d_Model_watch_70 ?_
    refine ob_iadd d_Model_watch_71 ?_
    replace h := ob_lt_e h
    refine ob_putI d_Model_watch_72 F_12_57 l_Model_392 hp_v0 ?_
    refine ob_aload d_Model_watch_75 rfl ?_
    refine ob_aload d_Model_watch_76 rfl ?_
    obtain ⟨hg23, h⟩ := ob_gd h
    refine ob_getR d_Model_watch_77 F_12_53 l_Model_91 hp_v0 hg23 (fun hk22 => ?_)
    refine ob_iload d_Model_watch_80 rfl ?_
    obtain ⟨hg24, h⟩ := ob_gd h
    refine ob_iald d_Model_watch_81 hk22 hg24 ?_
    refine ob_iload d_Model_watch_82 rfl ?_
    obtain ⟨D25, h26, h⟩ := ob_bv_e h
    refine ob_callVv (As := [.int ((ob_pI (ob_pI D (D.2.1 v0 55) v1.toNatClampNeg ((D.1 (D.2.1 v0 55) v1.toNatClampNeg) + (1 : Int32))) v0 57 (((ob_pI D (D.2.1 v0 55) v1.toNatClampNeg ((D.1 (D.2.1 v0 55) v1.toNatClampNeg) + (1 : Int32))).1 v0 57) + (1 : Int32))).1 ((ob_pI (ob_pI D (D.2.1 v0 55) v1.toNatClampNeg ((D.1 (D.2.1 v0 55) v1.toNatClampNeg) + (1 : Int32))) v0 57 (((ob_pI D (D.2.1 v0 55) v1.toNatClampNeg ((D.1 (D.2.1 v0 55) v1.toNatClampNeg) + (1 : Int32))).1 v0 57) + (1 : Int32))).2.1 v0 53) v1.toNatClampNeg), .int v2]) (rest := []) d_Model_watch_83 c_Model_watch_366 hp_v0 rfl rfl (Nat.le_of_ble_eq_true rfl) (c_Model_raise hp_v0 h26) ⟨Nat.le_refl _, Nat.le_refl _⟩ ⟨Nat.le_refl _, Nat.le_refl _⟩ ?_
    refine ob_aload d_Model_watch_86 rfl ?_
    obtain ⟨hg28, h⟩ := ob_gd h
    refine ob_getR d_Model_watch_87 F_12_54 l_Model_94 hp_v0 hg28 (fun hk27 => ?_)
    refine ob_iload d_Model_watch_90 rfl ?_
    obtain ⟨hg29, h⟩ := ob_gd h
    refine ob_iald d_Model_watch_91 hk27 hg29 ?_
    refine ob_push d_Model_watch_92 ?_
    refine ob_icmp_ne d_Model_watch_93 (fun hc => ?_) (fun hc => ?_)
    · replace h := ob_iff hc h
      exact ob_ve h (ob_vret d_Model_watch_123 rfl)
    · replace h := ob_ift hc h
      refine ob_aload d_Model_watch_96 rfl ?_
      refine ob_getI d_Model_watch_97 F_12_59 l_Model_395 hp_v0 ?_
      refine ob_if_ne d_Model_watch_100 (fun hc => ?_) (fun hc => ?_)
      · replace h := ob_iff hc h
        exact ob_ve h (ob_vret d_Model_watch_123 rfl)
      · replace h := ob_ift hc h
        refine ob_aload d_Model_watch_103 rfl ?_
        refine ob_push d_Model_watch_104 ?_
        replace h := ob_lt_e h
        refine ob_putZ d_Model_watch_105 F_12_59 l_Model_395 hp_v0 (Or.inr rfl) ?_
        refine ob_aload d_Model_watch_108 rfl ?_
        refine ob_aload d_Model_watch_109 rfl ?_
        refine ob_getI d_Model_watch_110 F_12_41 l_Model_372 hp_v0 ?_
        refine ob_aload d_Model_watch_113 rfl ?_
        refine ob_getI d_Model_watch_114 F_12_3 l_Model_171 hp_v0 ?_
        refine ob_iadd d_Model_watch_117 ?_
        refine ob_push d_Model_watch_118 ?_
        refine ob_isub d_Model_watch_119 ?_
        replace h := ob_lt_e h
        refine ob_putI d_Model_watch_120 F_12_58 l_Model_398 hp_v0 ?_
        exact ob_ve h (ob_vret d_Model_watch_123 rfl)
  · replace h := ob_iff hc h
    exact ob_ve h (ob_vret d_Model_watch_64 rfl)
def f_Model_watch (S : ob_S) (v0 : Nat) (v1 : Int32) (D : ob_D) : Option (ob_D) :=
  if D.2.1 v0 49 ≠ 0 then if ob_in v1 (S.2.1 (D.2.1 v0 49)) then ob_bd (f_Model_parameter S v0 (D.1 (D.2.1 v0 49) v1.toNatClampNeg) D) fun x6 D4 => if D4.2.1 v0 51 ≠ 0 then if ob_in v1 (S.2.1 (D4.2.1 v0 51)) then (if x6 < (D4.1 (D4.2.1 v0 51) v1.toNatClampNeg) then f_Model_watch_L39 S v0 v1 x6 D4 else if D4.2.1 v0 52 ≠ 0 then if ob_in v1 (S.2.1 (D4.2.1 v0 52)) then (if (D4.1 (D4.2.1 v0 52) v1.toNatClampNeg) < x6 then f_Model_watch_L39 S v0 v1 x6 D4 else if D4.2.1 v0 55 ≠ 0 then if ob_in v1 (S.2.1 (D4.2.1 v0 55)) then ob_lt (ob_pI D4 (D4.2.1 v0 55) v1.toNatClampNeg (0 : Int32)) fun D38 => some D38 else none else none) else none else none) else none else none else none else none
theorem c_Model_watch {l : Launch} {E : ob_E} {S : ob_S} {D : ob_D} {v0 : Nat} {v1 : Int32} {D' : ob_D} (hp_v0 : S.1 v0 = 13) (h : f_Model_watch S v0 v1 D = some D') : ob_M l E k_Model_watch [.ref v0, .int v1] S D none S D' := by
  refine ob_ofV (lo := [(0, .ref v0), (1, .int v1)]) (by decide) rfl (Nat.le_of_ble_eq_true rfl) rfl (Nat.le_refl _) (Nat.le_refl _) ?_
  rw [f_Model_watch] at h
  refine ob_aload d_Model_watch_0 rfl ?_
  refine ob_aload d_Model_watch_1 rfl ?_
  obtain ⟨hg2, h⟩ := ob_gd h
  refine ob_getR d_Model_watch_2 F_12_49 l_Model_79 hp_v0 hg2 (fun hk1 => ?_)
  refine ob_iload d_Model_watch_5 rfl ?_
  obtain ⟨hg3, h⟩ := ob_gd h
  refine ob_iald d_Model_watch_6 hk1 hg3 ?_
  obtain ⟨x6, D4, h5, h⟩ := ob_bd_e h
  refine ob_callVi (As := [.int (D.1 (D.2.1 v0 49) v1.toNatClampNeg)]) (rest := []) d_Model_watch_7 c_Model_watch_351 hp_v0 rfl rfl (Nat.le_of_ble_eq_true rfl) (c_Model_parameter hp_v0 h5) ⟨Nat.le_refl _, Nat.le_refl _⟩ ⟨Nat.le_refl _, Nat.le_refl _⟩ ?_
  refine ob_istore (lo2 := [(0, .ref v0), (1, .int v1), (2, .int x6)]) d_Model_watch_10 rfl ?_
  refine ob_iload d_Model_watch_11 rfl ?_
  refine ob_aload d_Model_watch_12 rfl ?_
  obtain ⟨hg8, h⟩ := ob_gd h
  refine ob_getR d_Model_watch_13 F_12_51 l_Model_85 hp_v0 hg8 (fun hk7 => ?_)
  refine ob_iload d_Model_watch_16 rfl ?_
  obtain ⟨hg9, h⟩ := ob_gd h
  refine ob_iald d_Model_watch_17 hk7 hg9 ?_
  refine ob_icmp_lt d_Model_watch_18 (fun hc => ?_) (fun hc => ?_)
  · replace h := ob_ift hc h
    exact v_Model_watch_L39 v0 v1 x6 D4 hp_v0 h
  · replace h := ob_iff hc h
    refine ob_iload d_Model_watch_21 rfl ?_
    refine ob_aload d_Model_watch_22 rfl ?_
    obtain ⟨hg33, h⟩ := ob_gd h
    refine ob_getR d_Model_watch_23 F_12_52 l_Model_88 hp_v0 hg33 (fun hk32 => ?_)
    refine ob_iload d_Model_watch_26 rfl ?_
    obtain ⟨hg34, h⟩ := ob_gd h
    refine ob_iald d_Model_watch_27 hk32 hg34 ?_
    refine ob_icmp_gt d_Model_watch_28 (fun hc => ?_) (fun hc => ?_)
    · replace h := ob_ift hc h
      exact v_Model_watch_L39 v0 v1 x6 D4 hp_v0 h
    · replace h := ob_iff hc h
      refine ob_aload d_Model_watch_31 rfl ?_
      obtain ⟨hg36, h⟩ := ob_gd h
      refine ob_getR d_Model_watch_32 F_12_55 l_Model_97 hp_v0 hg36 (fun hk35 => ?_)
      refine ob_iload d_Model_watch_35 rfl ?_
      refine ob_push d_Model_watch_36 ?_
      obtain ⟨hg37, h⟩ := ob_gd h
      replace h := ob_lt_e h
      refine ob_iast d_Model_watch_37 hk35 hg37 ?_
      exact ob_ve h (ob_vret d_Model_watch_38 rfl)
-- OrbitBoxModel.workEvents()V
theorem d_Model_workEvents_0 : ob_dk k_Model_workEvents 0 1 (0 : Int32) (.iconst 0) 1 := ⟨by decide +kernel, rfl, show Int32.ofInt 0 = (0 : Int32) by decide +kernel⟩
theorem d_Model_workEvents_3 : ob_dk k_Model_workEvents 3 5 (64 : Int32) (.bipush 64) 2 := ⟨by decide +kernel, rfl, show (Int8.ofInt 64).toInt32 = (64 : Int32) by decide +kernel⟩
theorem d_Model_workEvents_184 : ob_dk k_Model_workEvents 184 185 (0 : Int32) (.iconst 0) 1 := ⟨by decide +kernel, rfl, show Int32.ofInt 0 = (0 : Int32) by decide +kernel⟩
theorem d_Model_workEvents_188 : ob_dc k_Model_workEvents 188 (.return_) 1 189 := ⟨by decide +kernel, rfl⟩
theorem d_Model_workEvents_185 : ob_dc k_Model_workEvents 185 (.putfield 401) 3 188 := ⟨by decide +kernel, rfl⟩
theorem d_Model_workEvents_183 : ob_dv ob_ac k_Model_workEvents 183 184 0 (.aload_n 0) 1 := ⟨by decide +kernel, rfl, rfl⟩
theorem d_Model_workEvents_180 : ob_dc k_Model_workEvents 180 (.putfield 404) 3 183 := ⟨by decide +kernel, rfl⟩
theorem d_Model_workEvents_179 : ob_dc k_Model_workEvents 179 (.iadd) 1 180 := ⟨by decide +kernel, rfl⟩
theorem d_Model_workEvents_176 : ob_dc k_Model_workEvents 176 (.getfield 401) 3 179 := ⟨by decide +kernel, rfl⟩
theorem d_Model_workEvents_175 : ob_dv ob_ac k_Model_workEvents 175 176 0 (.aload_n 0) 1 := ⟨by decide +kernel, rfl, rfl⟩
theorem d_Model_workEvents_172 : ob_dc k_Model_workEvents 172 (.getfield 404) 3 175 := ⟨by decide +kernel, rfl⟩
theorem d_Model_workEvents_171 : ob_dc k_Model_workEvents 171 (.dup) 1 172 := ⟨by decide +kernel, rfl⟩
theorem d_Model_workEvents_170 : ob_dv ob_ac k_Model_workEvents 170 171 0 (.aload_n 0) 1 := ⟨by decide +kernel, rfl, rfl⟩
theorem d_Model_workEvents_19 : ob_dk k_Model_workEvents 19 20 (0 : Int32) (.iconst 0) 1 := ⟨by decide +kernel, rfl, show Int32.ofInt 0 = (0 : Int32) by decide +kernel⟩
theorem d_Model_workEvents_26 : ob_dk k_Model_workEvents 26 27 (0 : Int32) (.iconst 0) 1 := ⟨by decide +kernel, rfl, show Int32.ofInt 0 = (0 : Int32) by decide +kernel⟩
theorem d_Model_workEvents_34 : ob_dk k_Model_workEvents 34 35 (1 : Int32) (.iconst 1) 1 := ⟨by decide +kernel, rfl, show Int32.ofInt 1 = (1 : Int32) by decide +kernel⟩
theorem d_Model_workEvents_39 : ob_dk k_Model_workEvents 39 40 (0 : Int32) (.iconst 0) 1 := ⟨by decide +kernel, rfl, show Int32.ofInt 0 = (0 : Int32) by decide +kernel⟩
theorem d_Model_workEvents_164 : ob_di k_Model_workEvents 164 167 1 1 (1 : Int32) := ⟨by decide +kernel, rfl, by decide +kernel, by decide +kernel⟩
theorem d_Model_workEvents_167 : ob_db k_Model_workEvents 167 (.goto (-165)) (-165) 170 2 := ⟨by decide +kernel, rfl, by decide⟩
theorem d_Model_workEvents_146 : ob_dk k_Model_workEvents 146 149 (260 : Int32) (.sipush 260) 3 := ⟨by decide +kernel, rfl, show (Int16.ofInt 260).toInt32 = (260 : Int32) by decide +kernel⟩
theorem d_Model_workEvents_161 : ob_dc k_Model_workEvents 161 (.invokevirtual 411) 3 164 := ⟨by decide +kernel, rfl⟩
theorem d_Model_workEvents_160 : ob_dv ob_ac k_Model_workEvents 160 161 0 (.aload_n 0) 1 := ⟨by decide +kernel, rfl, rfl⟩
theorem d_Model_workEvents_157 : ob_dc k_Model_workEvents 157 (.invokevirtual 407) 3 160 := ⟨by decide +kernel, rfl⟩
theorem d_Model_workEvents_156 : ob_dc k_Model_workEvents 156 (.iaload) 1 157 := ⟨by decide +kernel, rfl⟩
theorem d_Model_workEvents_155 : ob_dv ob_lc k_Model_workEvents 155 156 2 (.iload_n 2) 1 := ⟨by decide +kernel, rfl, rfl⟩
theorem d_Model_workEvents_152 : ob_dc k_Model_workEvents 152 (.getfield 112) 3 155 := ⟨by decide +kernel, rfl⟩
theorem d_Model_workEvents_151 : ob_dv ob_ac k_Model_workEvents 151 152 0 (.aload_n 0) 1 := ⟨by decide +kernel, rfl, rfl⟩
theorem d_Model_workEvents_150 : ob_dc k_Model_workEvents 150 (.imul) 1 151 := ⟨by decide +kernel, rfl⟩
theorem d_Model_workEvents_149 : ob_dv ob_lc k_Model_workEvents 149 150 2 (.iload_n 2) 1 := ⟨by decide +kernel, rfl, rfl⟩
theorem d_Model_workEvents_143 : ob_dc k_Model_workEvents 143 (.getfield 109) 3 146 := ⟨by decide +kernel, rfl⟩
theorem d_Model_workEvents_142 : ob_dv ob_ac k_Model_workEvents 142 143 0 (.aload_n 0) 1 := ⟨by decide +kernel, rfl, rfl⟩
theorem d_Model_workEvents_141 : ob_dv ob_ac k_Model_workEvents 141 142 0 (.aload_n 0) 1 := ⟨by decide +kernel, rfl, rfl⟩
theorem d_Model_workEvents_138 : ob_db k_Model_workEvents 138 (.ifCond .eq 26) 26 141 164 := ⟨by decide +kernel, rfl, by decide⟩
theorem d_Model_workEvents_137 : ob_dc k_Model_workEvents 137 (.baload) 1 138 := ⟨by decide +kernel, rfl⟩
theorem d_Model_workEvents_136 : ob_dv ob_lc k_Model_workEvents 136 137 2 (.iload_n 2) 1 := ⟨by decide +kernel, rfl, rfl⟩
theorem d_Model_workEvents_133 : ob_dc k_Model_workEvents 133 (.getfield 106) 3 136 := ⟨by decide +kernel, rfl⟩
theorem d_Model_workEvents_132 : ob_dv ob_ac k_Model_workEvents 132 133 0 (.aload_n 0) 1 := ⟨by decide +kernel, rfl, rfl⟩
theorem d_Model_workEvents_129 : ob_db k_Model_workEvents 129 (.ifCond .eq 35) 35 132 164 := ⟨by decide +kernel, rfl, by decide⟩
theorem d_Model_workEvents_128 : ob_dc k_Model_workEvents 128 (.baload) 1 129 := ⟨by decide +kernel, rfl⟩
theorem d_Model_workEvents_127 : ob_dv ob_lc k_Model_workEvents 127 128 2 (.iload_n 2) 1 := ⟨by decide +kernel, rfl, rfl⟩
theorem d_Model_workEvents_124 : ob_dc k_Model_workEvents 124 (.getfield 103) 3 127 := ⟨by decide +kernel, rfl⟩
theorem d_Model_workEvents_123 : ob_dv ob_ac k_Model_workEvents 123 124 0 (.aload_n 0) 1 := ⟨by decide +kernel, rfl, rfl⟩
theorem d_Model_workEvents_99 : ob_dk k_Model_workEvents 99 100 (5 : Int32) (.iconst 5) 1 := ⟨by decide +kernel, rfl, show Int32.ofInt 5 = (5 : Int32) by decide +kernel⟩
theorem d_Model_workEvents_100 : ob_dk k_Model_workEvents 100 101 (1 : Int32) (.iconst 1) 1 := ⟨by decide +kernel, rfl, show Int32.ofInt 1 = (1 : Int32) by decide +kernel⟩
theorem d_Model_workEvents_102 : ob_dk k_Model_workEvents 102 104 (8 : Int32) (.bipush 8) 2 := ⟨by decide +kernel, rfl, show (Int8.ofInt 8).toInt32 = (8 : Int32) by decide +kernel⟩
theorem d_Model_workEvents_120 : ob_dc k_Model_workEvents 120 (.invokevirtual 276) 3 123 := ⟨by decide +kernel, rfl⟩
theorem d_Model_workEvents_119 : ob_dv ob_ac k_Model_workEvents 119 120 0 (.aload_n 0) 1 := ⟨by decide +kernel, rfl, rfl⟩
theorem d_Model_workEvents_116 : ob_dc k_Model_workEvents 116 (.invokevirtual 354) 3 119 := ⟨by decide +kernel, rfl⟩
theorem d_Model_workEvents_115 : ob_dv ob_lc k_Model_workEvents 115 116 3 (.iload_n 3) 1 := ⟨by decide +kernel, rfl, rfl⟩
theorem d_Model_workEvents_114 : ob_dv ob_ac k_Model_workEvents 114 115 0 (.aload_n 0) 1 := ⟨by decide +kernel, rfl, rfl⟩
theorem d_Model_workEvents_111 : ob_dc k_Model_workEvents 111 (.invokevirtual 264) 3 114 := ⟨by decide +kernel, rfl⟩
theorem d_Model_workEvents_110 : ob_dv ob_lc k_Model_workEvents 110 111 2 (.iload_n 2) 1 := ⟨by decide +kernel, rfl, rfl⟩
theorem d_Model_workEvents_109 : ob_dv ob_ac k_Model_workEvents 109 110 0 (.aload_n 0) 1 := ⟨by decide +kernel, rfl, rfl⟩
theorem d_Model_workEvents_106 : ob_dc k_Model_workEvents 106 (.invokevirtual 267) 3 109 := ⟨by decide +kernel, rfl⟩
theorem d_Model_workEvents_105 : ob_dc k_Model_workEvents 105 (.iadd) 1 106 := ⟨by decide +kernel, rfl⟩
theorem d_Model_workEvents_104 : ob_dc k_Model_workEvents 104 (.idiv) 1 105 := ⟨by decide +kernel, rfl⟩
theorem d_Model_workEvents_101 : ob_dv ob_lc k_Model_workEvents 101 102 2 (.iload_n 2) 1 := ⟨by decide +kernel, rfl, rfl⟩
theorem d_Model_workEvents_98 : ob_dv ob_ac k_Model_workEvents 98 99 0 (.aload_n 0) 1 := ⟨by decide +kernel, rfl, rfl⟩
theorem d_Model_workEvents_95 : ob_db k_Model_workEvents 95 (.ifCond .eq 28) 28 98 123 := ⟨by decide +kernel, rfl, by decide⟩
theorem d_Model_workEvents_94 : ob_dc k_Model_workEvents 94 (.baload) 1 95 := ⟨by decide +kernel, rfl⟩
theorem d_Model_workEvents_93 : ob_dv ob_lc k_Model_workEvents 93 94 2 (.iload_n 2) 1 := ⟨by decide +kernel, rfl, rfl⟩
theorem d_Model_workEvents_90 : ob_dc k_Model_workEvents 90 (.getfield 100) 3 93 := ⟨by decide +kernel, rfl⟩
theorem d_Model_workEvents_89 : ob_dv ob_ac k_Model_workEvents 89 90 0 (.aload_n 0) 1 := ⟨by decide +kernel, rfl, rfl⟩
theorem d_Model_workEvents_63 : ob_dk k_Model_workEvents 63 64 (1 : Int32) (.iconst 1) 1 := ⟨by decide +kernel, rfl, show Int32.ofInt 1 = (1 : Int32) by decide +kernel⟩
theorem d_Model_workEvents_79 : ob_dk k_Model_workEvents 79 80 (1 : Int32) (.iconst 1) 1 := ⟨by decide +kernel, rfl, show Int32.ofInt 1 = (1 : Int32) by decide +kernel⟩
theorem d_Model_workEvents_83 : ob_di k_Model_workEvents 83 86 4 1 (1 : Int32) := ⟨by decide +kernel, rfl, by decide +kernel, by decide +kernel⟩
theorem d_Model_workEvents_86 : ob_db k_Model_workEvents 86 (.goto (-44)) (-44) 89 42 := ⟨by decide +kernel, rfl, by decide⟩
theorem d_Model_workEvents_82 : ob_dc k_Model_workEvents 82 (.iastore) 1 83 := ⟨by decide +kernel, rfl⟩
theorem d_Model_workEvents_81 : ob_dc k_Model_workEvents 81 (.iaload) 1 82 := ⟨by decide +kernel, rfl⟩
theorem d_Model_workEvents_80 : ob_dc k_Model_workEvents 80 (.iadd) 1 81 := ⟨by decide +kernel, rfl⟩
theorem d_Model_workEvents_77 : ob_dv ob_lc k_Model_workEvents 77 79 4 (.iload 4) 2 := ⟨by decide +kernel, rfl, rfl⟩
theorem d_Model_workEvents_74 : ob_dc k_Model_workEvents 74 (.getfield 118) 3 77 := ⟨by decide +kernel, rfl⟩
theorem d_Model_workEvents_73 : ob_dv ob_ac k_Model_workEvents 73 74 0 (.aload_n 0) 1 := ⟨by decide +kernel, rfl, rfl⟩
theorem d_Model_workEvents_71 : ob_dv ob_lc k_Model_workEvents 71 73 4 (.iload 4) 2 := ⟨by decide +kernel, rfl, rfl⟩
theorem d_Model_workEvents_68 : ob_dc k_Model_workEvents 68 (.getfield 118) 3 71 := ⟨by decide +kernel, rfl⟩
theorem d_Model_workEvents_67 : ob_dv ob_ac k_Model_workEvents 67 68 0 (.aload_n 0) 1 := ⟨by decide +kernel, rfl, rfl⟩
theorem d_Model_workEvents_66 : ob_dc k_Model_workEvents 66 (.iastore) 1 67 := ⟨by decide +kernel, rfl⟩
theorem d_Model_workEvents_65 : ob_dc k_Model_workEvents 65 (.iaload) 1 66 := ⟨by decide +kernel, rfl⟩
theorem d_Model_workEvents_64 : ob_dc k_Model_workEvents 64 (.iadd) 1 65 := ⟨by decide +kernel, rfl⟩
theorem d_Model_workEvents_61 : ob_dv ob_lc k_Model_workEvents 61 63 4 (.iload 4) 2 := ⟨by decide +kernel, rfl, rfl⟩
theorem d_Model_workEvents_58 : ob_dc k_Model_workEvents 58 (.getfield 115) 3 61 := ⟨by decide +kernel, rfl⟩
theorem d_Model_workEvents_57 : ob_dv ob_ac k_Model_workEvents 57 58 0 (.aload_n 0) 1 := ⟨by decide +kernel, rfl, rfl⟩
theorem d_Model_workEvents_55 : ob_dv ob_lc k_Model_workEvents 55 57 4 (.iload 4) 2 := ⟨by decide +kernel, rfl, rfl⟩
theorem d_Model_workEvents_52 : ob_dc k_Model_workEvents 52 (.getfield 115) 3 55 := ⟨by decide +kernel, rfl⟩
theorem d_Model_workEvents_51 : ob_dv ob_ac k_Model_workEvents 51 52 0 (.aload_n 0) 1 := ⟨by decide +kernel, rfl, rfl⟩
theorem d_Model_workEvents_48 : ob_db k_Model_workEvents 48 (.if_icmp .ge 41) 41 51 89 := ⟨by decide +kernel, rfl, by decide⟩
theorem d_Model_workEvents_45 : ob_dc k_Model_workEvents 45 (.getfield 401) 3 48 := ⟨by decide +kernel, rfl⟩
theorem d_Model_workEvents_44 : ob_dv ob_ac k_Model_workEvents 44 45 0 (.aload_n 0) 1 := ⟨by decide +kernel, rfl, rfl⟩
theorem d_Model_workEvents_42 : ob_dv ob_lc k_Model_workEvents 42 44 4 (.iload 4) 2 := ⟨by decide +kernel, rfl, rfl⟩
theorem d_Model_workEvents_40 : ob_dv (ob_sc k_Model_workEvents.2.2.2.1) k_Model_workEvents 40 42 4 (.istore 4) 2 := ⟨by decide +kernel, rfl, ⟨rfl, by decide +kernel⟩⟩
theorem d_Model_workEvents_36 : ob_dc k_Model_workEvents 36 (.putfield 401) 3 39 := ⟨by decide +kernel, rfl⟩
theorem d_Model_workEvents_35 : ob_dc k_Model_workEvents 35 (.isub) 1 36 := ⟨by decide +kernel, rfl⟩
theorem d_Model_workEvents_31 : ob_dc k_Model_workEvents 31 (.getfield 401) 3 34 := ⟨by decide +kernel, rfl⟩
theorem d_Model_workEvents_30 : ob_dc k_Model_workEvents 30 (.dup) 1 31 := ⟨by decide +kernel, rfl⟩
theorem d_Model_workEvents_29 : ob_dv ob_ac k_Model_workEvents 29 30 0 (.aload_n 0) 1 := ⟨by decide +kernel, rfl, rfl⟩
theorem d_Model_workEvents_28 : ob_dv (ob_sc k_Model_workEvents.2.2.2.1) k_Model_workEvents 28 29 3 (.istore_n 3) 1 := ⟨by decide +kernel, rfl, ⟨rfl, by decide +kernel⟩⟩
theorem d_Model_workEvents_27 : ob_dc k_Model_workEvents 27 (.iaload) 1 28 := ⟨by decide +kernel, rfl⟩
theorem d_Model_workEvents_23 : ob_dc k_Model_workEvents 23 (.getfield 118) 3 26 := ⟨by decide +kernel, rfl⟩
theorem d_Model_workEvents_22 : ob_dv ob_ac k_Model_workEvents 22 23 0 (.aload_n 0) 1 := ⟨by decide +kernel, rfl, rfl⟩
theorem d_Model_workEvents_21 : ob_dv (ob_sc k_Model_workEvents.2.2.2.1) k_Model_workEvents 21 22 2 (.istore_n 2) 1 := ⟨by decide +kernel, rfl, ⟨rfl, by decide +kernel⟩⟩
theorem d_Model_workEvents_20 : ob_dc k_Model_workEvents 20 (.iaload) 1 21 := ⟨by decide +kernel, rfl⟩
theorem d_Model_workEvents_16 : ob_dc k_Model_workEvents 16 (.getfield 115) 3 19 := ⟨by decide +kernel, rfl⟩
theorem d_Model_workEvents_15 : ob_dv ob_ac k_Model_workEvents 15 16 0 (.aload_n 0) 1 := ⟨by decide +kernel, rfl, rfl⟩
theorem d_Model_workEvents_12 : ob_db k_Model_workEvents 12 (.ifCond .le 158) 158 15 170 := ⟨by decide +kernel, rfl, by decide⟩
theorem d_Model_workEvents_9 : ob_dc k_Model_workEvents 9 (.getfield 401) 3 12 := ⟨by decide +kernel, rfl⟩
theorem d_Model_workEvents_8 : ob_dv ob_ac k_Model_workEvents 8 9 0 (.aload_n 0) 1 := ⟨by decide +kernel, rfl, rfl⟩
theorem d_Model_workEvents_5 : ob_db k_Model_workEvents 5 (.if_icmp .ge 165) 165 8 170 := ⟨by decide +kernel, rfl, by decide⟩
theorem d_Model_workEvents_2 : ob_dv ob_lc k_Model_workEvents 2 3 1 (.iload_n 1) 1 := ⟨by decide +kernel, rfl, rfl⟩
theorem d_Model_workEvents_1 : ob_dv (ob_sc k_Model_workEvents.2.2.2.1) k_Model_workEvents 1 2 1 (.istore_n 1) 1 := ⟨by decide +kernel, rfl, ⟨rfl, by decide +kernel⟩⟩
theorem c_Model_workEvents_411 : ob_vd k_Model_workEvents k_Model_handle 411 0 12 := ⟨cw_Model_handle, yd_Model_handle, w_1442, w_1444, wp_59, w_14, ⟨_, _, rfl⟩, by decide, by decide⟩
theorem c_Model_workEvents_407 : ob_vd k_Model_workEvents k_Model_take 407 3 12 := ⟨cw_Model_take, yd_Model_take, w_1434, w_1436, wp_57, w_14, ⟨_, _, rfl⟩, by decide, by decide⟩
theorem c_Model_workEvents_276 : ob_vd k_Model_workEvents k_Model_made 276 0 12 := ⟨cw_Model_made, yd_Model_made, w_1477, w_1479, wp_66, w_14, ⟨_, _, rfl⟩, by decide, by decide⟩
theorem c_Model_workEvents_354 : ob_vd k_Model_workEvents k_Model_sayFour 354 1 12 := ⟨cw_Model_sayFour, yd_Model_sayFour, w_1469, w_1471, wp_64, w_14, ⟨_, _, rfl⟩, by decide, by decide⟩
theorem c_Model_workEvents_264 : ob_vd k_Model_workEvents k_Model_say 264 1 12 := ⟨cw_Model_say, yd_Model_say, w_1464, w_1466, wp_63, w_14, ⟨_, _, rfl⟩, by decide, by decide⟩
theorem c_Model_workEvents_267 : ob_vd k_Model_workEvents k_Model_report 267 2 12 := ⟨cw_Model_report, yd_Model_report, w_1456, w_1458, wp_61, w_14, ⟨_, _, rfl⟩, by decide, by decide⟩
def f_Model_workEvents_L170 (S : ob_S) (v0 : Nat) (D : ob_D) : Option (ob_D) :=
  ob_lt (ob_pI D v0 68 ((D.1 v0 68) + (D.1 v0 67))) fun D1 => ob_lt (ob_pI D1 v0 67 (0 : Int32)) fun D2 => some D2
theorem v_Model_workEvents_L170 {l : Launch} {E : ob_E} {S : ob_S} {D' : ob_D} : ∀ (v0 : Nat) (D : ob_D), S.1 v0 = 13 → f_Model_workEvents_L170 S v0 D = some D' → ob_V l E k_Model_workEvents 170 [(0, .ref v0)] [] S D none S D' := by
  intro v0 D hp_v0 h
  rw [f_Model_workEvents_L170] at h
  refine ob_aload d_Model_workEvents_170 rfl ?_
  refine ob_dup d_Model_workEvents_171 rfl ?_
  refine ob_getI d_Model_workEvents_172 F_12_68 l_Model_404 hp_v0 ?_
  refine ob_aload d_Model_workEvents_175 rfl ?_
  refine ob_getI d_Model_workEvents_176 F_12_67 l_Model_401 hp_v0 ?_
  refine ob_iadd d_Model_workEvents_179 ?_
  replace h := ob_lt_e h
  refine ob_putI d_Model_workEvents_180 F_12_68 l_Model_404 hp_v0 ?_
  refine ob_aload d_Model_workEvents_183 rfl ?_
  refine ob_push d_Model_workEvents_184 ?_
  replace h := ob_lt_e h
  refine ob_putI d_Model_workEvents_185 F_12_67 l_Model_401 hp_v0 ?_
  exact ob_ve h (ob_vret d_Model_workEvents_188 rfl)
def f_Model_workEvents_L123 (S : ob_S) (k2 : Nat → Int32 → ob_D → Option (ob_D)) (v0 : Nat) (v1 : Int32) (v2 : Int32) (D : ob_D) : Option (ob_D) :=
  if D.2.1 v0 61 ≠ 0 then if ob_in v2 (S.2.1 (D.2.1 v0 61)) then (if (D.1 (D.2.1 v0 61) v2.toNatClampNeg) = 0 then k2 v0 (v1 + (1 : Int32)) D else if D.2.1 v0 62 ≠ 0 then if ob_in v2 (S.2.1 (D.2.1 v0 62)) then (if (D.1 (D.2.1 v0 62) v2.toNatClampNeg) = 0 then k2 v0 (v1 + (1 : Int32)) D else if D.2.1 v0 63 ≠ 0 then if D.2.1 v0 64 ≠ 0 then if ob_in v2 (S.2.1 (D.2.1 v0 64)) then ob_bv (f_Model_take S v0 (D.2.1 v0 63) ((260 : Int32) * v2) (D.1 (D.2.1 v0 64) v2.toNatClampNeg) D) fun D24 => ob_bv (f_Model_handle S v0 D24) fun D26 => k2 v0 (v1 + (1 : Int32)) D26 else none else none else none) else none else none) else none else none
theorem v_Model_workEvents_L123 {l : Launch} {E : ob_E} {S : ob_S} {D' : ob_D} {k2 : Nat → Int32 → ob_D → Option (ob_D)} (hk2 : ∀ (v0 : Nat) (v1 : Int32) (D : ob_D), S.1 v0 = 13 → k2 v0 v1 D = some D' → ob_V l E k_Model_workEvents 2 [(0, .ref v0), (1, .int v1)] [] S D none S D') : ∀ (v0 : Nat) (v1 : Int32) (v2 : Int32) (D : ob_D), S.1 v0 = 13 → f_Model_workEvents_L123 S k2 v0 v1 v2 D = some D' → ob_V l E k_Model_workEvents 123 [(0, .ref v0), (1, .int v1), (2, .int v2)] [] S D none S D' := by
  intro v0 v1 v2 D hp_v0 h
  rw [f_Model_workEvents_L123] at h
  refine ob_aload d_Model_workEvents_123 rfl ?_
  obtain ⟨hg14, h⟩ := ob_gd h
  refine ob_getR d_Model_workEvents_124 F_12_61 l_Model_103 hp_v0 hg14 (fun hk13 => ?_)
  refine ob_iload d_Model_workEvents_127 rfl ?_
  obtain ⟨hg15, h⟩ := ob_gd h
  refine ob_zald d_Model_workEvents_128 hk13 hg15 ?_
  refine ob_if_eq d_Model_workEvents_129 (fun hc => ?_) (fun hc => ?_)
  · replace h := ob_ift hc h
    refine ob_iinc (lo2 := [(0, .ref v0), (1, .int (v1 + (1 : Int32))), (2, .int v2)]) d_Model_workEvents_164 rfl rfl ?_
    refine ob_goto d_Model_workEvents_167 ?_
    refine ob_sub (lo2 := [(0, .ref v0), (1, .int (v1 + (1 : Int32)))]) [0, 1] rfl ?_
    exact hk2 v0 (v1 + (1 : Int32)) D hp_v0 h
  · replace h := ob_iff hc h
    refine ob_aload d_Model_workEvents_132 rfl ?_
    obtain ⟨hg17, h⟩ := ob_gd h
    refine ob_getR d_Model_workEvents_133 F_12_62 l_Model_106 hp_v0 hg17 (fun hk16 => ?_)
    refine ob_iload d_Model_workEvents_136 rfl ?_
    obtain ⟨hg18, h⟩ := ob_gd h
    refine ob_zald d_Model_workEvents_137 hk16 hg18 ?_
    refine ob_if_eq d_Model_workEvents_138 (fun hc => ?_) (fun hc => ?_)
    · replace h := ob_ift hc h
      refine ob_iinc (lo2 := [(0, .ref v0), (1, .int (v1 + (1 : Int32))), (2, .int v2)]) d_Model_workEvents_164 rfl rfl ?_
      refine ob_goto d_Model_workEvents_167 ?_
      refine ob_sub (lo2 := [(0, .ref v0), (1, .int (v1 + (1 : Int32)))]) [0, 1] rfl ?_
      exact hk2 v0 (v1 + (1 : Int32)) D hp_v0 h
    · replace h := ob_iff hc h
      refine ob_aload d_Model_workEvents_141 rfl ?_
      refine ob_aload d_Model_workEvents_142 rfl ?_
      obtain ⟨hg20, h⟩ := ob_gd h
      refine ob_getR d_Model_workEvents_143 F_12_63 l_Model_109 hp_v0 hg20 (fun hk19 => ?_)
      refine ob_push d_Model_workEvents_146 ?_
      refine ob_iload d_Model_workEvents_149 rfl ?_
      refine ob_imul d_Model_workEvents_150 ?_
      refine ob_aload d_Model_workEvents_151 rfl ?_
      obtain ⟨hg22, h⟩ := ob_gd h
      refine ob_getR d_Model_workEvents_152 F_12_64 l_Model_112 hp_v0 hg22 (fun hk21 => ?_)
      refine ob_iload d_Model_workEvents_155 rfl ?_
      obtain ⟨hg23, h⟩ := ob_gd h
      refine ob_iald d_Model_workEvents_156 hk21 hg23 ?_
      obtain ⟨D24, h25, h⟩ := ob_bv_e h
      refine ob_callVv (As := [.ref (D.2.1 v0 63), .int ((260 : Int32) * v2), .int (D.1 (D.2.1 v0 64) v2.toNatClampNeg)]) (rest := []) d_Model_workEvents_157 c_Model_workEvents_407 hp_v0 rfl rfl (Nat.le_of_ble_eq_true rfl) (c_Model_take hp_v0 hk19 h25) ⟨Nat.le_refl _, Nat.le_refl _⟩ ⟨Nat.le_refl _, Nat.le_refl _⟩ ?_
      refine ob_aload d_Model_workEvents_160 rfl ?_
      obtain ⟨D26, h27, h⟩ := ob_bv_e h
      refine ob_callVv (As := []) (rest := []) d_Model_workEvents_161 c_Model_workEvents_411 hp_v0 rfl rfl (Nat.le_of_ble_eq_true rfl) (c_Model_handle hp_v0 h27) ⟨Nat.le_refl _, Nat.le_refl _⟩ ⟨Nat.le_refl _, Nat.le_refl _⟩ ?_
      refine ob_iinc (lo2 := [(0, .ref v0), (1, .int (v1 + (1 : Int32))), (2, .int v2)]) d_Model_workEvents_164 rfl rfl ?_
      refine ob_goto d_Model_workEvents_167 ?_
      refine ob_sub (lo2 := [(0, .ref v0), (1, .int (v1 + (1 : Int32)))]) [0, 1] rfl ?_
      exact hk2 v0 (v1 + (1 : Int32)) D26 hp_v0 h
def f_Model_workEvents_L42 (S : ob_S) (k2 : Nat → Int32 → ob_D → Option (ob_D)) : Nat → Nat → Int32 → Int32 → Int32 → Int32 → ob_D → Option (ob_D)
  | 0, _, _, _, _, _, _ => none
  | n + 1, v0, v1, v2, v3, v4, D => (if (D.1 v0 67) ≤ v4 then if D.2.1 v0 60 ≠ 0 then if ob_in v2 (S.2.1 (D.2.1 v0 60)) then (if (D.1 (D.2.1 v0 60) v2.toNatClampNeg) = 0 then f_Model_workEvents_L123 S k2 v0 v1 v2 D else ob_bv (f_Model_report S v0 (5 : Int32) ((1 : Int32) + (v2 / (8 : Int32))) D) fun D28 => ob_bv (f_Model_say S v0 v2 D28) fun D30 => ob_bv (f_Model_sayFour S v0 v3 D30) fun D32 => ob_bv (f_Model_made S v0 D32) fun D34 => f_Model_workEvents_L123 S k2 v0 v1 v2 D34) else none else none else if D.2.1 v0 65 ≠ 0 then if D.2.1 v0 65 ≠ 0 then if ob_in (v4 + (1 : Int32)) (S.2.1 (D.2.1 v0 65)) then if ob_in v4 (S.2.1 (D.2.1 v0 65)) then ob_lt (ob_pI D (D.2.1 v0 65) v4.toNatClampNeg (D.1 (D.2.1 v0 65) (v4 + (1 : Int32)).toNatClampNeg)) fun D42 => if D42.2.1 v0 66 ≠ 0 then if D42.2.1 v0 66 ≠ 0 then if ob_in (v4 + (1 : Int32)) (S.2.1 (D42.2.1 v0 66)) then if ob_in v4 (S.2.1 (D42.2.1 v0 66)) then ob_lt (ob_pI D42 (D42.2.1 v0 66) v4.toNatClampNeg (D42.1 (D42.2.1 v0 66) (v4 + (1 : Int32)).toNatClampNeg)) fun D49 => f_Model_workEvents_L42 S k2 n v0 v1 v2 v3 (v4 + (1 : Int32)) D49 else none else none else none else none else none else none else none else none)
theorem v_Model_workEvents_L42 {l : Launch} {E : ob_E} {S : ob_S} {D' : ob_D} {k2 : Nat → Int32 → ob_D → Option (ob_D)} (hk2 : ∀ (v0 : Nat) (v1 : Int32) (D : ob_D), S.1 v0 = 13 → k2 v0 v1 D = some D' → ob_V l E k_Model_workEvents 2 [(0, .ref v0), (1, .int v1)] [] S D none S D') : ∀ (n : Nat), ∀ (v0 : Nat) (v1 : Int32) (v2 : Int32) (v3 : Int32) (v4 : Int32) (D : ob_D), S.1 v0 = 13 → f_Model_workEvents_L42 S k2 n v0 v1 v2 v3 v4 D = some D' → ob_V l E k_Model_workEvents 42 [(0, .ref v0), (1, .int v1), (2, .int v2), (3, .int v3), (4, .int v4)] [] S D none S D' := by
  intro n
  induction n with
  | zero =>
    intro v0 v1 v2 v3 v4 D hp_v0 h
    have h : none = some D' := h
    cases h
  | succ n ih =>
    intro v0 v1 v2 v3 v4 D hp_v0 h
    rw [f_Model_workEvents_L42] at h
    refine ob_iload d_Model_workEvents_42 rfl ?_
    refine ob_aload d_Model_workEvents_44 rfl ?_
    refine ob_getI d_Model_workEvents_45 F_12_67 l_Model_401 hp_v0 ?_
    refine ob_icmp_ge d_Model_workEvents_48 (fun hc => ?_) (fun hc => ?_)
    · replace h := ob_ift hc h
      refine ob_aload d_Model_workEvents_89 rfl ?_
      obtain ⟨hg11, h⟩ := ob_gd h
      refine ob_getR d_Model_workEvents_90 F_12_60 l_Model_100 hp_v0 hg11 (fun hk10 => ?_)
      refine ob_iload d_Model_workEvents_93 rfl ?_
      obtain ⟨hg12, h⟩ := ob_gd h
      refine ob_zald d_Model_workEvents_94 hk10 hg12 ?_
      refine ob_if_eq d_Model_workEvents_95 (fun hc => ?_) (fun hc => ?_)
      · replace h := ob_ift hc h
        refine ob_sub (lo2 := [(0, .ref v0), (1, .int v1), (2, .int v2)]) [0, 1, 2] rfl ?_
        exact v_Model_workEvents_L123 hk2 v0 v1 v2 D hp_v0 h
      · replace h := ob_iff hc h
        refine ob_aload d_Model_workEvents_98 rfl ?_
        refine ob_push d_Model_workEvents_99 ?_
        refine ob_push d_Model_workEvents_100 ?_
        refine ob_iload d_Model_workEvents_101 rfl ?_
        refine ob_push d_Model_workEvents_102 ?_
        refine ob_idiv d_Model_workEvents_104 (by decide) ?_
        refine ob_iadd d_Model_workEvents_105 ?_
        obtain ⟨D28, h29, h⟩ := ob_bv_e h
        refine ob_callVv (As := [.int (5 : Int32), .int ((1 : Int32) + (v2 / (8 : Int32)))]) (rest := []) d_Model_workEvents_106 c_Model_workEvents_267 hp_v0 rfl rfl (Nat.le_of_ble_eq_true rfl) (c_Model_report hp_v0 h29) ⟨Nat.le_refl _, Nat.le_refl _⟩ ⟨Nat.le_refl _, Nat.le_refl _⟩ ?_
        refine ob_aload d_Model_workEvents_109 rfl ?_
        refine ob_iload d_Model_workEvents_110 rfl ?_
        obtain ⟨D30, h31, h⟩ := ob_bv_e h
        refine ob_callVv (As := [.int v2]) (rest := []) d_Model_workEvents_111 c_Model_workEvents_264 hp_v0 rfl rfl (Nat.le_of_ble_eq_true rfl) (c_Model_say hp_v0 h31) ⟨Nat.le_refl _, Nat.le_refl _⟩ ⟨Nat.le_refl _, Nat.le_refl _⟩ ?_
        refine ob_aload d_Model_workEvents_114 rfl ?_
        refine ob_iload d_Model_workEvents_115 rfl ?_
        obtain ⟨D32, h33, h⟩ := ob_bv_e h
        refine ob_callVv (As := [.int v3]) (rest := []) d_Model_workEvents_116 c_Model_workEvents_354 hp_v0 rfl rfl (Nat.le_of_ble_eq_true rfl) (c_Model_sayFour hp_v0 h33) ⟨Nat.le_refl _, Nat.le_refl _⟩ ⟨Nat.le_refl _, Nat.le_refl _⟩ ?_
        refine ob_aload d_Model_workEvents_119 rfl ?_
        obtain ⟨D34, h35, h⟩ := ob_bv_e h
        refine ob_callVv (As := []) (rest := []) d_Model_workEvents_120 c_Model_workEvents_276 hp_v0 rfl rfl (Nat.le_of_ble_eq_true rfl) (c_Model_made hp_v0 h35) ⟨Nat.le_refl _, Nat.le_refl _⟩ ⟨Nat.le_refl _, Nat.le_refl _⟩ ?_
        refine ob_sub (lo2 := [(0, .ref v0), (1, .int v1), (2, .int v2)]) [0, 1, 2] rfl ?_
        exact v_Model_workEvents_L123 hk2 v0 v1 v2 D34 hp_v0 h
    · replace h := ob_iff hc h
      refine ob_aload d_Model_workEvents_51 rfl ?_
      obtain ⟨hg37, h⟩ := ob_gd h
      refine ob_getR d_Model_workEvents_52 F_12_65 l_Model_115 hp_v0 hg37 (fun hk36 => ?_)
      refine ob_iload d_Model_workEvents_55 rfl ?_
      refine ob_aload d_Model_workEvents_57 rfl ?_
      obtain ⟨hg39, h⟩ := ob_gd h
      refine ob_getR d_Model_workEvents_58 F_12_65 l_Model_115 hp_v0 hg39 (fun hk38 => ?_)
      refine ob_iload d_Model_workEvents_61 rfl ?_
      refine ob_push d_Model_workEvents_63 ?_
      refine ob_iadd d_Model_workEvents_64 ?_
      obtain ⟨hg40, h⟩ := ob_gd h
      refine ob_iald d_Model_workEvents_65 hk38 hg40 ?_
      obtain ⟨hg41, h⟩ := ob_gd h
      replace h := ob_lt_e h
      refine ob_iast d_Model_workEvents_66 hk36 hg41 ?_
      refine ob_aload d_Model_workEvents_67 rfl ?_
      obtain ⟨hg44, h⟩ := ob_gd h
      refine ob_getR d_Model_workEvents_68 F_12_66 l_Model_118 hp_v0 hg44 (fun hk43 => ?_)
      refine ob_iload d_Model_workEvents_71 rfl ?_
      refine ob_aload d_Model_workEvents_73 rfl ?_
      obtain ⟨hg46, h⟩ := ob_gd h
      refine ob_getR d_Model_workEvents_74 F_12_66 l_Model_118 hp_v0 hg46 (fun hk45 => ?_)
      refine ob_iload d_Model_workEvents_77 rfl ?_
      refine ob_push d_Model_workEvents_79 ?_
      refine ob_iadd d_Model_workEvents_80 ?_
      obtain ⟨hg47, h⟩ := ob_gd h
      refine ob_iald d_Model_workEvents_81 hk45 hg47 ?_
      obtain ⟨hg48, h⟩ := ob_gd h
      replace h := ob_lt_e h
      refine ob_iast d_Model_workEvents_82 hk43 hg48 ?_
      refine ob_iinc (lo2 := [(0, .ref v0), (1, .int v1), (2, .int v2), (3, .int v3), (4, .int (v4 + (1 : Int32)))]) d_Model_workEvents_83 rfl rfl ?_
      refine ob_goto d_Model_workEvents_86 ?_
      exact ih v0 v1 v2 v3 (v4 + (1 : Int32)) (ob_pI (ob_pI D (D.2.1 v0 65) v4.toNatClampNeg (D.1 (D.2.1 v0 65) (v4 + (1 : Int32)).toNatClampNeg)) ((ob_pI D (D.2.1 v0 65) v4.toNatClampNeg (D.1 (D.2.1 v0 65) (v4 + (1 : Int32)).toNatClampNeg)).2.1 v0 66) v4.toNatClampNeg ((ob_pI D (D.2.1 v0 65) v4.toNatClampNeg (D.1 (D.2.1 v0 65) (v4 + (1 : Int32)).toNatClampNeg)).1 ((ob_pI D (D.2.1 v0 65) v4.toNatClampNeg (D.1 (D.2.1 v0 65) (v4 + (1 : Int32)).toNatClampNeg)).2.1 v0 66) (v4 + (1 : Int32)).toNatClampNeg)) hp_v0 h
def f_Model_workEvents_L2 (S : ob_S) : Nat → Nat → Int32 → ob_D → Option (ob_D)
  | 0, _, _, _ => none
  | n + 1, v0, v1, D => (if (64 : Int32) ≤ v1 then f_Model_workEvents_L170 S v0 D else (if (D.1 v0 67) ≤ 0 then f_Model_workEvents_L170 S v0 D else if D.2.1 v0 65 ≠ 0 then if ob_in (0 : Int32) (S.2.1 (D.2.1 v0 65)) then if D.2.1 v0 66 ≠ 0 then if ob_in (0 : Int32) (S.2.1 (D.2.1 v0 66)) then ob_lt (ob_pI D v0 67 ((D.1 v0 67) - (1 : Int32))) fun D9 => f_Model_workEvents_L42 S (fun a0 a1 d => f_Model_workEvents_L2 S n a0 a1 d) ob_FU v0 v1 (D.1 (D.2.1 v0 65) (0 : Int32).toNatClampNeg) (D.1 (D.2.1 v0 66) (0 : Int32).toNatClampNeg) (0 : Int32) D9 else none else none else none else none))
theorem v_Model_workEvents_L2 {l : Launch} {E : ob_E} {S : ob_S} {D' : ob_D} : ∀ (n : Nat), ∀ (v0 : Nat) (v1 : Int32) (D : ob_D), S.1 v0 = 13 → f_Model_workEvents_L2 S n v0 v1 D = some D' → ob_V l E k_Model_workEvents 2 [(0, .ref v0), (1, .int v1)] [] S D none S D' := by
  intro n
  induction n with
  | zero =>
    intro v0 v1 D hp_v0 h
    have h : none = some D' := h
    cases h
  | succ n ih =>
    intro v0 v1 D hp_v0 h
    rw [f_Model_workEvents_L2] at h
    refine ob_iload d_Model_workEvents_2 rfl ?_
    refine ob_push d_Model_workEvents_3 ?_
    refine ob_icmp_ge d_Model_workEvents_5 (fun hc => ?_) (fun hc => ?_)
    · replace h := ob_ift hc h
      refine ob_sub (lo2 := [(0, .ref v0)]) [0] rfl ?_
      exact v_Model_workEvents_L170 v0 D hp_v0 h
    · replace h := ob_iff hc h
      refine ob_aload d_Model_workEvents_8 rfl ?_
      refine ob_getI d_Model_workEvents_9 F_12_67 l_Model_401 hp_v0 ?_
      refine ob_if_le d_Model_workEvents_12 (fun hc => ?_) (fun hc => ?_)
      · replace h := ob_ift hc h
        refine ob_sub (lo2 := [(0, .ref v0)]) [0] rfl ?_
        exact v_Model_workEvents_L170 v0 D hp_v0 h
      · replace h := ob_iff hc h
        refine ob_aload d_Model_workEvents_15 rfl ?_
        obtain ⟨hg4, h⟩ := ob_gd h
        refine ob_getR d_Model_workEvents_16 F_12_65 l_Model_115 hp_v0 hg4 (fun hk3 => ?_)
        refine ob_push d_Model_workEvents_19 ?_
        obtain ⟨hg5, h⟩ := ob_gd h
        refine ob_iald d_Model_workEvents_20 hk3 hg5 ?_
        refine ob_istore (lo2 := [(0, .ref v0), (1, .int v1), (2, .int (D.1 (D.2.1 v0 65) (0 : Int32).toNatClampNeg))]) d_Model_workEvents_21 rfl ?_
        refine ob_aload d_Model_workEvents_22 rfl ?_
        obtain ⟨hg7, h⟩ := ob_gd h
        refine ob_getR d_Model_workEvents_23 F_12_66 l_Model_118 hp_v0 hg7 (fun hk6 => ?_)
        refine ob_push d_Model_workEvents_26 ?_
        obtain ⟨hg8, h⟩ := ob_gd h
        refine ob_iald d_Model_workEvents_27 hk6 hg8 ?_
        refine ob_istore (lo2 := [(0, .ref v0), (1, .int v1), (2, .int (D.1 (D.2.1 v0 65) (0 : Int32).toNatClampNeg)), (3, .int (D.1 (D.2.1 v0 66) (0 : Int32).toNatClampNeg))]) d_Model_workEvents_28 rfl ?_
        refine ob_aload d_Model_workEvents_29 rfl ?_
        refine ob_dup d_Model_workEvents_30 rfl ?_
        refine ob_getI d_Model_workEvents_31 F_12_67 l_Model_401 hp_v0 ?_
        refine ob_push d_Model_workEvents_34 ?_
        refine ob_isub d_Model_workEvents_35 ?_
        replace h := ob_lt_e h
        refine ob_putI d_Model_workEvents_36 F_12_67 l_Model_401 hp_v0 ?_
        refine ob_push d_Model_workEvents_39 ?_
        refine ob_istore (lo2 := [(0, .ref v0), (1, .int v1), (2, .int (D.1 (D.2.1 v0 65) (0 : Int32).toNatClampNeg)), (3, .int (D.1 (D.2.1 v0 66) (0 : Int32).toNatClampNeg)), (4, .int (0 : Int32))]) d_Model_workEvents_40 rfl ?_
        exact v_Model_workEvents_L42 ih ob_FU v0 v1 (D.1 (D.2.1 v0 65) (0 : Int32).toNatClampNeg) (D.1 (D.2.1 v0 66) (0 : Int32).toNatClampNeg) (0 : Int32) (ob_pI D v0 67 ((D.1 v0 67) - (1 : Int32))) hp_v0 h
def f_Model_workEvents (S : ob_S) (v0 : Nat) (D : ob_D) : Option (ob_D) :=
  f_Model_workEvents_L2 S ob_FU v0 (0 : Int32) D
theorem c_Model_workEvents {l : Launch} {E : ob_E} {S : ob_S} {D : ob_D} {v0 : Nat} {D' : ob_D} (hp_v0 : S.1 v0 = 13) (h : f_Model_workEvents S v0 D = some D') : ob_M l E k_Model_workEvents [.ref v0] S D none S D' := by
  refine ob_ofV (lo := [(0, .ref v0)]) (by decide) rfl (Nat.le_of_ble_eq_true rfl) rfl (Nat.le_refl _) (Nat.le_refl _) ?_
  rw [f_Model_workEvents] at h
  refine ob_push d_Model_workEvents_0 ?_
  refine ob_istore (lo2 := [(0, .ref v0), (1, .int (0 : Int32))]) d_Model_workEvents_1 rfl ?_
  exact v_Model_workEvents_L2 ob_FU v0 (0 : Int32) D hp_v0 h
-- OrbitBoxModel.retrieve()V
theorem d_Model_retrieve_119 : ob_dc k_Model_retrieve 119 (.return_) 1 120 := ⟨by decide +kernel, rfl⟩
theorem d_Model_retrieve_111 : ob_dk k_Model_retrieve 111 112 (1 : Int32) (.iconst 1) 1 := ⟨by decide +kernel, rfl, show Int32.ofInt 1 = (1 : Int32) by decide +kernel⟩
theorem d_Model_retrieve_116 : ob_db k_Model_retrieve 116 (.goto (-116)) (-116) 119 0 := ⟨by decide +kernel, rfl, by decide⟩
theorem d_Model_retrieve_113 : ob_dc k_Model_retrieve 113 (.putfield 446) 3 116 := ⟨by decide +kernel, rfl⟩
theorem d_Model_retrieve_112 : ob_dc k_Model_retrieve 112 (.iadd) 1 113 := ⟨by decide +kernel, rfl⟩
theorem d_Model_retrieve_108 : ob_dc k_Model_retrieve 108 (.getfield 446) 3 111 := ⟨by decide +kernel, rfl⟩
theorem d_Model_retrieve_107 : ob_dc k_Model_retrieve 107 (.dup) 1 108 := ⟨by decide +kernel, rfl⟩
theorem d_Model_retrieve_106 : ob_dv ob_ac k_Model_retrieve 106 107 0 (.aload_n 0) 1 := ⟨by decide +kernel, rfl, rfl⟩
theorem d_Model_retrieve_56 : ob_dk k_Model_retrieve 56 57 (0 : Int32) (.iconst 0) 1 := ⟨by decide +kernel, rfl, show Int32.ofInt 0 = (0 : Int32) by decide +kernel⟩
theorem d_Model_retrieve_58 : ob_dk k_Model_retrieve 58 59 (0 : Int32) (.iconst 0) 1 := ⟨by decide +kernel, rfl, show Int32.ofInt 0 = (0 : Int32) by decide +kernel⟩
theorem d_Model_retrieve_84 : ob_dk k_Model_retrieve 84 85 (1 : Int32) (.iconst 1) 1 := ⟨by decide +kernel, rfl, show Int32.ofInt 1 = (1 : Int32) by decide +kernel⟩
theorem d_Model_retrieve_105 : ob_dc k_Model_retrieve 105 (.return_) 1 106 := ⟨by decide +kernel, rfl⟩
theorem d_Model_retrieve_102 : ob_db k_Model_retrieve 102 (.ifCond .ne 4) 4 105 106 := ⟨by decide +kernel, rfl, by decide⟩
theorem d_Model_retrieve_99 : ob_dc k_Model_retrieve 99 (.invokevirtual 421) 3 102 := ⟨by decide +kernel, rfl⟩
theorem d_Model_retrieve_98 : ob_dc k_Model_retrieve 98 (.iaload) 1 99 := ⟨by decide +kernel, rfl⟩
theorem d_Model_retrieve_95 : ob_dc k_Model_retrieve 95 (.getfield 446) 3 98 := ⟨by decide +kernel, rfl⟩
theorem d_Model_retrieve_94 : ob_dv ob_ac k_Model_retrieve 94 95 0 (.aload_n 0) 1 := ⟨by decide +kernel, rfl, rfl⟩
theorem d_Model_retrieve_91 : ob_dc k_Model_retrieve 91 (.getfield 133) 3 94 := ⟨by decide +kernel, rfl⟩
theorem d_Model_retrieve_90 : ob_dv ob_ac k_Model_retrieve 90 91 0 (.aload_n 0) 1 := ⟨by decide +kernel, rfl, rfl⟩
theorem d_Model_retrieve_89 : ob_dv ob_lc k_Model_retrieve 89 90 1 (.iload_n 1) 1 := ⟨by decide +kernel, rfl, rfl⟩
theorem d_Model_retrieve_86 : ob_dc k_Model_retrieve 86 (.getfield 130) 3 89 := ⟨by decide +kernel, rfl⟩
theorem d_Model_retrieve_85 : ob_dv ob_ac k_Model_retrieve 85 86 0 (.aload_n 0) 1 := ⟨by decide +kernel, rfl, rfl⟩
theorem d_Model_retrieve_83 : ob_dv ob_ac k_Model_retrieve 83 84 0 (.aload_n 0) 1 := ⟨by decide +kernel, rfl, rfl⟩
theorem d_Model_retrieve_77 : ob_di k_Model_retrieve 77 80 2 1 (1 : Int32) := ⟨by decide +kernel, rfl, by decide +kernel, by decide +kernel⟩
theorem d_Model_retrieve_80 : ob_db k_Model_retrieve 80 (.goto (-20)) (-20) 83 60 := ⟨by decide +kernel, rfl, by decide⟩
theorem d_Model_retrieve_76 : ob_dv (ob_sc k_Model_retrieve.2.2.2.1) k_Model_retrieve 76 77 1 (.istore_n 1) 1 := ⟨by decide +kernel, rfl, ⟨rfl, by decide +kernel⟩⟩
theorem d_Model_retrieve_75 : ob_dc k_Model_retrieve 75 (.iadd) 1 76 := ⟨by decide +kernel, rfl⟩
theorem d_Model_retrieve_74 : ob_dc k_Model_retrieve 74 (.iaload) 1 75 := ⟨by decide +kernel, rfl⟩
theorem d_Model_retrieve_73 : ob_dv ob_lc k_Model_retrieve 73 74 2 (.iload_n 2) 1 := ⟨by decide +kernel, rfl, rfl⟩
theorem d_Model_retrieve_70 : ob_dc k_Model_retrieve 70 (.getfield 133) 3 73 := ⟨by decide +kernel, rfl⟩
theorem d_Model_retrieve_69 : ob_dv ob_ac k_Model_retrieve 69 70 0 (.aload_n 0) 1 := ⟨by decide +kernel, rfl, rfl⟩
theorem d_Model_retrieve_68 : ob_dv ob_lc k_Model_retrieve 68 69 1 (.iload_n 1) 1 := ⟨by decide +kernel, rfl, rfl⟩
theorem d_Model_retrieve_65 : ob_db k_Model_retrieve 65 (.if_icmp .ge 18) 18 68 83 := ⟨by decide +kernel, rfl, by decide⟩
theorem d_Model_retrieve_62 : ob_dc k_Model_retrieve 62 (.getfield 446) 3 65 := ⟨by decide +kernel, rfl⟩
theorem d_Model_retrieve_61 : ob_dv ob_ac k_Model_retrieve 61 62 0 (.aload_n 0) 1 := ⟨by decide +kernel, rfl, rfl⟩
theorem d_Model_retrieve_60 : ob_dv ob_lc k_Model_retrieve 60 61 2 (.iload_n 2) 1 := ⟨by decide +kernel, rfl, rfl⟩
theorem d_Model_retrieve_59 : ob_dv (ob_sc k_Model_retrieve.2.2.2.1) k_Model_retrieve 59 60 2 (.istore_n 2) 1 := ⟨by decide +kernel, rfl, ⟨rfl, by decide +kernel⟩⟩
theorem d_Model_retrieve_57 : ob_dv (ob_sc k_Model_retrieve.2.2.2.1) k_Model_retrieve 57 58 1 (.istore_n 1) 1 := ⟨by decide +kernel, rfl, ⟨rfl, by decide +kernel⟩⟩
theorem d_Model_retrieve_53 : ob_db k_Model_retrieve 53 (.if_icmp .gt 53) 53 56 106 := ⟨by decide +kernel, rfl, by decide⟩
theorem d_Model_retrieve_50 : ob_dc k_Model_retrieve 50 (.getfield 455) 3 53 := ⟨by decide +kernel, rfl⟩
theorem d_Model_retrieve_49 : ob_dv ob_ac k_Model_retrieve 49 50 0 (.aload_n 0) 1 := ⟨by decide +kernel, rfl, rfl⟩
theorem d_Model_retrieve_48 : ob_dc k_Model_retrieve 48 (.iaload) 1 49 := ⟨by decide +kernel, rfl⟩
theorem d_Model_retrieve_45 : ob_dc k_Model_retrieve 45 (.getfield 446) 3 48 := ⟨by decide +kernel, rfl⟩
theorem d_Model_retrieve_44 : ob_dv ob_ac k_Model_retrieve 44 45 0 (.aload_n 0) 1 := ⟨by decide +kernel, rfl, rfl⟩
theorem d_Model_retrieve_41 : ob_dc k_Model_retrieve 41 (.getfield 136) 3 44 := ⟨by decide +kernel, rfl⟩
theorem d_Model_retrieve_40 : ob_dv ob_ac k_Model_retrieve 40 41 0 (.aload_n 0) 1 := ⟨by decide +kernel, rfl, rfl⟩
theorem d_Model_retrieve_37 : ob_db k_Model_retrieve 37 (.if_icmp .lt 69) 69 40 106 := ⟨by decide +kernel, rfl, by decide⟩
theorem d_Model_retrieve_34 : ob_dc k_Model_retrieve 34 (.getfield 452) 3 37 := ⟨by decide +kernel, rfl⟩
theorem d_Model_retrieve_33 : ob_dv ob_ac k_Model_retrieve 33 34 0 (.aload_n 0) 1 := ⟨by decide +kernel, rfl, rfl⟩
theorem d_Model_retrieve_32 : ob_dc k_Model_retrieve 32 (.iaload) 1 33 := ⟨by decide +kernel, rfl⟩
theorem d_Model_retrieve_29 : ob_dc k_Model_retrieve 29 (.getfield 446) 3 32 := ⟨by decide +kernel, rfl⟩
theorem d_Model_retrieve_28 : ob_dv ob_ac k_Model_retrieve 28 29 0 (.aload_n 0) 1 := ⟨by decide +kernel, rfl, rfl⟩
theorem d_Model_retrieve_25 : ob_dc k_Model_retrieve 25 (.getfield 136) 3 28 := ⟨by decide +kernel, rfl⟩
theorem d_Model_retrieve_24 : ob_dv ob_ac k_Model_retrieve 24 25 0 (.aload_n 0) 1 := ⟨by decide +kernel, rfl, rfl⟩
theorem d_Model_retrieve_19 : ob_dk k_Model_retrieve 19 20 (0 : Int32) (.iconst 0) 1 := ⟨by decide +kernel, rfl, show Int32.ofInt 0 = (0 : Int32) by decide +kernel⟩
theorem d_Model_retrieve_23 : ob_dc k_Model_retrieve 23 (.return_) 1 24 := ⟨by decide +kernel, rfl⟩
theorem d_Model_retrieve_20 : ob_dc k_Model_retrieve 20 (.putfield 449) 3 23 := ⟨by decide +kernel, rfl⟩
theorem d_Model_retrieve_18 : ob_dv ob_ac k_Model_retrieve 18 19 0 (.aload_n 0) 1 := ⟨by decide +kernel, rfl, rfl⟩
theorem d_Model_retrieve_15 : ob_db k_Model_retrieve 15 (.if_icmp .ne 9) 9 18 24 := ⟨by decide +kernel, rfl, by decide⟩
theorem d_Model_retrieve_12 : ob_dc k_Model_retrieve 12 (.getfield 443) 3 15 := ⟨by decide +kernel, rfl⟩
theorem d_Model_retrieve_11 : ob_dv ob_ac k_Model_retrieve 11 12 0 (.aload_n 0) 1 := ⟨by decide +kernel, rfl, rfl⟩
theorem d_Model_retrieve_8 : ob_dc k_Model_retrieve 8 (.getfield 446) 3 11 := ⟨by decide +kernel, rfl⟩
theorem d_Model_retrieve_7 : ob_dv ob_ac k_Model_retrieve 7 8 0 (.aload_n 0) 1 := ⟨by decide +kernel, rfl, rfl⟩
theorem d_Model_retrieve_4 : ob_db k_Model_retrieve 4 (.ifCond .eq 115) 115 7 119 := ⟨by decide +kernel, rfl, by decide⟩
theorem d_Model_retrieve_1 : ob_dc k_Model_retrieve 1 (.getfield 449) 3 4 := ⟨by decide +kernel, rfl⟩
theorem d_Model_retrieve_0 : ob_dv ob_ac k_Model_retrieve 0 1 0 (.aload_n 0) 1 := ⟨by decide +kernel, rfl, rfl⟩
theorem c_Model_retrieve_421 : ob_vd k_Model_retrieve k_Model_joins 421 4 12 := ⟨cw_Model_joins, yd_Model_joins, w_1481, w_1483, wp_67, w_14, ⟨_, _, rfl⟩, by decide, by decide⟩
def f_Model_retrieve_L60 (S : ob_S) (k0 : Nat → ob_D → Option (ob_D)) : Nat → Nat → Int32 → Int32 → ob_D → Option (ob_D)
  | 0, _, _, _, _ => none
  | n + 1, v0, v1, v2, D => (if (D.1 v0 83) ≤ v2 then if D.2.1 v0 75 ≠ 0 then if D.2.1 v0 76 ≠ 0 then if ob_in (D.1 v0 83) (S.2.1 (D.2.1 v0 76)) then ob_bd (f_Model_joins S v0 (1 : Int32) (D.2.1 v0 75) v1 (D.1 (D.2.1 v0 76) (D.1 v0 83).toNatClampNeg) D) fun x16 D14 => (if x16 = 0 then some D14 else ob_lt (ob_pI D14 v0 83 ((D14.1 v0 83) + (1 : Int32))) fun D17 => k0 v0 D17) else none else none else none else if D.2.1 v0 76 ≠ 0 then if ob_in v2 (S.2.1 (D.2.1 v0 76)) then f_Model_retrieve_L60 S k0 n v0 (v1 + (D.1 (D.2.1 v0 76) v2.toNatClampNeg)) (v2 + (1 : Int32)) D else none else none)
theorem v_Model_retrieve_L60 {l : Launch} {E : ob_E} {S : ob_S} {D' : ob_D} {k0 : Nat → ob_D → Option (ob_D)} (hk0 : ∀ (v0 : Nat) (D : ob_D), S.1 v0 = 13 → k0 v0 D = some D' → ob_V l E k_Model_retrieve 0 [(0, .ref v0)] [] S D none S D') : ∀ (n : Nat), ∀ (v0 : Nat) (v1 : Int32) (v2 : Int32) (D : ob_D), S.1 v0 = 13 → f_Model_retrieve_L60 S k0 n v0 v1 v2 D = some D' → ob_V l E k_Model_retrieve 60 [(0, .ref v0), (1, .int v1), (2, .int v2)] [] S D none S D' := by
  intro n
  induction n with
  | zero =>
    intro v0 v1 v2 D hp_v0 h
    have h : none = some D' := h
    cases h
  | succ n ih =>
    intro v0 v1 v2 D hp_v0 h
    rw [f_Model_retrieve_L60] at h
    refine ob_iload d_Model_retrieve_60 rfl ?_
    refine ob_aload d_Model_retrieve_61 rfl ?_
    refine ob_getI d_Model_retrieve_62 F_12_83 l_Model_446 hp_v0 ?_
    refine ob_icmp_ge d_Model_retrieve_65 (fun hc => ?_) (fun hc => ?_)
    · replace h := ob_ift hc h
      refine ob_aload d_Model_retrieve_83 rfl ?_
      refine ob_push d_Model_retrieve_84 ?_
      refine ob_aload d_Model_retrieve_85 rfl ?_
      obtain ⟨hg10, h⟩ := ob_gd h
      refine ob_getR d_Model_retrieve_86 F_12_75 l_Model_130 hp_v0 hg10 (fun hk9 => ?_)
      refine ob_iload d_Model_retrieve_89 rfl ?_
      refine ob_aload d_Model_retrieve_90 rfl ?_
      obtain ⟨hg12, h⟩ := ob_gd h
      refine ob_getR d_Model_retrieve_91 F_12_76 l_Model_133 hp_v0 hg12 (fun hk11 => ?_)
      refine ob_aload d_Model_retrieve_94 rfl ?_
      refine ob_getI d_Model_retrieve_95 F_12_83 l_Model_446 hp_v0 ?_
      obtain ⟨hg13, h⟩ := ob_gd h
      refine ob_iald d_Model_retrieve_98 hk11 hg13 ?_
      obtain ⟨x16, D14, h15, h⟩ := ob_bd_e h
      refine ob_callVi (As := [.int (1 : Int32), .ref (D.2.1 v0 75), .int v1, .int (D.1 (D.2.1 v0 76) (D.1 v0 83).toNatClampNeg)]) (rest := []) d_Model_retrieve_99 c_Model_retrieve_421 hp_v0 rfl rfl (Nat.le_of_ble_eq_true rfl) (c_Model_joins hp_v0 hk9 h15) ⟨Nat.le_refl _, Nat.le_refl _⟩ ⟨Nat.le_refl _, Nat.le_refl _⟩ ?_
      refine ob_if_ne d_Model_retrieve_102 (fun hc => ?_) (fun hc => ?_)
      · replace h := ob_iff hc h
        refine ob_aload d_Model_retrieve_106 rfl ?_
        refine ob_dup d_Model_retrieve_107 rfl ?_
        refine ob_getI d_Model_retrieve_108 F_12_83 l_Model_446 hp_v0 ?_
        refine ob_push d_Model_retrieve_111 ?_
        refine ob_iadd d_Model_retrieve_112 ?_
        replace h := ob_lt_e h
        refine ob_putI d_Model_retrieve_113 F_12_83 l_Model_446 hp_v0 ?_
        refine ob_goto d_Model_retrieve_116 ?_
        refine ob_sub (lo2 := [(0, .ref v0)]) [0] rfl ?_
        exact hk0 v0 (ob_pI D14 v0 83 ((D14.1 v0 83) + (1 : Int32))) hp_v0 h
      · replace h := ob_ift hc h
        exact ob_ve h (ob_vret d_Model_retrieve_105 rfl)
    · replace h := ob_iff hc h
      refine ob_iload d_Model_retrieve_68 rfl ?_
      refine ob_aload d_Model_retrieve_69 rfl ?_
      obtain ⟨hg19, h⟩ := ob_gd h
      refine ob_getR d_Model_retrieve_70 F_12_76 l_Model_133 hp_v0 hg19 (fun hk18 => ?_)
      refine ob_iload d_Model_retrieve_73 rfl ?_
      obtain ⟨hg20, h⟩ := ob_gd h
      refine ob_iald d_Model_retrieve_74 hk18 hg20 ?_
      refine ob_iadd d_Model_retrieve_75 ?_
      refine ob_istore (lo2 := [(0, .ref v0), (1, .int (v1 + (D.1 (D.2.1 v0 76) v2.toNatClampNeg))), (2, .int v2)]) d_Model_retrieve_76 rfl ?_
      refine ob_iinc (lo2 := [(0, .ref v0), (1, .int (v1 + (D.1 (D.2.1 v0 76) v2.toNatClampNeg))), (2, .int (v2 + (1 : Int32)))]) d_Model_retrieve_77 rfl rfl ?_
      refine ob_goto d_Model_retrieve_80 ?_
      exact ih v0 (v1 + (D.1 (D.2.1 v0 76) v2.toNatClampNeg)) (v2 + (1 : Int32)) D hp_v0 h
def f_Model_retrieve_L0 (S : ob_S) : Nat → Nat → ob_D → Option (ob_D)
  | 0, _, _ => none
  | n + 1, v0, D => (if (D.1 v0 80) = 0 then some D else (if (D.1 v0 83) = (D.1 v0 78) then ob_lt (ob_pI D v0 80 (0 : Int32)) fun D21 => some D21 else if D.2.1 v0 77 ≠ 0 then if ob_in (D.1 v0 83) (S.2.1 (D.2.1 v0 77)) then (if (D.1 (D.2.1 v0 77) (D.1 v0 83).toNatClampNeg) < (D.1 v0 81) then ob_lt (ob_pI D v0 83 ((D.1 v0 83) + (1 : Int32))) fun D4 => f_Model_retrieve_L0 S n v0 D4 else if D.2.1 v0 77 ≠ 0 then if ob_in (D.1 v0 83) (S.2.1 (D.2.1 v0 77)) then (if (D.1 v0 82) < (D.1 (D.2.1 v0 77) (D.1 v0 83).toNatClampNeg) then ob_lt (ob_pI D v0 83 ((D.1 v0 83) + (1 : Int32))) fun D8 => f_Model_retrieve_L0 S n v0 D8 else f_Model_retrieve_L60 S (fun a0 d => f_Model_retrieve_L0 S n a0 d) ob_FU v0 (0 : Int32) (0 : Int32) D) else none else none) else none else none))
theorem v_Model_retrieve_L0 {l : Launch} {E : ob_E} {S : ob_S} {D' : ob_D} : ∀ (n : Nat), ∀ (v0 : Nat) (D : ob_D), S.1 v0 = 13 → f_Model_retrieve_L0 S n v0 D = some D' → ob_V l E k_Model_retrieve 0 [(0, .ref v0)] [] S D none S D' := by
  intro n
  induction n with
  | zero =>
    intro v0 D hp_v0 h
    have h : none = some D' := h
    cases h
  | succ n ih =>
    intro v0 D hp_v0 h
    rw [f_Model_retrieve_L0] at h
    refine ob_aload d_Model_retrieve_0 rfl ?_
    refine ob_getI d_Model_retrieve_1 F_12_80 l_Model_449 hp_v0 ?_
    refine ob_if_eq d_Model_retrieve_4 (fun hc => ?_) (fun hc => ?_)
    · replace h := ob_ift hc h
      exact ob_ve h (ob_vret d_Model_retrieve_119 rfl)
    · replace h := ob_iff hc h
      refine ob_aload d_Model_retrieve_7 rfl ?_
      refine ob_getI d_Model_retrieve_8 F_12_83 l_Model_446 hp_v0 ?_
      refine ob_aload d_Model_retrieve_11 rfl ?_
      refine ob_getI d_Model_retrieve_12 F_12_78 l_Model_443 hp_v0 ?_
      refine ob_icmp_ne d_Model_retrieve_15 (fun hc => ?_) (fun hc => ?_)
      · replace h := ob_iff hc h
        refine ob_aload d_Model_retrieve_24 rfl ?_
        obtain ⟨hg2, h⟩ := ob_gd h
        refine ob_getR d_Model_retrieve_25 F_12_77 l_Model_136 hp_v0 hg2 (fun hk1 => ?_)
        refine ob_aload d_Model_retrieve_28 rfl ?_
        refine ob_getI d_Model_retrieve_29 F_12_83 l_Model_446 hp_v0 ?_
        obtain ⟨hg3, h⟩ := ob_gd h
        refine ob_iald d_Model_retrieve_32 hk1 hg3 ?_
        refine ob_aload d_Model_retrieve_33 rfl ?_
        refine ob_getI d_Model_retrieve_34 F_12_81 l_Model_452 hp_v0 ?_
        refine ob_icmp_lt d_Model_retrieve_37 (fun hc => ?_) (fun hc => ?_)
        · replace h := ob_ift hc h
          refine ob_aload d_Model_retrieve_106 rfl ?_
          refine ob_dup d_Model_retrieve_107 rfl ?_
          refine ob_getI d_Model_retrieve_108 F_12_83 l_Model_446 hp_v0 ?_
          refine ob_push d_Model_retrieve_111 ?_
          refine ob_iadd d_Model_retrieve_112 ?_
          replace h := ob_lt_e h
          refine ob_putI d_Model_retrieve_113 F_12_83 l_Model_446 hp_v0 ?_
          refine ob_goto d_Model_retrieve_116 ?_
          exact ih v0 (ob_pI D v0 83 ((D.1 v0 83) + (1 : Int32))) hp_v0 h
        · replace h := ob_iff hc h
          refine ob_aload d_Model_retrieve_40 rfl ?_
          obtain ⟨hg6, h⟩ := ob_gd h
          refine ob_getR d_Model_retrieve_41 F_12_77 l_Model_136 hp_v0 hg6 (fun hk5 => ?_)
          refine ob_aload d_Model_retrieve_44 rfl ?_
          refine ob_getI d_Model_retrieve_45 F_12_83 l_Model_446 hp_v0 ?_
          obtain ⟨hg7, h⟩ := ob_gd h
          refine ob_iald d_Model_retrieve_48 hk5 hg7 ?_
          refine ob_aload d_Model_retrieve_49 rfl ?_
          refine ob_getI d_Model_retrieve_50 F_12_82 l_Model_455 hp_v0 ?_
          refine ob_icmp_gt d_Model_retrieve_53 (fun hc => ?_) (fun hc => ?_)
          · replace h := ob_ift hc h
            refine ob_aload d_Model_retrieve_106 rfl ?_
            refine ob_dup d_Model_retrieve_107 rfl ?_
            refine ob_getI d_Model_retrieve_108 F_12_83 l_Model_446 hp_v0 ?_
            refine ob_push d_Model_retrieve_111 ?_
            refine ob_iadd d_Model_retrieve_112 ?_
            replace h := ob_lt_e h
            refine ob_putI d_Model_retrieve_113 F_12_83 l_Model_446 hp_v0 ?_
            refine ob_goto d_Model_retrieve_116 ?_
            exact ih v0 (ob_pI D v0 83 ((D.1 v0 83) + (1 : Int32))) hp_v0 h
          · replace h := ob_iff hc h
            refine ob_push d_Model_retrieve_56 ?_
            refine ob_istore (lo2 := [(0, .ref v0), (1, .int (0 : Int32))]) d_Model_retrieve_57 rfl ?_
            refine ob_push d_Model_retrieve_58 ?_
            refine ob_istore (lo2 := [(0, .ref v0), (1, .int (0 : Int32)), (2, .int (0 : Int32))]) d_Model_retrieve_59 rfl ?_
            exact v_Model_retrieve_L60 ih ob_FU v0 (0 : Int32) (0 : Int32) D hp_v0 h
      · replace h := ob_ift hc h
        refine ob_aload d_Model_retrieve_18 rfl ?_
        refine ob_push d_Model_retrieve_19 ?_
        replace h := ob_lt_e h
        refine ob_putZ d_Model_retrieve_20 F_12_80 l_Model_449 hp_v0 (Or.inl rfl) ?_
        exact ob_ve h (ob_vret d_Model_retrieve_23 rfl)
def f_Model_retrieve (S : ob_S) (v0 : Nat) (D : ob_D) : Option (ob_D) :=
  f_Model_retrieve_L0 S ob_FU v0 D
theorem c_Model_retrieve {l : Launch} {E : ob_E} {S : ob_S} {D : ob_D} {v0 : Nat} {D' : ob_D} (hp_v0 : S.1 v0 = 13) (h : f_Model_retrieve S v0 D = some D') : ob_M l E k_Model_retrieve [.ref v0] S D none S D' := by
  refine ob_ofV (lo := [(0, .ref v0)]) (by decide) rfl (Nat.le_of_ble_eq_true rfl) rfl (Nat.le_refl _) (Nat.le_refl _) ?_
  rw [f_Model_retrieve] at h
  exact v_Model_retrieve_L0 ob_FU v0 D hp_v0 h
-- OrbitBoxModel.empty(II)V
theorem d_Model_empty_0 : ob_dk k_Model_empty 0 1 (0 : Int32) (.iconst 0) 1 := ⟨by decide +kernel, rfl, show Int32.ofInt 0 = (0 : Int32) by decide +kernel⟩
theorem d_Model_empty_136 : ob_dc k_Model_empty 136 (.return_) 1 137 := ⟨by decide +kernel, rfl⟩
theorem d_Model_empty_135 : ob_dc k_Model_empty 135 (.iastore) 1 136 := ⟨by decide +kernel, rfl⟩
theorem d_Model_empty_134 : ob_dc k_Model_empty 134 (.iadd) 1 135 := ⟨by decide +kernel, rfl⟩
theorem d_Model_empty_133 : ob_dv ob_lc k_Model_empty 133 134 2 (.iload_n 2) 1 := ⟨by decide +kernel, rfl, rfl⟩
theorem d_Model_empty_132 : ob_dc k_Model_empty 132 (.iaload) 1 133 := ⟨by decide +kernel, rfl⟩
theorem d_Model_empty_131 : ob_dc k_Model_empty 131 (.dup2) 1 132 := ⟨by decide +kernel, rfl⟩
theorem d_Model_empty_130 : ob_dv ob_lc k_Model_empty 130 131 1 (.iload_n 1) 1 := ⟨by decide +kernel, rfl, rfl⟩
theorem d_Model_empty_127 : ob_dc k_Model_empty 127 (.getfield 149) 3 130 := ⟨by decide +kernel, rfl⟩
theorem d_Model_empty_126 : ob_dv ob_ac k_Model_empty 126 127 0 (.aload_n 0) 1 := ⟨by decide +kernel, rfl, rfl⟩
theorem d_Model_empty_17 : ob_dk k_Model_empty 17 18 (1 : Int32) (.iconst 1) 1 := ⟨by decide +kernel, rfl, show Int32.ofInt 1 = (1 : Int32) by decide +kernel⟩
theorem d_Model_empty_28 : ob_dk k_Model_empty 28 29 (2 : Int32) (.iconst 2) 1 := ⟨by decide +kernel, rfl, show Int32.ofInt 2 = (2 : Int32) by decide +kernel⟩
theorem d_Model_empty_39 : ob_dk k_Model_empty 39 40 (3 : Int32) (.iconst 3) 1 := ⟨by decide +kernel, rfl, show Int32.ofInt 3 = (3 : Int32) by decide +kernel⟩
theorem d_Model_empty_48 : ob_dk k_Model_empty 48 49 (4 : Int32) (.iconst 4) 1 := ⟨by decide +kernel, rfl, show Int32.ofInt 4 = (4 : Int32) by decide +kernel⟩
theorem d_Model_empty_63 : ob_dk k_Model_empty 63 64 (5 : Int32) (.iconst 5) 1 := ⟨by decide +kernel, rfl, show Int32.ofInt 5 = (5 : Int32) by decide +kernel⟩
theorem d_Model_empty_74 : ob_dk k_Model_empty 74 76 (85 : Int32) (.bipush 85) 2 := ⟨by decide +kernel, rfl, show (Int8.ofInt 85).toInt32 = (85 : Int32) by decide +kernel⟩
theorem d_Model_empty_118 : ob_dk k_Model_empty 118 119 (0 : Int32) (.iconst 0) 1 := ⟨by decide +kernel, rfl, show Int32.ofInt 0 = (0 : Int32) by decide +kernel⟩
theorem d_Model_empty_120 : ob_di k_Model_empty 120 123 3 1 (1 : Int32) := ⟨by decide +kernel, rfl, by decide +kernel, by decide +kernel⟩
theorem d_Model_empty_123 : ob_db k_Model_empty 123 (.goto (-121)) (-121) 126 2 := ⟨by decide +kernel, rfl, by decide⟩
theorem d_Model_empty_119 : ob_dc k_Model_empty 119 (.bastore) 1 120 := ⟨by decide +kernel, rfl⟩
theorem d_Model_empty_114 : ob_dk k_Model_empty 114 115 (1 : Int32) (.iconst 1) 1 := ⟨by decide +kernel, rfl, show Int32.ofInt 1 = (1 : Int32) by decide +kernel⟩
theorem d_Model_empty_115 : ob_db k_Model_empty 115 (.goto 4) 4 118 119 := ⟨by decide +kernel, rfl, by decide⟩
theorem d_Model_empty_111 : ob_db k_Model_empty 111 (.ifCond .ne 7) 7 114 118 := ⟨by decide +kernel, rfl, by decide⟩
theorem d_Model_empty_110 : ob_dv ob_lc k_Model_empty 110 111 3 (.iload_n 3) 1 := ⟨by decide +kernel, rfl, rfl⟩
theorem d_Model_empty_109 : ob_dc k_Model_empty 109 (.iadd) 1 110 := ⟨by decide +kernel, rfl⟩
theorem d_Model_empty_108 : ob_dv ob_lc k_Model_empty 108 109 3 (.iload_n 3) 1 := ⟨by decide +kernel, rfl, rfl⟩
theorem d_Model_empty_107 : ob_dc k_Model_empty 107 (.iaload) 1 108 := ⟨by decide +kernel, rfl⟩
theorem d_Model_empty_106 : ob_dv ob_lc k_Model_empty 106 107 1 (.iload_n 1) 1 := ⟨by decide +kernel, rfl, rfl⟩
theorem d_Model_empty_103 : ob_dc k_Model_empty 103 (.getfield 149) 3 106 := ⟨by decide +kernel, rfl⟩
theorem d_Model_empty_102 : ob_dv ob_ac k_Model_empty 102 103 0 (.aload_n 0) 1 := ⟨by decide +kernel, rfl, rfl⟩
theorem d_Model_empty_101 : ob_dc k_Model_empty 101 (.aaload) 1 102 := ⟨by decide +kernel, rfl⟩
theorem d_Model_empty_100 : ob_dv ob_lc k_Model_empty 100 101 1 (.iload_n 1) 1 := ⟨by decide +kernel, rfl, rfl⟩
theorem d_Model_empty_97 : ob_dc k_Model_empty 97 (.getfield 146) 3 100 := ⟨by decide +kernel, rfl⟩
theorem d_Model_empty_96 : ob_dv ob_ac k_Model_empty 96 97 0 (.aload_n 0) 1 := ⟨by decide +kernel, rfl, rfl⟩
theorem d_Model_empty_95 : ob_dc k_Model_empty 95 (.bastore) 1 96 := ⟨by decide +kernel, rfl⟩
theorem d_Model_empty_94 : ob_dc k_Model_empty 94 (.i2b) 1 95 := ⟨by decide +kernel, rfl⟩
theorem d_Model_empty_92 : ob_dv ob_lc k_Model_empty 92 94 4 (.iload 4) 2 := ⟨by decide +kernel, rfl, rfl⟩
theorem d_Model_empty_91 : ob_dc k_Model_empty 91 (.iadd) 1 92 := ⟨by decide +kernel, rfl⟩
theorem d_Model_empty_90 : ob_dv ob_lc k_Model_empty 90 91 3 (.iload_n 3) 1 := ⟨by decide +kernel, rfl, rfl⟩
theorem d_Model_empty_89 : ob_dc k_Model_empty 89 (.iaload) 1 90 := ⟨by decide +kernel, rfl⟩
theorem d_Model_empty_88 : ob_dv ob_lc k_Model_empty 88 89 1 (.iload_n 1) 1 := ⟨by decide +kernel, rfl, rfl⟩
theorem d_Model_empty_85 : ob_dc k_Model_empty 85 (.getfield 149) 3 88 := ⟨by decide +kernel, rfl⟩
theorem d_Model_empty_84 : ob_dv ob_ac k_Model_empty 84 85 0 (.aload_n 0) 1 := ⟨by decide +kernel, rfl, rfl⟩
theorem d_Model_empty_83 : ob_dc k_Model_empty 83 (.aaload) 1 84 := ⟨by decide +kernel, rfl⟩
theorem d_Model_empty_82 : ob_dv ob_lc k_Model_empty 82 83 1 (.iload_n 1) 1 := ⟨by decide +kernel, rfl, rfl⟩
theorem d_Model_empty_79 : ob_dc k_Model_empty 79 (.getfield 141) 3 82 := ⟨by decide +kernel, rfl⟩
theorem d_Model_empty_78 : ob_dv ob_ac k_Model_empty 78 79 0 (.aload_n 0) 1 := ⟨by decide +kernel, rfl, rfl⟩
theorem d_Model_empty_76 : ob_dv (ob_sc k_Model_empty.2.2.2.1) k_Model_empty 76 78 4 (.istore 4) 2 := ⟨by decide +kernel, rfl, ⟨rfl, by decide +kernel⟩⟩
theorem d_Model_empty_68 : ob_dk k_Model_empty 68 70 (7 : Int32) (.bipush 7) 2 := ⟨by decide +kernel, rfl, show (Int8.ofInt 7).toInt32 = (7 : Int32) by decide +kernel⟩
theorem d_Model_empty_71 : ob_db k_Model_empty 71 (.goto 5) 5 74 76 := ⟨by decide +kernel, rfl, by decide⟩
theorem d_Model_empty_70 : ob_dc k_Model_empty 70 (.isub) 1 71 := ⟨by decide +kernel, rfl⟩
theorem d_Model_empty_67 : ob_dv ob_lc k_Model_empty 67 68 2 (.iload_n 2) 1 := ⟨by decide +kernel, rfl, rfl⟩
theorem d_Model_empty_64 : ob_db k_Model_empty 64 (.if_icmp .ne 10) 10 67 74 := ⟨by decide +kernel, rfl, by decide⟩
theorem d_Model_empty_62 : ob_dv ob_lc k_Model_empty 62 63 3 (.iload_n 3) 1 := ⟨by decide +kernel, rfl, rfl⟩
theorem d_Model_empty_53 : ob_dk k_Model_empty 53 55 (7 : Int32) (.bipush 7) 2 := ⟨by decide +kernel, rfl, show (Int8.ofInt 7).toInt32 = (7 : Int32) by decide +kernel⟩
theorem d_Model_empty_56 : ob_dk k_Model_empty 56 58 (8 : Int32) (.bipush 8) 2 := ⟨by decide +kernel, rfl, show (Int8.ofInt 8).toInt32 = (8 : Int32) by decide +kernel⟩
theorem d_Model_empty_59 : ob_db k_Model_empty 59 (.goto 17) 17 62 76 := ⟨by decide +kernel, rfl, by decide⟩
theorem d_Model_empty_58 : ob_dc k_Model_empty 58 (.ishr) 1 59 := ⟨by decide +kernel, rfl⟩
theorem d_Model_empty_55 : ob_dc k_Model_empty 55 (.isub) 1 56 := ⟨by decide +kernel, rfl⟩
theorem d_Model_empty_52 : ob_dv ob_lc k_Model_empty 52 53 2 (.iload_n 2) 1 := ⟨by decide +kernel, rfl, rfl⟩
theorem d_Model_empty_49 : ob_db k_Model_empty 49 (.if_icmp .ne 13) 13 52 62 := ⟨by decide +kernel, rfl, by decide⟩
theorem d_Model_empty_47 : ob_dv ob_lc k_Model_empty 47 48 3 (.iload_n 3) 1 := ⟨by decide +kernel, rfl, rfl⟩
theorem d_Model_empty_43 : ob_dk k_Model_empty 43 44 (0 : Int32) (.iconst 0) 1 := ⟨by decide +kernel, rfl, show Int32.ofInt 0 = (0 : Int32) by decide +kernel⟩
theorem d_Model_empty_44 : ob_db k_Model_empty 44 (.goto 32) 32 47 76 := ⟨by decide +kernel, rfl, by decide⟩
theorem d_Model_empty_40 : ob_db k_Model_empty 40 (.if_icmp .ne 7) 7 43 47 := ⟨by decide +kernel, rfl, by decide⟩
theorem d_Model_empty_38 : ob_dv ob_lc k_Model_empty 38 39 3 (.iload_n 3) 1 := ⟨by decide +kernel, rfl, rfl⟩
theorem d_Model_empty_32 : ob_dk k_Model_empty 32 35 (192 : Int32) (.sipush 192) 3 := ⟨by decide +kernel, rfl, show (Int16.ofInt 192).toInt32 = (192 : Int32) by decide +kernel⟩
theorem d_Model_empty_35 : ob_db k_Model_empty 35 (.goto 41) 41 38 76 := ⟨by decide +kernel, rfl, by decide⟩
theorem d_Model_empty_29 : ob_db k_Model_empty 29 (.if_icmp .ne 9) 9 32 38 := ⟨by decide +kernel, rfl, by decide⟩
theorem d_Model_empty_27 : ob_dv ob_lc k_Model_empty 27 28 3 (.iload_n 3) 1 := ⟨by decide +kernel, rfl, rfl⟩
theorem d_Model_empty_21 : ob_dk k_Model_empty 21 24 (255 : Int32) (.sipush 255) 3 := ⟨by decide +kernel, rfl, show (Int16.ofInt 255).toInt32 = (255 : Int32) by decide +kernel⟩
theorem d_Model_empty_24 : ob_db k_Model_empty 24 (.goto 52) 52 27 76 := ⟨by decide +kernel, rfl, by decide⟩
theorem d_Model_empty_18 : ob_db k_Model_empty 18 (.if_icmp .ne 9) 9 21 27 := ⟨by decide +kernel, rfl, by decide⟩
theorem d_Model_empty_16 : ob_dv ob_lc k_Model_empty 16 17 3 (.iload_n 3) 1 := ⟨by decide +kernel, rfl, rfl⟩
theorem d_Model_empty_11 : ob_dk k_Model_empty 11 13 (7 : Int32) (.bipush 7) 2 := ⟨by decide +kernel, rfl, show (Int8.ofInt 7).toInt32 = (7 : Int32) by decide +kernel⟩
theorem d_Model_empty_13 : ob_db k_Model_empty 13 (.goto 63) 63 16 76 := ⟨by decide +kernel, rfl, by decide⟩
theorem d_Model_empty_8 : ob_db k_Model_empty 8 (.ifCond .ne 8) 8 11 16 := ⟨by decide +kernel, rfl, by decide⟩
theorem d_Model_empty_7 : ob_dv ob_lc k_Model_empty 7 8 3 (.iload_n 3) 1 := ⟨by decide +kernel, rfl, rfl⟩
theorem d_Model_empty_4 : ob_db k_Model_empty 4 (.if_icmp .ge 122) 122 7 126 := ⟨by decide +kernel, rfl, by decide⟩
theorem d_Model_empty_3 : ob_dv ob_lc k_Model_empty 3 4 2 (.iload_n 2) 1 := ⟨by decide +kernel, rfl, rfl⟩
theorem d_Model_empty_2 : ob_dv ob_lc k_Model_empty 2 3 3 (.iload_n 3) 1 := ⟨by decide +kernel, rfl, rfl⟩
theorem d_Model_empty_1 : ob_dv (ob_sc k_Model_empty.2.2.2.1) k_Model_empty 1 2 3 (.istore_n 3) 1 := ⟨by decide +kernel, rfl, ⟨rfl, by decide +kernel⟩⟩
def f_Model_empty_L76 (S : ob_S) (k2 : Nat → Int32 → Int32 → Int32 → ob_D → Option (ob_D)) (v0 : Nat) (v1 : Int32) (v2 : Int32) (v3 : Int32) (s0 : Int32) (D : ob_D) : Option (ob_D) :=
  if D.2.1 v0 84 ≠ 0 then if ob_in v1 (S.2.1 (D.2.1 v0 84)) then if D.2.1 (D.2.1 v0 84) v1.toNatClampNeg ≠ 0 then if D.2.1 v0 86 ≠ 0 then if ob_in v1 (S.2.1 (D.2.1 v0 86)) then if ob_in ((D.1 (D.2.1 v0 86) v1.toNatClampNeg) + v3) (S.2.1 (D.2.1 (D.2.1 v0 84) v1.toNatClampNeg)) then ob_lt (ob_pI D (D.2.1 (D.2.1 v0 84) v1.toNatClampNeg) ((D.1 (D.2.1 v0 86) v1.toNatClampNeg) + v3).toNatClampNeg ((s0.toInt8.toInt32).toInt8.toInt32)) fun D15 => if D15.2.1 v0 85 ≠ 0 then if ob_in v1 (S.2.1 (D15.2.1 v0 85)) then if D15.2.1 (D15.2.1 v0 85) v1.toNatClampNeg ≠ 0 then if D15.2.1 v0 86 ≠ 0 then if ob_in v1 (S.2.1 (D15.2.1 v0 86)) then (if v3 = 0 then if ob_in ((D15.1 (D15.2.1 v0 86) v1.toNatClampNeg) + v3) (S.2.1 (D15.2.1 (D15.2.1 v0 85) v1.toNatClampNeg)) then ob_lt (ob_pI D15 (D15.2.1 (D15.2.1 v0 85) v1.toNatClampNeg) ((D15.1 (D15.2.1 v0 86) v1.toNatClampNeg) + v3).toNatClampNeg ((1 : Int32) &&& 1)) fun D27 => k2 v0 v1 v2 (v3 + (1 : Int32)) D27 else none else if ob_in ((D15.1 (D15.2.1 v0 86) v1.toNatClampNeg) + v3) (S.2.1 (D15.2.1 (D15.2.1 v0 85) v1.toNatClampNeg)) then ob_lt (ob_pI D15 (D15.2.1 (D15.2.1 v0 85) v1.toNatClampNeg) ((D15.1 (D15.2.1 v0 86) v1.toNatClampNeg) + v3).toNatClampNeg ((0 : Int32) &&& 1)) fun D25 => k2 v0 v1 v2 (v3 + (1 : Int32)) D25 else none) else none else none else none else none else none else none else none else none else none else none else none
theorem v_Model_empty_L76 {l : Launch} {E : ob_E} {S : ob_S} {D' : ob_D} {k2 : Nat → Int32 → Int32 → Int32 → ob_D → Option (ob_D)} (hk2 : ∀ (v0 : Nat) (v1 : Int32) (v2 : Int32) (v3 : Int32) (D : ob_D), S.1 v0 = 13 → k2 v0 v1 v2 v3 D = some D' → ob_V l E k_Model_empty 2 [(0, .ref v0), (1, .int v1), (2, .int v2), (3, .int v3)] [] S D none S D') : ∀ (v0 : Nat) (v1 : Int32) (v2 : Int32) (v3 : Int32) (s0 : Int32) (D : ob_D), S.1 v0 = 13 → f_Model_empty_L76 S k2 v0 v1 v2 v3 s0 D = some D' → ob_V l E k_Model_empty 76 [(0, .ref v0), (1, .int v1), (2, .int v2), (3, .int v3)] [.int s0] S D none S D' := by
  intro v0 v1 v2 v3 s0 D hp_v0 h
  rw [f_Model_empty_L76] at h
  refine ob_istore (lo2 := [(0, .ref v0), (1, .int v1), (2, .int v2), (3, .int v3), (4, .int s0)]) d_Model_empty_76 rfl ?_
  refine ob_aload d_Model_empty_78 rfl ?_
  obtain ⟨hg7, h⟩ := ob_gd h
  refine ob_getR d_Model_empty_79 F_12_84 l_Model_141 hp_v0 hg7 (fun hk6 => ?_)
  refine ob_iload d_Model_empty_82 rfl ?_
  obtain ⟨hg8, h⟩ := ob_gd h
  obtain ⟨hz9, h⟩ := ob_gd h
  refine ob_aald (j := 5) (t := 20) d_Model_empty_83 hk6 (by decide) rfl rfl rfl hg8 hz9 rfl (fun hk10 => ?_)
  refine ob_aload d_Model_empty_84 rfl ?_
  obtain ⟨hg12, h⟩ := ob_gd h
  refine ob_getR d_Model_empty_85 F_12_86 l_Model_149 hp_v0 hg12 (fun hk11 => ?_)
  refine ob_iload d_Model_empty_88 rfl ?_
  obtain ⟨hg13, h⟩ := ob_gd h
  refine ob_iald d_Model_empty_89 hk11 hg13 ?_
  refine ob_iload d_Model_empty_90 rfl ?_
  refine ob_iadd d_Model_empty_91 ?_
  refine ob_iload d_Model_empty_92 rfl ?_
  refine ob_i2b d_Model_empty_94 ?_
  obtain ⟨hg14, h⟩ := ob_gd h
  replace h := ob_lt_e h
  refine ob_bast d_Model_empty_95 hk10 hg14 ?_
  refine ob_aload d_Model_empty_96 rfl ?_
  obtain ⟨hg17, h⟩ := ob_gd h
  refine ob_getR d_Model_empty_97 F_12_85 l_Model_146 hp_v0 hg17 (fun hk16 => ?_)
  refine ob_iload d_Model_empty_100 rfl ?_
  obtain ⟨hg18, h⟩ := ob_gd h
  obtain ⟨hz19, h⟩ := ob_gd h
  refine ob_aald (j := 6) (t := 21) d_Model_empty_101 hk16 (by decide) rfl rfl rfl hg18 hz19 rfl (fun hk20 => ?_)
  refine ob_aload d_Model_empty_102 rfl ?_
  obtain ⟨hg22, h⟩ := ob_gd h
  refine ob_getR d_Model_empty_103 F_12_86 l_Model_149 hp_v0 hg22 (fun hk21 => ?_)
  refine ob_iload d_Model_empty_106 rfl ?_
  obtain ⟨hg23, h⟩ := ob_gd h
  refine ob_iald d_Model_empty_107 hk21 hg23 ?_
  refine ob_iload d_Model_empty_108 rfl ?_
  refine ob_iadd d_Model_empty_109 ?_
  refine ob_iload d_Model_empty_110 rfl ?_
  refine ob_if_ne d_Model_empty_111 (fun hc => ?_) (fun hc => ?_)
  · replace h := ob_iff hc h
    refine ob_push d_Model_empty_118 ?_
    obtain ⟨hg24, h⟩ := ob_gd h
    replace h := ob_lt_e h
    refine ob_zast d_Model_empty_119 hk20 hg24 ?_
    refine ob_iinc (lo2 := [(0, .ref v0), (1, .int v1), (2, .int v2), (3, .int (v3 + (1 : Int32))), (4, .int s0)]) d_Model_empty_120 rfl rfl ?_
    refine ob_goto d_Model_empty_123 ?_
    refine ob_sub (lo2 := [(0, .ref v0), (1, .int v1), (2, .int v2), (3, .int (v3 + (1 : Int32)))]) [0, 1, 2, 3] rfl ?_
    exact hk2 v0 v1 v2 (v3 + (1 : Int32)) (ob_pI (ob_pI D (D.2.1 (D.2.1 v0 84) v1.toNatClampNeg) ((D.1 (D.2.1 v0 86) v1.toNatClampNeg) + v3).toNatClampNeg ((s0.toInt8.toInt32).toInt8.toInt32)) ((ob_pI D (D.2.1 (D.2.1 v0 84) v1.toNatClampNeg) ((D.1 (D.2.1 v0 86) v1.toNatClampNeg) + v3).toNatClampNeg ((s0.toInt8.toInt32).toInt8.toInt32)).2.1 ((ob_pI D (D.2.1 (D.2.1 v0 84) v1.toNatClampNeg) ((D.1 (D.2.1 v0 86) v1.toNatClampNeg) + v3).toNatClampNeg ((s0.toInt8.toInt32).toInt8.toInt32)).2.1 v0 85) v1.toNatClampNeg) (((ob_pI D (D.2.1 (D.2.1 v0 84) v1.toNatClampNeg) ((D.1 (D.2.1 v0 86) v1.toNatClampNeg) + v3).toNatClampNeg ((s0.toInt8.toInt32).toInt8.toInt32)).1 ((ob_pI D (D.2.1 (D.2.1 v0 84) v1.toNatClampNeg) ((D.1 (D.2.1 v0 86) v1.toNatClampNeg) + v3).toNatClampNeg ((s0.toInt8.toInt32).toInt8.toInt32)).2.1 v0 86) v1.toNatClampNeg) + v3).toNatClampNeg ((0 : Int32) &&& 1)) hp_v0 h
  · replace h := ob_ift hc h
    refine ob_push d_Model_empty_114 ?_
    refine ob_goto d_Model_empty_115 ?_
    obtain ⟨hg26, h⟩ := ob_gd h
    replace h := ob_lt_e h
    refine ob_zast d_Model_empty_119 hk20 hg26 ?_
    refine ob_iinc (lo2 := [(0, .ref v0), (1, .int v1), (2, .int v2), (3, .int (v3 + (1 : Int32))), (4, .int s0)]) d_Model_empty_120 rfl rfl ?_
    refine ob_goto d_Model_empty_123 ?_
    refine ob_sub (lo2 := [(0, .ref v0), (1, .int v1), (2, .int v2), (3, .int (v3 + (1 : Int32)))]) [0, 1, 2, 3] rfl ?_
    exact hk2 v0 v1 v2 (v3 + (1 : Int32)) (ob_pI (ob_pI D (D.2.1 (D.2.1 v0 84) v1.toNatClampNeg) ((D.1 (D.2.1 v0 86) v1.toNatClampNeg) + v3).toNatClampNeg ((s0.toInt8.toInt32).toInt8.toInt32)) ((ob_pI D (D.2.1 (D.2.1 v0 84) v1.toNatClampNeg) ((D.1 (D.2.1 v0 86) v1.toNatClampNeg) + v3).toNatClampNeg ((s0.toInt8.toInt32).toInt8.toInt32)).2.1 ((ob_pI D (D.2.1 (D.2.1 v0 84) v1.toNatClampNeg) ((D.1 (D.2.1 v0 86) v1.toNatClampNeg) + v3).toNatClampNeg ((s0.toInt8.toInt32).toInt8.toInt32)).2.1 v0 85) v1.toNatClampNeg) (((ob_pI D (D.2.1 (D.2.1 v0 84) v1.toNatClampNeg) ((D.1 (D.2.1 v0 86) v1.toNatClampNeg) + v3).toNatClampNeg ((s0.toInt8.toInt32).toInt8.toInt32)).1 ((ob_pI D (D.2.1 (D.2.1 v0 84) v1.toNatClampNeg) ((D.1 (D.2.1 v0 86) v1.toNatClampNeg) + v3).toNatClampNeg ((s0.toInt8.toInt32).toInt8.toInt32)).2.1 v0 86) v1.toNatClampNeg) + v3).toNatClampNeg ((1 : Int32) &&& 1)) hp_v0 h
def f_Model_empty_L2 (S : ob_S) : Nat → Nat → Int32 → Int32 → Int32 → ob_D → Option (ob_D)
  | 0, _, _, _, _, _ => none
  | n + 1, v0, v1, v2, v3, D => (if v2 ≤ v3 then if D.2.1 v0 86 ≠ 0 then if ob_in v1 (S.2.1 (D.2.1 v0 86)) then if ob_in v1 (S.2.1 (D.2.1 v0 86)) then ob_lt (ob_pI D (D.2.1 v0 86) v1.toNatClampNeg ((D.1 (D.2.1 v0 86) v1.toNatClampNeg) + v2)) fun D5 => some D5 else none else none else none else (if v3 = 0 then f_Model_empty_L76 S (fun a0 a1 a2 a3 d => f_Model_empty_L2 S n a0 a1 a2 a3 d) v0 v1 v2 v3 (7 : Int32) D else (if v3 = (1 : Int32) then f_Model_empty_L76 S (fun a0 a1 a2 a3 d => f_Model_empty_L2 S n a0 a1 a2 a3 d) v0 v1 v2 v3 (255 : Int32) D else (if v3 = (2 : Int32) then f_Model_empty_L76 S (fun a0 a1 a2 a3 d => f_Model_empty_L2 S n a0 a1 a2 a3 d) v0 v1 v2 v3 (192 : Int32) D else (if v3 = (3 : Int32) then f_Model_empty_L76 S (fun a0 a1 a2 a3 d => f_Model_empty_L2 S n a0 a1 a2 a3 d) v0 v1 v2 v3 (0 : Int32) D else (if v3 = (4 : Int32) then f_Model_empty_L76 S (fun a0 a1 a2 a3 d => f_Model_empty_L2 S n a0 a1 a2 a3 d) v0 v1 v2 v3 ((v2 - (7 : Int32)) >>> ((8 : Int32) &&& 31)) D else (if v3 = (5 : Int32) then f_Model_empty_L76 S (fun a0 a1 a2 a3 d => f_Model_empty_L2 S n a0 a1 a2 a3 d) v0 v1 v2 v3 (v2 - (7 : Int32)) D else f_Model_empty_L76 S (fun a0 a1 a2 a3 d => f_Model_empty_L2 S n a0 a1 a2 a3 d) v0 v1 v2 v3 (85 : Int32) D)))))))
theorem v_Model_empty_L2 {l : Launch} {E : ob_E} {S : ob_S} {D' : ob_D} : ∀ (n : Nat), ∀ (v0 : Nat) (v1 : Int32) (v2 : Int32) (v3 : Int32) (D : ob_D), S.1 v0 = 13 → f_Model_empty_L2 S n v0 v1 v2 v3 D = some D' → ob_V l E k_Model_empty 2 [(0, .ref v0), (1, .int v1), (2, .int v2), (3, .int v3)] [] S D none S D' := by
  intro n
  induction n with
  | zero =>
    intro v0 v1 v2 v3 D hp_v0 h
    have h : none = some D' := h
    cases h
  | succ n ih =>
    intro v0 v1 v2 v3 D hp_v0 h
    rw [f_Model_empty_L2] at h
    refine ob_iload d_Model_empty_2 rfl ?_
    refine ob_iload d_Model_empty_3 rfl ?_
    refine ob_icmp_ge d_Model_empty_4 (fun hc => ?_) (fun hc => ?_)
    · replace h := ob_ift hc h
      refine ob_aload d_Model_empty_126 rfl ?_
      obtain ⟨hg2, h⟩ := ob_gd h
      refine ob_getR d_Model_empty_127 F_12_86 l_Model_149 hp_v0 hg2 (fun hk1 => ?_)
      refine ob_iload d_Model_empty_130 rfl ?_
      refine ob_dup2 d_Model_empty_131 rfl rfl ?_
      obtain ⟨hg3, h⟩ := ob_gd h
      refine ob_iald d_Model_empty_132 hk1 hg3 ?_
      refine ob_iload d_Model_empty_133 rfl ?_
      refine ob_iadd d_Model_empty_134 ?_
      obtain ⟨hg4, h⟩ := ob_gd h
      replace h := ob_lt_e h
      refine ob_iast d_Model_empty_135 hk1 hg4 ?_
      exact ob_ve h (ob_vret d_Model_empty_136 rfl)
    · replace h := ob_iff hc h
      refine ob_iload d_Model_empty_7 rfl ?_
      refine ob_if_ne d_Model_empty_8 (fun hc => ?_) (fun hc => ?_)
      · replace h := ob_iff hc h
        refine ob_iload d_Model_empty_16 rfl ?_
        refine ob_push d_Model_empty_17 ?_
        refine ob_icmp_ne d_Model_empty_18 (fun hc => ?_) (fun hc => ?_)
        · replace h := ob_iff hc h
          refine ob_iload d_Model_empty_27 rfl ?_
          refine ob_push d_Model_empty_28 ?_
          refine ob_icmp_ne d_Model_empty_29 (fun hc => ?_) (fun hc => ?_)
          · replace h := ob_iff hc h
            refine ob_iload d_Model_empty_38 rfl ?_
            refine ob_push d_Model_empty_39 ?_
            refine ob_icmp_ne d_Model_empty_40 (fun hc => ?_) (fun hc => ?_)
            · replace h := ob_iff hc h
              refine ob_iload d_Model_empty_47 rfl ?_
              refine ob_push d_Model_empty_48 ?_
              refine ob_icmp_ne d_Model_empty_49 (fun hc => ?_) (fun hc => ?_)
              · replace h := ob_iff hc h
                refine ob_iload d_Model_empty_62 rfl ?_
                refine ob_push d_Model_empty_63 ?_
                refine ob_icmp_ne d_Model_empty_64 (fun hc => ?_) (fun hc => ?_)
                · replace h := ob_iff hc h
                  refine ob_push d_Model_empty_74 ?_
                  exact v_Model_empty_L76 ih v0 v1 v2 v3 (85 : Int32) D hp_v0 h
                · replace h := ob_ift hc h
                  refine ob_iload d_Model_empty_67 rfl ?_
                  refine ob_push d_Model_empty_68 ?_
                  refine ob_isub d_Model_empty_70 ?_
                  refine ob_goto d_Model_empty_71 ?_
                  exact v_Model_empty_L76 ih v0 v1 v2 v3 (v2 - (7 : Int32)) D hp_v0 h
              · replace h := ob_ift hc h
                refine ob_iload d_Model_empty_52 rfl ?_
                refine ob_push d_Model_empty_53 ?_
                refine ob_isub d_Model_empty_55 ?_
                refine ob_push d_Model_empty_56 ?_
                refine ob_ishr d_Model_empty_58 ?_
                refine ob_goto d_Model_empty_59 ?_
                exact v_Model_empty_L76 ih v0 v1 v2 v3 ((v2 - (7 : Int32)) >>> ((8 : Int32) &&& 31)) D hp_v0 h
            · replace h := ob_ift hc h
              refine ob_push d_Model_empty_43 ?_
              refine ob_goto d_Model_empty_44 ?_
              exact v_Model_empty_L76 ih v0 v1 v2 v3 (0 : Int32) D hp_v0 h
          · replace h := ob_ift hc h
            refine ob_push d_Model_empty_32 ?_
            refine ob_goto d_Model_empty_35 ?_
            exact v_Model_empty_L76 ih v0 v1 v2 v3 (192 : Int32) D hp_v0 h
        · replace h := ob_ift hc h
          refine ob_push d_Model_empty_21 ?_
          refine ob_goto d_Model_empty_24 ?_
          exact v_Model_empty_L76 ih v0 v1 v2 v3 (255 : Int32) D hp_v0 h
      · replace h := ob_ift hc h
        refine ob_push d_Model_empty_11 ?_
        refine ob_goto d_Model_empty_13 ?_
        exact v_Model_empty_L76 ih v0 v1 v2 v3 (7 : Int32) D hp_v0 h
def f_Model_empty (S : ob_S) (v0 : Nat) (v1 : Int32) (v2 : Int32) (D : ob_D) : Option (ob_D) :=
  f_Model_empty_L2 S ob_FU v0 v1 v2 (0 : Int32) D
theorem c_Model_empty {l : Launch} {E : ob_E} {S : ob_S} {D : ob_D} {v0 : Nat} {v1 : Int32} {v2 : Int32} {D' : ob_D} (hp_v0 : S.1 v0 = 13) (h : f_Model_empty S v0 v1 v2 D = some D') : ob_M l E k_Model_empty [.ref v0, .int v1, .int v2] S D none S D' := by
  refine ob_ofV (lo := [(0, .ref v0), (1, .int v1), (2, .int v2)]) (by decide) rfl (Nat.le_of_ble_eq_true rfl) rfl (Nat.le_refl _) (Nat.le_refl _) ?_
  rw [f_Model_empty] at h
  refine ob_push d_Model_empty_0 ?_
  refine ob_istore (lo2 := [(0, .ref v0), (1, .int v1), (2, .int v2), (3, .int (0 : Int32))]) d_Model_empty_1 rfl ?_
  exact v_Model_empty_L2 ob_FU v0 v1 v2 (0 : Int32) D hp_v0 h
-- OrbitBoxModel.theWord()I
theorem d_Model_theWord_4 : ob_dk k_Model_theWord 4 5 (3 : Int32) (.iconst 3) 1 := ⟨by decide +kernel, rfl, show Int32.ofInt 3 = (3 : Int32) by decide +kernel⟩
theorem d_Model_theWord_13 : ob_dk k_Model_theWord 13 14 (0 : Int32) (.iconst 0) 1 := ⟨by decide +kernel, rfl, show Int32.ofInt 0 = (0 : Int32) by decide +kernel⟩
theorem d_Model_theWord_26 : ob_dk k_Model_theWord 26 27 (0 : Int32) (.iconst 0) 1 := ⟨by decide +kernel, rfl, show Int32.ofInt 0 = (0 : Int32) by decide +kernel⟩
theorem d_Model_theWord_40 : ob_dk k_Model_theWord 40 41 (0 : Int32) (.iconst 0) 1 := ⟨by decide +kernel, rfl, show Int32.ofInt 0 = (0 : Int32) by decide +kernel⟩
theorem d_Model_theWord_46 : ob_dk k_Model_theWord 46 47 (2 : Int32) (.iconst 2) 1 := ⟨by decide +kernel, rfl, show Int32.ofInt 2 = (2 : Int32) by decide +kernel⟩
theorem d_Model_theWord_54 : ob_dk k_Model_theWord 54 56 (8 : Int32) (.bipush 8) 2 := ⟨by decide +kernel, rfl, show (Int8.ofInt 8).toInt32 = (8 : Int32) by decide +kernel⟩
theorem d_Model_theWord_63 : ob_dc k_Model_theWord 63 (.ireturn) 1 64 := ⟨by decide +kernel, rfl⟩
theorem d_Model_theWord_62 : ob_dc k_Model_theWord 62 (.ior) 1 63 := ⟨by decide +kernel, rfl⟩
theorem d_Model_theWord_59 : ob_dc k_Model_theWord 59 (.getfield 238) 3 62 := ⟨by decide +kernel, rfl⟩
theorem d_Model_theWord_58 : ob_dv ob_ac k_Model_theWord 58 59 0 (.aload_n 0) 1 := ⟨by decide +kernel, rfl, rfl⟩
theorem d_Model_theWord_57 : ob_dc k_Model_theWord 57 (.ior) 1 58 := ⟨by decide +kernel, rfl⟩
theorem d_Model_theWord_56 : ob_dc k_Model_theWord 56 (.ishl) 1 57 := ⟨by decide +kernel, rfl⟩
theorem d_Model_theWord_53 : ob_dv ob_lc k_Model_theWord 53 54 1 (.iload_n 1) 1 := ⟨by decide +kernel, rfl, rfl⟩
theorem d_Model_theWord_50 : ob_dc k_Model_theWord 50 (.ldc_w 467) 3 53 := ⟨by decide +kernel, rfl⟩
theorem d_Model_theWord_49 : ob_dv (ob_sc k_Model_theWord.2.2.2.1) k_Model_theWord 49 50 1 (.istore_n 1) 1 := ⟨by decide +kernel, rfl, ⟨rfl, by decide +kernel⟩⟩
theorem d_Model_theWord_48 : ob_dc k_Model_theWord 48 (.iadd) 1 49 := ⟨by decide +kernel, rfl⟩
theorem d_Model_theWord_47 : ob_dc k_Model_theWord 47 (.imul) 1 48 := ⟨by decide +kernel, rfl⟩
theorem d_Model_theWord_43 : ob_dc k_Model_theWord 43 (.getfield 235) 3 46 := ⟨by decide +kernel, rfl⟩
theorem d_Model_theWord_42 : ob_dv ob_ac k_Model_theWord 42 43 0 (.aload_n 0) 1 := ⟨by decide +kernel, rfl, rfl⟩
theorem d_Model_theWord_41 : ob_dc k_Model_theWord 41 (.iadd) 1 42 := ⟨by decide +kernel, rfl⟩
theorem d_Model_theWord_35 : ob_dk k_Model_theWord 35 37 (8 : Int32) (.bipush 8) 2 := ⟨by decide +kernel, rfl, show (Int8.ofInt 8).toInt32 = (8 : Int32) by decide +kernel⟩
theorem d_Model_theWord_37 : ob_db k_Model_theWord 37 (.goto 4) 4 40 41 := ⟨by decide +kernel, rfl, by decide⟩
theorem d_Model_theWord_32 : ob_db k_Model_theWord 32 (.ifCond .eq 8) 8 35 40 := ⟨by decide +kernel, rfl, by decide⟩
theorem d_Model_theWord_29 : ob_dc k_Model_theWord 29 (.getfield 245) 3 32 := ⟨by decide +kernel, rfl⟩
theorem d_Model_theWord_28 : ob_dv ob_ac k_Model_theWord 28 29 0 (.aload_n 0) 1 := ⟨by decide +kernel, rfl, rfl⟩
theorem d_Model_theWord_27 : ob_dc k_Model_theWord 27 (.iadd) 1 28 := ⟨by decide +kernel, rfl⟩
theorem d_Model_theWord_21 : ob_dk k_Model_theWord 21 23 (16 : Int32) (.bipush 16) 2 := ⟨by decide +kernel, rfl, show (Int8.ofInt 16).toInt32 = (16 : Int32) by decide +kernel⟩
theorem d_Model_theWord_23 : ob_db k_Model_theWord 23 (.goto 4) 4 26 27 := ⟨by decide +kernel, rfl, by decide⟩
theorem d_Model_theWord_18 : ob_db k_Model_theWord 18 (.ifCond .eq 8) 8 21 26 := ⟨by decide +kernel, rfl, by decide⟩
theorem d_Model_theWord_15 : ob_dc k_Model_theWord 15 (.getfield 248) 3 18 := ⟨by decide +kernel, rfl⟩
theorem d_Model_theWord_14 : ob_dv ob_ac k_Model_theWord 14 15 0 (.aload_n 0) 1 := ⟨by decide +kernel, rfl, rfl⟩
theorem d_Model_theWord_8 : ob_dk k_Model_theWord 8 10 (32 : Int32) (.bipush 32) 2 := ⟨by decide +kernel, rfl, show (Int8.ofInt 32).toInt32 = (32 : Int32) by decide +kernel⟩
theorem d_Model_theWord_10 : ob_db k_Model_theWord 10 (.goto 4) 4 13 14 := ⟨by decide +kernel, rfl, by decide⟩
theorem d_Model_theWord_5 : ob_db k_Model_theWord 5 (.if_icmp .ne 8) 8 8 13 := ⟨by decide +kernel, rfl, by decide⟩
theorem d_Model_theWord_1 : ob_dc k_Model_theWord 1 (.getfield 23) 3 4 := ⟨by decide +kernel, rfl⟩
theorem d_Model_theWord_0 : ob_dv ob_ac k_Model_theWord 0 1 0 (.aload_n 0) 1 := ⟨by decide +kernel, rfl, rfl⟩
def f_Model_theWord_L41 (S : ob_S) (v0 : Nat) (s0 : Int32) (s1 : Int32) (D : ob_D) : Option (Int32 × ob_D) :=
  some (((16777216 : Int32) ||| (((s1 + s0) + ((D.1 v0 21) * (2 : Int32))) <<< ((8 : Int32) &&& 31))) ||| (D.1 v0 20), D)
theorem v_Model_theWord_L41 {l : Launch} {E : ob_E} {S : ob_S} {r : Int32} {D' : ob_D} : ∀ (v0 : Nat) (s0 : Int32) (s1 : Int32) (D : ob_D), S.1 v0 = 13 → f_Model_theWord_L41 S v0 s0 s1 D = some (r, D') → ob_V l E k_Model_theWord 41 [(0, .ref v0)] [.int s0, .int s1] S D (some (.int r)) S D' := by
  intro v0 s0 s1 D hp_v0 h
  rw [f_Model_theWord_L41] at h
  refine ob_iadd d_Model_theWord_41 ?_
  refine ob_aload d_Model_theWord_42 rfl ?_
  refine ob_getI d_Model_theWord_43 F_12_21 l_Model_235 hp_v0 ?_
  refine ob_push d_Model_theWord_46 ?_
  refine ob_imul d_Model_theWord_47 ?_
  refine ob_iadd d_Model_theWord_48 ?_
  refine ob_istore (lo2 := [(0, .ref v0), (1, .int ((s1 + s0) + ((D.1 v0 21) * (2 : Int32))))]) d_Model_theWord_49 rfl ?_
  refine ob_ldc (idx := 467) d_Model_theWord_50 (Or.inr ⟨rfl, rfl⟩) w_1620 ?_
  refine ob_iload d_Model_theWord_53 rfl ?_
  refine ob_push d_Model_theWord_54 ?_
  refine ob_ishl d_Model_theWord_56 ?_
  refine ob_ior d_Model_theWord_57 ?_
  refine ob_aload d_Model_theWord_58 rfl ?_
  refine ob_getI d_Model_theWord_59 F_12_20 l_Model_238 hp_v0 ?_
  refine ob_ior d_Model_theWord_62 ?_
  exact ob_ie h (ob_iret d_Model_theWord_63 rfl rfl)
def f_Model_theWord_L14 (S : ob_S) (v0 : Nat) (s0 : Int32) (D : ob_D) : Option (Int32 × ob_D) :=
  (if (D.1 v0 22) = 0 then (if (D.1 v0 23) = 0 then f_Model_theWord_L41 S v0 (0 : Int32) (s0 + (0 : Int32)) D else f_Model_theWord_L41 S v0 (8 : Int32) (s0 + (0 : Int32)) D) else (if (D.1 v0 23) = 0 then f_Model_theWord_L41 S v0 (0 : Int32) (s0 + (16 : Int32)) D else f_Model_theWord_L41 S v0 (8 : Int32) (s0 + (16 : Int32)) D))
theorem v_Model_theWord_L14 {l : Launch} {E : ob_E} {S : ob_S} {r : Int32} {D' : ob_D} : ∀ (v0 : Nat) (s0 : Int32) (D : ob_D), S.1 v0 = 13 → f_Model_theWord_L14 S v0 s0 D = some (r, D') → ob_V l E k_Model_theWord 14 [(0, .ref v0)] [.int s0] S D (some (.int r)) S D' := by
  intro v0 s0 D hp_v0 h
  rw [f_Model_theWord_L14] at h
  refine ob_aload d_Model_theWord_14 rfl ?_
  refine ob_getI d_Model_theWord_15 F_12_22 l_Model_248 hp_v0 ?_
  refine ob_if_eq d_Model_theWord_18 (fun hc => ?_) (fun hc => ?_)
  · replace h := ob_ift hc h
    refine ob_push d_Model_theWord_26 ?_
    refine ob_iadd d_Model_theWord_27 ?_
    refine ob_aload d_Model_theWord_28 rfl ?_
    refine ob_getI d_Model_theWord_29 F_12_23 l_Model_245 hp_v0 ?_
    refine ob_if_eq d_Model_theWord_32 (fun hc => ?_) (fun hc => ?_)
    · replace h := ob_ift hc h
      refine ob_push d_Model_theWord_40 ?_
      exact v_Model_theWord_L41 v0 (0 : Int32) (s0 + (0 : Int32)) D hp_v0 h
    · replace h := ob_iff hc h
      refine ob_push d_Model_theWord_35 ?_
      refine ob_goto d_Model_theWord_37 ?_
      exact v_Model_theWord_L41 v0 (8 : Int32) (s0 + (0 : Int32)) D hp_v0 h
  · replace h := ob_iff hc h
    refine ob_push d_Model_theWord_21 ?_
    refine ob_goto d_Model_theWord_23 ?_
    refine ob_iadd d_Model_theWord_27 ?_
    refine ob_aload d_Model_theWord_28 rfl ?_
    refine ob_getI d_Model_theWord_29 F_12_23 l_Model_245 hp_v0 ?_
    refine ob_if_eq d_Model_theWord_32 (fun hc => ?_) (fun hc => ?_)
    · replace h := ob_ift hc h
      refine ob_push d_Model_theWord_40 ?_
      exact v_Model_theWord_L41 v0 (0 : Int32) (s0 + (16 : Int32)) D hp_v0 h
    · replace h := ob_iff hc h
      refine ob_push d_Model_theWord_35 ?_
      refine ob_goto d_Model_theWord_37 ?_
      exact v_Model_theWord_L41 v0 (8 : Int32) (s0 + (16 : Int32)) D hp_v0 h
def f_Model_theWord (S : ob_S) (v0 : Nat) (D : ob_D) : Option (Int32 × ob_D) :=
  (if (D.1 v0 19) = (3 : Int32) then f_Model_theWord_L14 S v0 (32 : Int32) D else f_Model_theWord_L14 S v0 (0 : Int32) D)
theorem c_Model_theWord {l : Launch} {E : ob_E} {S : ob_S} {D : ob_D} {v0 : Nat} {r : Int32} {D' : ob_D} (hp_v0 : S.1 v0 = 13) (h : f_Model_theWord S v0 D = some (r, D')) : ob_M l E k_Model_theWord [.ref v0] S D (some (.int r)) S D' := by
  refine ob_ofV (lo := [(0, .ref v0)]) (by decide) rfl (Nat.le_of_ble_eq_true rfl) rfl (Nat.le_refl _) (Nat.le_refl _) ?_
  rw [f_Model_theWord] at h
  refine ob_aload d_Model_theWord_0 rfl ?_
  refine ob_getI d_Model_theWord_1 F_12_19 l_Model_23 hp_v0 ?_
  refine ob_push d_Model_theWord_4 ?_
  refine ob_icmp_ne d_Model_theWord_5 (fun hc => ?_) (fun hc => ?_)
  · replace h := ob_iff hc h
    refine ob_push d_Model_theWord_13 ?_
    exact v_Model_theWord_L14 v0 (0 : Int32) D hp_v0 h
  · replace h := ob_ift hc h
    refine ob_push d_Model_theWord_8 ?_
    refine ob_goto d_Model_theWord_10 ?_
    exact v_Model_theWord_L14 v0 (32 : Int32) D hp_v0 h
-- OrbitBoxModel.frame(I)V
theorem d_Model_frame_4 : ob_dk k_Model_frame 4 5 (0 : Int32) (.iconst 0) 1 := ⟨by decide +kernel, rfl, show Int32.ofInt 0 = (0 : Int32) by decide +kernel⟩
theorem d_Model_frame_17 : ob_dk k_Model_frame 17 18 (1 : Int32) (.iconst 1) 1 := ⟨by decide +kernel, rfl, show Int32.ofInt 1 = (1 : Int32) by decide +kernel⟩
theorem d_Model_frame_26 : ob_dk k_Model_frame 26 28 (7 : Int32) (.bipush 7) 2 := ⟨by decide +kernel, rfl, show (Int8.ofInt 7).toInt32 = (7 : Int32) by decide +kernel⟩
theorem d_Model_frame_33 : ob_dk k_Model_frame 33 35 (12 : Int32) (.bipush 12) 2 := ⟨by decide +kernel, rfl, show (Int8.ofInt 12).toInt32 = (12 : Int32) by decide +kernel⟩
theorem d_Model_frame_38 : ob_dk k_Model_frame 38 40 (7 : Int32) (.bipush 7) 2 := ⟨by decide +kernel, rfl, show (Int8.ofInt 7).toInt32 = (7 : Int32) by decide +kernel⟩
theorem d_Model_frame_49 : ob_dk k_Model_frame 49 52 (2047 : Int32) (.sipush 2047) 3 := ⟨by decide +kernel, rfl, show (Int16.ofInt 2047).toInt32 = (2047 : Int32) by decide +kernel⟩
theorem d_Model_frame_55 : ob_dk k_Model_frame 55 57 (7 : Int32) (.bipush 7) 2 := ⟨by decide +kernel, rfl, show (Int8.ofInt 7).toInt32 = (7 : Int32) by decide +kernel⟩
theorem d_Model_frame_102 : ob_dk k_Model_frame 102 103 (1 : Int32) (.iconst 1) 1 := ⟨by decide +kernel, rfl, show Int32.ofInt 1 = (1 : Int32) by decide +kernel⟩
theorem d_Model_frame_139 : ob_dk k_Model_frame 139 142 (5536 : Int32) (.sipush 5536) 3 := ⟨by decide +kernel, rfl, show (Int16.ofInt 5536).toInt32 = (5536 : Int32) by decide +kernel⟩
theorem d_Model_frame_143 : ob_dk k_Model_frame 143 144 (1 : Int32) (.iconst 1) 1 := ⟨by decide +kernel, rfl, show Int32.ofInt 1 = (1 : Int32) by decide +kernel⟩
theorem d_Model_frame_146 : ob_dk k_Model_frame 146 147 (1 : Int32) (.iconst 1) 1 := ⟨by decide +kernel, rfl, show Int32.ofInt 1 = (1 : Int32) by decide +kernel⟩
theorem d_Model_frame_157 : ob_dk k_Model_frame 157 159 (8 : Int32) (.bipush 8) 2 := ⟨by decide +kernel, rfl, show (Int8.ofInt 8).toInt32 = (8 : Int32) by decide +kernel⟩
theorem d_Model_frame_167 : ob_dk k_Model_frame 167 168 (1 : Int32) (.iconst 1) 1 := ⟨by decide +kernel, rfl, show Int32.ofInt 1 = (1 : Int32) by decide +kernel⟩
theorem d_Model_frame_178 : ob_dk k_Model_frame 178 179 (2 : Int32) (.iconst 2) 1 := ⟨by decide +kernel, rfl, show Int32.ofInt 2 = (2 : Int32) by decide +kernel⟩
theorem d_Model_frame_191 : ob_dk k_Model_frame 191 192 (3 : Int32) (.iconst 3) 1 := ⟨by decide +kernel, rfl, show Int32.ofInt 3 = (3 : Int32) by decide +kernel⟩
theorem d_Model_frame_206 : ob_dk k_Model_frame 206 207 (4 : Int32) (.iconst 4) 1 := ⟨by decide +kernel, rfl, show Int32.ofInt 4 = (4 : Int32) by decide +kernel⟩
theorem d_Model_frame_208 : ob_dk k_Model_frame 208 210 (24 : Int32) (.bipush 24) 2 := ⟨by decide +kernel, rfl, show (Int8.ofInt 24).toInt32 = (24 : Int32) by decide +kernel⟩
theorem d_Model_frame_212 : ob_dk k_Model_frame 212 214 (8 : Int32) (.bipush 8) 2 := ⟨by decide +kernel, rfl, show (Int8.ofInt 8).toInt32 = (8 : Int32) by decide +kernel⟩
theorem d_Model_frame_223 : ob_dk k_Model_frame 223 224 (5 : Int32) (.iconst 5) 1 := ⟨by decide +kernel, rfl, show Int32.ofInt 5 = (5 : Int32) by decide +kernel⟩
theorem d_Model_frame_229 : ob_dk k_Model_frame 229 230 (0 : Int32) (.iconst 0) 1 := ⟨by decide +kernel, rfl, show Int32.ofInt 0 = (0 : Int32) by decide +kernel⟩
theorem d_Model_frame_277 : ob_dk k_Model_frame 277 279 (7 : Int32) (.bipush 7) 2 := ⟨by decide +kernel, rfl, show (Int8.ofInt 7).toInt32 = (7 : Int32) by decide +kernel⟩
theorem d_Model_frame_338 : ob_dk k_Model_frame 338 339 (0 : Int32) (.iconst 0) 1 := ⟨by decide +kernel, rfl, show Int32.ofInt 0 = (0 : Int32) by decide +kernel⟩
theorem d_Model_frame_343 : ob_dk k_Model_frame 343 344 (4 : Int32) (.iconst 4) 1 := ⟨by decide +kernel, rfl, show Int32.ofInt 4 = (4 : Int32) by decide +kernel⟩
theorem d_Model_frame_390 : ob_dk k_Model_frame 390 391 (2 : Int32) (.iconst 2) 1 := ⟨by decide +kernel, rfl, show Int32.ofInt 2 = (2 : Int32) by decide +kernel⟩
theorem d_Model_frame_407 : ob_dk k_Model_frame 407 408 (2 : Int32) (.iconst 2) 1 := ⟨by decide +kernel, rfl, show Int32.ofInt 2 = (2 : Int32) by decide +kernel⟩
theorem d_Model_frame_411 : ob_dk k_Model_frame 411 413 (8 : Int32) (.bipush 8) 2 := ⟨by decide +kernel, rfl, show (Int8.ofInt 8).toInt32 = (8 : Int32) by decide +kernel⟩
theorem d_Model_frame_426 : ob_dk k_Model_frame 426 427 (1 : Int32) (.iconst 1) 1 := ⟨by decide +kernel, rfl, show Int32.ofInt 1 = (1 : Int32) by decide +kernel⟩
theorem d_Model_frame_437 : ob_dk k_Model_frame 437 438 (1 : Int32) (.iconst 1) 1 := ⟨by decide +kernel, rfl, show Int32.ofInt 1 = (1 : Int32) by decide +kernel⟩
theorem d_Model_frame_439 : ob_dk k_Model_frame 439 442 (256 : Int32) (.sipush 256) 3 := ⟨by decide +kernel, rfl, show (Int16.ofInt 256).toInt32 = (256 : Int32) by decide +kernel⟩
theorem d_Model_frame_457 : ob_dk k_Model_frame 457 458 (1 : Int32) (.iconst 1) 1 := ⟨by decide +kernel, rfl, show Int32.ofInt 1 = (1 : Int32) by decide +kernel⟩
theorem d_Model_frame_459 : ob_dk k_Model_frame 459 462 (256 : Int32) (.sipush 256) 3 := ⟨by decide +kernel, rfl, show (Int16.ofInt 256).toInt32 = (256 : Int32) by decide +kernel⟩
theorem d_Model_frame_464 : ob_dc k_Model_frame 464 (.return_) 1 465 := ⟨by decide +kernel, rfl⟩
theorem d_Model_frame_463 : ob_dc k_Model_frame 463 (.iastore) 1 464 := ⟨by decide +kernel, rfl⟩
theorem d_Model_frame_462 : ob_dc k_Model_frame 462 (.irem) 1 463 := ⟨by decide +kernel, rfl⟩
theorem d_Model_frame_458 : ob_dc k_Model_frame 458 (.iadd) 1 459 := ⟨by decide +kernel, rfl⟩
theorem d_Model_frame_456 : ob_dc k_Model_frame 456 (.iaload) 1 457 := ⟨by decide +kernel, rfl⟩
theorem d_Model_frame_455 : ob_dv ob_lc k_Model_frame 455 456 2 (.iload_n 2) 1 := ⟨by decide +kernel, rfl, rfl⟩
theorem d_Model_frame_452 : ob_dc k_Model_frame 452 (.getfield 155) 3 455 := ⟨by decide +kernel, rfl⟩
theorem d_Model_frame_451 : ob_dv ob_ac k_Model_frame 451 452 0 (.aload_n 0) 1 := ⟨by decide +kernel, rfl, rfl⟩
theorem d_Model_frame_450 : ob_dv ob_lc k_Model_frame 450 451 2 (.iload_n 2) 1 := ⟨by decide +kernel, rfl, rfl⟩
theorem d_Model_frame_447 : ob_dc k_Model_frame 447 (.getfield 155) 3 450 := ⟨by decide +kernel, rfl⟩
theorem d_Model_frame_446 : ob_dv ob_ac k_Model_frame 446 447 0 (.aload_n 0) 1 := ⟨by decide +kernel, rfl, rfl⟩
theorem d_Model_frame_443 : ob_dc k_Model_frame 443 (.putfield 461) 3 446 := ⟨by decide +kernel, rfl⟩
theorem d_Model_frame_442 : ob_dc k_Model_frame 442 (.irem) 1 443 := ⟨by decide +kernel, rfl⟩
theorem d_Model_frame_438 : ob_dc k_Model_frame 438 (.iadd) 1 439 := ⟨by decide +kernel, rfl⟩
theorem d_Model_frame_434 : ob_dc k_Model_frame 434 (.getfield 461) 3 437 := ⟨by decide +kernel, rfl⟩
theorem d_Model_frame_433 : ob_dv ob_ac k_Model_frame 433 434 0 (.aload_n 0) 1 := ⟨by decide +kernel, rfl, rfl⟩
theorem d_Model_frame_432 : ob_dv ob_ac k_Model_frame 432 433 0 (.aload_n 0) 1 := ⟨by decide +kernel, rfl, rfl⟩
theorem d_Model_frame_431 : ob_dc k_Model_frame 431 (.bastore) 1 432 := ⟨by decide +kernel, rfl⟩
theorem d_Model_frame_430 : ob_dc k_Model_frame 430 (.i2b) 1 431 := ⟨by decide +kernel, rfl⟩
theorem d_Model_frame_428 : ob_dv ob_lc k_Model_frame 428 430 6 (.iload 6) 2 := ⟨by decide +kernel, rfl, rfl⟩
theorem d_Model_frame_427 : ob_dc k_Model_frame 427 (.isub) 1 428 := ⟨by decide +kernel, rfl⟩
theorem d_Model_frame_425 : ob_dc k_Model_frame 425 (.iadd) 1 426 := ⟨by decide +kernel, rfl⟩
theorem d_Model_frame_422 : ob_dc k_Model_frame 422 (.getfield 165) 3 425 := ⟨by decide +kernel, rfl⟩
theorem d_Model_frame_421 : ob_dv ob_ac k_Model_frame 421 422 0 (.aload_n 0) 1 := ⟨by decide +kernel, rfl, rfl⟩
theorem d_Model_frame_420 : ob_dv ob_lc k_Model_frame 420 421 1 (.iload_n 1) 1 := ⟨by decide +kernel, rfl, rfl⟩
theorem d_Model_frame_417 : ob_dc k_Model_frame 417 (.getfield 152) 3 420 := ⟨by decide +kernel, rfl⟩
theorem d_Model_frame_416 : ob_dv ob_ac k_Model_frame 416 417 0 (.aload_n 0) 1 := ⟨by decide +kernel, rfl, rfl⟩
theorem d_Model_frame_415 : ob_dc k_Model_frame 415 (.bastore) 1 416 := ⟨by decide +kernel, rfl⟩
theorem d_Model_frame_414 : ob_dc k_Model_frame 414 (.i2b) 1 415 := ⟨by decide +kernel, rfl⟩
theorem d_Model_frame_413 : ob_dc k_Model_frame 413 (.ishr) 1 414 := ⟨by decide +kernel, rfl⟩
theorem d_Model_frame_409 : ob_dv ob_lc k_Model_frame 409 411 6 (.iload 6) 2 := ⟨by decide +kernel, rfl, rfl⟩
theorem d_Model_frame_408 : ob_dc k_Model_frame 408 (.isub) 1 409 := ⟨by decide +kernel, rfl⟩
theorem d_Model_frame_406 : ob_dc k_Model_frame 406 (.iadd) 1 407 := ⟨by decide +kernel, rfl⟩
theorem d_Model_frame_403 : ob_dc k_Model_frame 403 (.getfield 165) 3 406 := ⟨by decide +kernel, rfl⟩
theorem d_Model_frame_402 : ob_dv ob_ac k_Model_frame 402 403 0 (.aload_n 0) 1 := ⟨by decide +kernel, rfl, rfl⟩
theorem d_Model_frame_401 : ob_dv ob_lc k_Model_frame 401 402 1 (.iload_n 1) 1 := ⟨by decide +kernel, rfl, rfl⟩
theorem d_Model_frame_398 : ob_dc k_Model_frame 398 (.getfield 152) 3 401 := ⟨by decide +kernel, rfl⟩
theorem d_Model_frame_397 : ob_dv ob_ac k_Model_frame 397 398 0 (.aload_n 0) 1 := ⟨by decide +kernel, rfl, rfl⟩
theorem d_Model_frame_395 : ob_dv (ob_sc k_Model_frame.2.2.2.1) k_Model_frame 395 397 6 (.istore 6) 2 := ⟨by decide +kernel, rfl, ⟨rfl, by decide +kernel⟩⟩
theorem d_Model_frame_392 : ob_dc k_Model_frame 392 (.invokestatic 214) 3 395 := ⟨by decide +kernel, rfl⟩
theorem d_Model_frame_391 : ob_dc k_Model_frame 391 (.isub) 1 392 := ⟨by decide +kernel, rfl⟩
theorem d_Model_frame_387 : ob_dc k_Model_frame 387 (.getfield 165) 3 390 := ⟨by decide +kernel, rfl⟩
theorem d_Model_frame_386 : ob_dv ob_ac k_Model_frame 386 387 0 (.aload_n 0) 1 := ⟨by decide +kernel, rfl, rfl⟩
theorem d_Model_frame_385 : ob_dv ob_lc k_Model_frame 385 386 1 (.iload_n 1) 1 := ⟨by decide +kernel, rfl, rfl⟩
theorem d_Model_frame_382 : ob_dc k_Model_frame 382 (.getfield 152) 3 385 := ⟨by decide +kernel, rfl⟩
theorem d_Model_frame_381 : ob_dv ob_ac k_Model_frame 381 382 0 (.aload_n 0) 1 := ⟨by decide +kernel, rfl, rfl⟩
theorem d_Model_frame_352 : ob_dk k_Model_frame 352 354 (6 : Int32) (.bipush 6) 2 := ⟨by decide +kernel, rfl, show (Int8.ofInt 6).toInt32 = (6 : Int32) by decide +kernel⟩
theorem d_Model_frame_364 : ob_dk k_Model_frame 364 366 (24 : Int32) (.bipush 24) 2 := ⟨by decide +kernel, rfl, show (Int8.ofInt 24).toInt32 = (24 : Int32) by decide +kernel⟩
theorem d_Model_frame_366 : ob_dk k_Model_frame 366 368 (8 : Int32) (.bipush 8) 2 := ⟨by decide +kernel, rfl, show (Int8.ofInt 8).toInt32 = (8 : Int32) by decide +kernel⟩
theorem d_Model_frame_375 : ob_di k_Model_frame 375 378 6 1 (1 : Int32) := ⟨by decide +kernel, rfl, by decide +kernel, by decide +kernel⟩
theorem d_Model_frame_378 : ob_db k_Model_frame 378 (.goto (-37)) (-37) 381 341 := ⟨by decide +kernel, rfl, by decide⟩
theorem d_Model_frame_374 : ob_dc k_Model_frame 374 (.bastore) 1 375 := ⟨by decide +kernel, rfl⟩
theorem d_Model_frame_373 : ob_dc k_Model_frame 373 (.i2b) 1 374 := ⟨by decide +kernel, rfl⟩
theorem d_Model_frame_372 : ob_dc k_Model_frame 372 (.ishr) 1 373 := ⟨by decide +kernel, rfl⟩
theorem d_Model_frame_371 : ob_dc k_Model_frame 371 (.isub) 1 372 := ⟨by decide +kernel, rfl⟩
theorem d_Model_frame_370 : ob_dc k_Model_frame 370 (.imul) 1 371 := ⟨by decide +kernel, rfl⟩
theorem d_Model_frame_368 : ob_dv ob_lc k_Model_frame 368 370 6 (.iload 6) 2 := ⟨by decide +kernel, rfl, rfl⟩
theorem d_Model_frame_361 : ob_dc k_Model_frame 361 (.invokevirtual 464) 3 364 := ⟨by decide +kernel, rfl⟩
theorem d_Model_frame_360 : ob_dv ob_ac k_Model_frame 360 361 0 (.aload_n 0) 1 := ⟨by decide +kernel, rfl, rfl⟩
theorem d_Model_frame_359 : ob_dc k_Model_frame 359 (.iadd) 1 360 := ⟨by decide +kernel, rfl⟩
theorem d_Model_frame_357 : ob_dv ob_lc k_Model_frame 357 359 6 (.iload 6) 2 := ⟨by decide +kernel, rfl, rfl⟩
theorem d_Model_frame_356 : ob_dc k_Model_frame 356 (.iadd) 1 357 := ⟨by decide +kernel, rfl⟩
theorem d_Model_frame_355 : ob_dv ob_lc k_Model_frame 355 356 3 (.iload_n 3) 1 := ⟨by decide +kernel, rfl, rfl⟩
theorem d_Model_frame_354 : ob_dc k_Model_frame 354 (.iadd) 1 355 := ⟨by decide +kernel, rfl⟩
theorem d_Model_frame_351 : ob_dv ob_lc k_Model_frame 351 352 1 (.iload_n 1) 1 := ⟨by decide +kernel, rfl, rfl⟩
theorem d_Model_frame_348 : ob_dc k_Model_frame 348 (.getfield 152) 3 351 := ⟨by decide +kernel, rfl⟩
theorem d_Model_frame_347 : ob_dv ob_ac k_Model_frame 347 348 0 (.aload_n 0) 1 := ⟨by decide +kernel, rfl, rfl⟩
theorem d_Model_frame_344 : ob_db k_Model_frame 344 (.if_icmp .ge 37) 37 347 381 := ⟨by decide +kernel, rfl, by decide⟩
theorem d_Model_frame_341 : ob_dv ob_lc k_Model_frame 341 343 6 (.iload 6) 2 := ⟨by decide +kernel, rfl, rfl⟩
theorem d_Model_frame_339 : ob_dv (ob_sc k_Model_frame.2.2.2.1) k_Model_frame 339 341 6 (.istore 6) 2 := ⟨by decide +kernel, rfl, ⟨rfl, by decide +kernel⟩⟩
theorem d_Model_frame_305 : ob_dk k_Model_frame 305 306 (0 : Int32) (.iconst 0) 1 := ⟨by decide +kernel, rfl, show Int32.ofInt 0 = (0 : Int32) by decide +kernel⟩
theorem d_Model_frame_328 : ob_dk k_Model_frame 328 329 (0 : Int32) (.iconst 0) 1 := ⟨by decide +kernel, rfl, show Int32.ofInt 0 = (0 : Int32) by decide +kernel⟩
theorem d_Model_frame_335 : ob_dc k_Model_frame 335 (.invokestatic 437) 3 338 := ⟨by decide +kernel, rfl⟩
theorem d_Model_frame_334 : ob_dc k_Model_frame 334 (.iaload) 1 335 := ⟨by decide +kernel, rfl⟩
theorem d_Model_frame_333 : ob_dv ob_lc k_Model_frame 333 334 2 (.iload_n 2) 1 := ⟨by decide +kernel, rfl, rfl⟩
theorem d_Model_frame_330 : ob_dc k_Model_frame 330 (.getfield 149) 3 333 := ⟨by decide +kernel, rfl⟩
theorem d_Model_frame_329 : ob_dv ob_ac k_Model_frame 329 330 0 (.aload_n 0) 1 := ⟨by decide +kernel, rfl, rfl⟩
theorem d_Model_frame_327 : ob_dc k_Model_frame 327 (.aaload) 1 328 := ⟨by decide +kernel, rfl⟩
theorem d_Model_frame_326 : ob_dv ob_lc k_Model_frame 326 327 2 (.iload_n 2) 1 := ⟨by decide +kernel, rfl, rfl⟩
theorem d_Model_frame_323 : ob_dc k_Model_frame 323 (.getfield 146) 3 326 := ⟨by decide +kernel, rfl⟩
theorem d_Model_frame_322 : ob_dv ob_ac k_Model_frame 322 323 0 (.aload_n 0) 1 := ⟨by decide +kernel, rfl, rfl⟩
theorem d_Model_frame_321 : ob_dv ob_lc k_Model_frame 321 322 3 (.iload_n 3) 1 := ⟨by decide +kernel, rfl, rfl⟩
theorem d_Model_frame_320 : ob_dc k_Model_frame 320 (.aaload) 1 321 := ⟨by decide +kernel, rfl⟩
theorem d_Model_frame_319 : ob_dv ob_lc k_Model_frame 319 320 2 (.iload_n 2) 1 := ⟨by decide +kernel, rfl, rfl⟩
theorem d_Model_frame_316 : ob_dc k_Model_frame 316 (.getfield 146) 3 319 := ⟨by decide +kernel, rfl⟩
theorem d_Model_frame_315 : ob_dv ob_ac k_Model_frame 315 316 0 (.aload_n 0) 1 := ⟨by decide +kernel, rfl, rfl⟩
theorem d_Model_frame_312 : ob_dc k_Model_frame 312 (.invokestatic 437) 3 315 := ⟨by decide +kernel, rfl⟩
theorem d_Model_frame_311 : ob_dc k_Model_frame 311 (.iaload) 1 312 := ⟨by decide +kernel, rfl⟩
theorem d_Model_frame_310 : ob_dv ob_lc k_Model_frame 310 311 2 (.iload_n 2) 1 := ⟨by decide +kernel, rfl, rfl⟩
theorem d_Model_frame_307 : ob_dc k_Model_frame 307 (.getfield 149) 3 310 := ⟨by decide +kernel, rfl⟩
theorem d_Model_frame_306 : ob_dv ob_ac k_Model_frame 306 307 0 (.aload_n 0) 1 := ⟨by decide +kernel, rfl, rfl⟩
theorem d_Model_frame_304 : ob_dc k_Model_frame 304 (.aaload) 1 305 := ⟨by decide +kernel, rfl⟩
theorem d_Model_frame_303 : ob_dv ob_lc k_Model_frame 303 304 2 (.iload_n 2) 1 := ⟨by decide +kernel, rfl, rfl⟩
theorem d_Model_frame_300 : ob_dc k_Model_frame 300 (.getfield 141) 3 303 := ⟨by decide +kernel, rfl⟩
theorem d_Model_frame_299 : ob_dv ob_ac k_Model_frame 299 300 0 (.aload_n 0) 1 := ⟨by decide +kernel, rfl, rfl⟩
theorem d_Model_frame_298 : ob_dv ob_lc k_Model_frame 298 299 3 (.iload_n 3) 1 := ⟨by decide +kernel, rfl, rfl⟩
theorem d_Model_frame_297 : ob_dc k_Model_frame 297 (.aaload) 1 298 := ⟨by decide +kernel, rfl⟩
theorem d_Model_frame_296 : ob_dv ob_lc k_Model_frame 296 297 2 (.iload_n 2) 1 := ⟨by decide +kernel, rfl, rfl⟩
theorem d_Model_frame_293 : ob_dc k_Model_frame 293 (.getfield 141) 3 296 := ⟨by decide +kernel, rfl⟩
theorem d_Model_frame_292 : ob_dv ob_ac k_Model_frame 292 293 0 (.aload_n 0) 1 := ⟨by decide +kernel, rfl, rfl⟩
theorem d_Model_frame_291 : ob_dc k_Model_frame 291 (.iastore) 1 292 := ⟨by decide +kernel, rfl⟩
theorem d_Model_frame_290 : ob_dc k_Model_frame 290 (.isub) 1 291 := ⟨by decide +kernel, rfl⟩
theorem d_Model_frame_289 : ob_dv ob_lc k_Model_frame 289 290 3 (.iload_n 3) 1 := ⟨by decide +kernel, rfl, rfl⟩
theorem d_Model_frame_288 : ob_dc k_Model_frame 288 (.iaload) 1 289 := ⟨by decide +kernel, rfl⟩
theorem d_Model_frame_287 : ob_dc k_Model_frame 287 (.dup2) 1 288 := ⟨by decide +kernel, rfl⟩
theorem d_Model_frame_286 : ob_dv ob_lc k_Model_frame 286 287 2 (.iload_n 2) 1 := ⟨by decide +kernel, rfl, rfl⟩
theorem d_Model_frame_283 : ob_dc k_Model_frame 283 (.getfield 149) 3 286 := ⟨by decide +kernel, rfl⟩
theorem d_Model_frame_282 : ob_dv ob_ac k_Model_frame 282 283 0 (.aload_n 0) 1 := ⟨by decide +kernel, rfl, rfl⟩
theorem d_Model_frame_279 : ob_db k_Model_frame 279 (.if_icmp .ge 59) 59 282 338 := ⟨by decide +kernel, rfl, by decide⟩
theorem d_Model_frame_276 : ob_dv ob_lc k_Model_frame 276 277 2 (.iload_n 2) 1 := ⟨by decide +kernel, rfl, rfl⟩
theorem d_Model_frame_243 : ob_dk k_Model_frame 243 245 (6 : Int32) (.bipush 6) 2 := ⟨by decide +kernel, rfl, show (Int8.ofInt 6).toInt32 = (6 : Int32) by decide +kernel⟩
theorem d_Model_frame_250 : ob_dk k_Model_frame 250 252 (7 : Int32) (.bipush 7) 2 := ⟨by decide +kernel, rfl, show (Int8.ofInt 7).toInt32 = (7 : Int32) by decide +kernel⟩
theorem d_Model_frame_270 : ob_di k_Model_frame 270 273 6 1 (1 : Int32) := ⟨by decide +kernel, rfl, by decide +kernel, by decide +kernel⟩
theorem d_Model_frame_273 : ob_db k_Model_frame 273 (.goto (-41)) (-41) 276 232 := ⟨by decide +kernel, rfl, by decide⟩
theorem d_Model_frame_269 : ob_dc k_Model_frame 269 (.bastore) 1 270 := ⟨by decide +kernel, rfl⟩
theorem d_Model_frame_268 : ob_dc k_Model_frame 268 (.baload) 1 269 := ⟨by decide +kernel, rfl⟩
theorem d_Model_frame_266 : ob_dv ob_lc k_Model_frame 266 268 6 (.iload 6) 2 := ⟨by decide +kernel, rfl, rfl⟩
theorem d_Model_frame_265 : ob_dc k_Model_frame 265 (.aaload) 1 266 := ⟨by decide +kernel, rfl⟩
theorem d_Model_frame_264 : ob_dv ob_lc k_Model_frame 264 265 2 (.iload_n 2) 1 := ⟨by decide +kernel, rfl, rfl⟩
theorem d_Model_frame_261 : ob_dc k_Model_frame 261 (.getfield 141) 3 264 := ⟨by decide +kernel, rfl⟩
theorem d_Model_frame_260 : ob_dv ob_ac k_Model_frame 260 261 0 (.aload_n 0) 1 := ⟨by decide +kernel, rfl, rfl⟩
theorem d_Model_frame_255 : ob_dk k_Model_frame 255 257 (85 : Int32) (.bipush 85) 2 := ⟨by decide +kernel, rfl, show (Int8.ofInt 85).toInt32 = (85 : Int32) by decide +kernel⟩
theorem d_Model_frame_257 : ob_db k_Model_frame 257 (.goto 12) 12 260 269 := ⟨by decide +kernel, rfl, by decide⟩
theorem d_Model_frame_252 : ob_db k_Model_frame 252 (.if_icmp .ne 8) 8 255 260 := ⟨by decide +kernel, rfl, by decide⟩
theorem d_Model_frame_249 : ob_dv ob_lc k_Model_frame 249 250 2 (.iload_n 2) 1 := ⟨by decide +kernel, rfl, rfl⟩
theorem d_Model_frame_248 : ob_dc k_Model_frame 248 (.iadd) 1 249 := ⟨by decide +kernel, rfl⟩
theorem d_Model_frame_246 : ob_dv ob_lc k_Model_frame 246 248 6 (.iload 6) 2 := ⟨by decide +kernel, rfl, rfl⟩
theorem d_Model_frame_245 : ob_dc k_Model_frame 245 (.iadd) 1 246 := ⟨by decide +kernel, rfl⟩
theorem d_Model_frame_242 : ob_dv ob_lc k_Model_frame 242 243 1 (.iload_n 1) 1 := ⟨by decide +kernel, rfl, rfl⟩
theorem d_Model_frame_239 : ob_dc k_Model_frame 239 (.getfield 152) 3 242 := ⟨by decide +kernel, rfl⟩
theorem d_Model_frame_238 : ob_dv ob_ac k_Model_frame 238 239 0 (.aload_n 0) 1 := ⟨by decide +kernel, rfl, rfl⟩
theorem d_Model_frame_235 : ob_db k_Model_frame 235 (.if_icmp .ge 41) 41 238 276 := ⟨by decide +kernel, rfl, by decide⟩
theorem d_Model_frame_234 : ob_dv ob_lc k_Model_frame 234 235 3 (.iload_n 3) 1 := ⟨by decide +kernel, rfl, rfl⟩
theorem d_Model_frame_232 : ob_dv ob_lc k_Model_frame 232 234 6 (.iload 6) 2 := ⟨by decide +kernel, rfl, rfl⟩
theorem d_Model_frame_230 : ob_dv (ob_sc k_Model_frame.2.2.2.1) k_Model_frame 230 232 6 (.istore 6) 2 := ⟨by decide +kernel, rfl, ⟨rfl, by decide +kernel⟩⟩
theorem d_Model_frame_228 : ob_dc k_Model_frame 228 (.bastore) 1 229 := ⟨by decide +kernel, rfl⟩
theorem d_Model_frame_227 : ob_dc k_Model_frame 227 (.i2b) 1 228 := ⟨by decide +kernel, rfl⟩
theorem d_Model_frame_225 : ob_dv ob_lc k_Model_frame 225 227 4 (.iload 4) 2 := ⟨by decide +kernel, rfl, rfl⟩
theorem d_Model_frame_224 : ob_dc k_Model_frame 224 (.iadd) 1 225 := ⟨by decide +kernel, rfl⟩
theorem d_Model_frame_222 : ob_dv ob_lc k_Model_frame 222 223 1 (.iload_n 1) 1 := ⟨by decide +kernel, rfl, rfl⟩
theorem d_Model_frame_219 : ob_dc k_Model_frame 219 (.getfield 152) 3 222 := ⟨by decide +kernel, rfl⟩
theorem d_Model_frame_218 : ob_dv ob_ac k_Model_frame 218 219 0 (.aload_n 0) 1 := ⟨by decide +kernel, rfl, rfl⟩
theorem d_Model_frame_217 : ob_dc k_Model_frame 217 (.bastore) 1 218 := ⟨by decide +kernel, rfl⟩
theorem d_Model_frame_216 : ob_dc k_Model_frame 216 (.i2b) 1 217 := ⟨by decide +kernel, rfl⟩
theorem d_Model_frame_215 : ob_dc k_Model_frame 215 (.ior) 1 216 := ⟨by decide +kernel, rfl⟩
theorem d_Model_frame_214 : ob_dc k_Model_frame 214 (.ishr) 1 215 := ⟨by decide +kernel, rfl⟩
theorem d_Model_frame_210 : ob_dv ob_lc k_Model_frame 210 212 4 (.iload 4) 2 := ⟨by decide +kernel, rfl, rfl⟩
theorem d_Model_frame_207 : ob_dc k_Model_frame 207 (.iadd) 1 208 := ⟨by decide +kernel, rfl⟩
theorem d_Model_frame_205 : ob_dv ob_lc k_Model_frame 205 206 1 (.iload_n 1) 1 := ⟨by decide +kernel, rfl, rfl⟩
theorem d_Model_frame_202 : ob_dc k_Model_frame 202 (.getfield 152) 3 205 := ⟨by decide +kernel, rfl⟩
theorem d_Model_frame_201 : ob_dv ob_ac k_Model_frame 201 202 0 (.aload_n 0) 1 := ⟨by decide +kernel, rfl, rfl⟩
theorem d_Model_frame_200 : ob_dc k_Model_frame 200 (.bastore) 1 201 := ⟨by decide +kernel, rfl⟩
theorem d_Model_frame_199 : ob_dc k_Model_frame 199 (.i2b) 1 200 := ⟨by decide +kernel, rfl⟩
theorem d_Model_frame_198 : ob_dc k_Model_frame 198 (.iaload) 1 199 := ⟨by decide +kernel, rfl⟩
theorem d_Model_frame_197 : ob_dv ob_lc k_Model_frame 197 198 2 (.iload_n 2) 1 := ⟨by decide +kernel, rfl, rfl⟩
theorem d_Model_frame_194 : ob_dc k_Model_frame 194 (.getfield 155) 3 197 := ⟨by decide +kernel, rfl⟩
theorem d_Model_frame_193 : ob_dv ob_ac k_Model_frame 193 194 0 (.aload_n 0) 1 := ⟨by decide +kernel, rfl, rfl⟩
theorem d_Model_frame_192 : ob_dc k_Model_frame 192 (.iadd) 1 193 := ⟨by decide +kernel, rfl⟩
theorem d_Model_frame_190 : ob_dv ob_lc k_Model_frame 190 191 1 (.iload_n 1) 1 := ⟨by decide +kernel, rfl, rfl⟩
theorem d_Model_frame_187 : ob_dc k_Model_frame 187 (.getfield 152) 3 190 := ⟨by decide +kernel, rfl⟩
theorem d_Model_frame_186 : ob_dv ob_ac k_Model_frame 186 187 0 (.aload_n 0) 1 := ⟨by decide +kernel, rfl, rfl⟩
theorem d_Model_frame_185 : ob_dc k_Model_frame 185 (.bastore) 1 186 := ⟨by decide +kernel, rfl⟩
theorem d_Model_frame_184 : ob_dc k_Model_frame 184 (.i2b) 1 185 := ⟨by decide +kernel, rfl⟩
theorem d_Model_frame_181 : ob_dc k_Model_frame 181 (.getfield 461) 3 184 := ⟨by decide +kernel, rfl⟩
theorem d_Model_frame_180 : ob_dv ob_ac k_Model_frame 180 181 0 (.aload_n 0) 1 := ⟨by decide +kernel, rfl, rfl⟩
theorem d_Model_frame_179 : ob_dc k_Model_frame 179 (.iadd) 1 180 := ⟨by decide +kernel, rfl⟩
theorem d_Model_frame_177 : ob_dv ob_lc k_Model_frame 177 178 1 (.iload_n 1) 1 := ⟨by decide +kernel, rfl, rfl⟩
theorem d_Model_frame_174 : ob_dc k_Model_frame 174 (.getfield 152) 3 177 := ⟨by decide +kernel, rfl⟩
theorem d_Model_frame_173 : ob_dv ob_ac k_Model_frame 173 174 0 (.aload_n 0) 1 := ⟨by decide +kernel, rfl, rfl⟩
theorem d_Model_frame_172 : ob_dc k_Model_frame 172 (.bastore) 1 173 := ⟨by decide +kernel, rfl⟩
theorem d_Model_frame_171 : ob_dc k_Model_frame 171 (.i2b) 1 172 := ⟨by decide +kernel, rfl⟩
theorem d_Model_frame_169 : ob_dv ob_lc k_Model_frame 169 171 5 (.iload 5) 2 := ⟨by decide +kernel, rfl, rfl⟩
theorem d_Model_frame_168 : ob_dc k_Model_frame 168 (.iadd) 1 169 := ⟨by decide +kernel, rfl⟩
theorem d_Model_frame_166 : ob_dv ob_lc k_Model_frame 166 167 1 (.iload_n 1) 1 := ⟨by decide +kernel, rfl, rfl⟩
theorem d_Model_frame_163 : ob_dc k_Model_frame 163 (.getfield 152) 3 166 := ⟨by decide +kernel, rfl⟩
theorem d_Model_frame_162 : ob_dv ob_ac k_Model_frame 162 163 0 (.aload_n 0) 1 := ⟨by decide +kernel, rfl, rfl⟩
theorem d_Model_frame_161 : ob_dc k_Model_frame 161 (.bastore) 1 162 := ⟨by decide +kernel, rfl⟩
theorem d_Model_frame_160 : ob_dc k_Model_frame 160 (.i2b) 1 161 := ⟨by decide +kernel, rfl⟩
theorem d_Model_frame_159 : ob_dc k_Model_frame 159 (.ishr) 1 160 := ⟨by decide +kernel, rfl⟩
theorem d_Model_frame_155 : ob_dv ob_lc k_Model_frame 155 157 5 (.iload 5) 2 := ⟨by decide +kernel, rfl, rfl⟩
theorem d_Model_frame_154 : ob_dv ob_lc k_Model_frame 154 155 1 (.iload_n 1) 1 := ⟨by decide +kernel, rfl, rfl⟩
theorem d_Model_frame_151 : ob_dc k_Model_frame 151 (.getfield 152) 3 154 := ⟨by decide +kernel, rfl⟩
theorem d_Model_frame_150 : ob_dv ob_ac k_Model_frame 150 151 0 (.aload_n 0) 1 := ⟨by decide +kernel, rfl, rfl⟩
theorem d_Model_frame_148 : ob_dv (ob_sc k_Model_frame.2.2.2.1) k_Model_frame 148 150 5 (.istore 5) 2 := ⟨by decide +kernel, rfl, ⟨rfl, by decide +kernel⟩⟩
theorem d_Model_frame_147 : ob_dc k_Model_frame 147 (.ior) 1 148 := ⟨by decide +kernel, rfl⟩
theorem d_Model_frame_145 : ob_dc k_Model_frame 145 (.ior) 1 146 := ⟨by decide +kernel, rfl⟩
theorem d_Model_frame_144 : ob_dc k_Model_frame 144 (.ishl) 1 145 := ⟨by decide +kernel, rfl⟩
theorem d_Model_frame_142 : ob_dv ob_lc k_Model_frame 142 143 2 (.iload_n 2) 1 := ⟨by decide +kernel, rfl, rfl⟩
theorem d_Model_frame_112 : ob_dk k_Model_frame 112 114 (7 : Int32) (.bipush 7) 2 := ⟨by decide +kernel, rfl, show (Int8.ofInt 7).toInt32 = (7 : Int32) by decide +kernel⟩
theorem d_Model_frame_133 : ob_di k_Model_frame 133 136 5 (-1) (-1 : Int32) := ⟨by decide +kernel, rfl, by decide +kernel, by decide +kernel⟩
theorem d_Model_frame_136 : ob_db k_Model_frame 136 (.goto (-30)) (-30) 139 106 := ⟨by decide +kernel, rfl, by decide⟩
theorem d_Model_frame_131 : ob_dv (ob_sc k_Model_frame.2.2.2.1) k_Model_frame 131 133 4 (.istore 4) 2 := ⟨by decide +kernel, rfl, ⟨rfl, by decide +kernel⟩⟩
theorem d_Model_frame_129 : ob_dv ob_lc k_Model_frame 129 131 5 (.iload 5) 2 := ⟨by decide +kernel, rfl, rfl⟩
theorem d_Model_frame_126 : ob_db k_Model_frame 126 (.ifCond .eq 7) 7 129 133 := ⟨by decide +kernel, rfl, by decide⟩
theorem d_Model_frame_125 : ob_dc k_Model_frame 125 (.baload) 1 126 := ⟨by decide +kernel, rfl⟩
theorem d_Model_frame_123 : ob_dv ob_lc k_Model_frame 123 125 5 (.iload 5) 2 := ⟨by decide +kernel, rfl, rfl⟩
theorem d_Model_frame_122 : ob_dc k_Model_frame 122 (.aaload) 1 123 := ⟨by decide +kernel, rfl⟩
theorem d_Model_frame_121 : ob_dv ob_lc k_Model_frame 121 122 2 (.iload_n 2) 1 := ⟨by decide +kernel, rfl, rfl⟩
theorem d_Model_frame_118 : ob_dc k_Model_frame 118 (.getfield 146) 3 121 := ⟨by decide +kernel, rfl⟩
theorem d_Model_frame_117 : ob_dv ob_ac k_Model_frame 117 118 0 (.aload_n 0) 1 := ⟨by decide +kernel, rfl, rfl⟩
theorem d_Model_frame_114 : ob_db k_Model_frame 114 (.if_icmp .ge 25) 25 117 139 := ⟨by decide +kernel, rfl, by decide⟩
theorem d_Model_frame_111 : ob_dv ob_lc k_Model_frame 111 112 2 (.iload_n 2) 1 := ⟨by decide +kernel, rfl, rfl⟩
theorem d_Model_frame_108 : ob_db k_Model_frame 108 (.ifCond .lt 31) 31 111 139 := ⟨by decide +kernel, rfl, by decide⟩
theorem d_Model_frame_106 : ob_dv ob_lc k_Model_frame 106 108 5 (.iload 5) 2 := ⟨by decide +kernel, rfl, rfl⟩
theorem d_Model_frame_104 : ob_dv (ob_sc k_Model_frame.2.2.2.1) k_Model_frame 104 106 5 (.istore 5) 2 := ⟨by decide +kernel, rfl, ⟨rfl, by decide +kernel⟩⟩
theorem d_Model_frame_103 : ob_dc k_Model_frame 103 (.isub) 1 104 := ⟨by decide +kernel, rfl⟩
theorem d_Model_frame_101 : ob_dv ob_lc k_Model_frame 101 102 3 (.iload_n 3) 1 := ⟨by decide +kernel, rfl, rfl⟩
theorem d_Model_frame_80 : ob_dk k_Model_frame 80 82 (7 : Int32) (.bipush 7) 2 := ⟨by decide +kernel, rfl, show (Int8.ofInt 7).toInt32 = (7 : Int32) by decide +kernel⟩
theorem d_Model_frame_98 : ob_dc k_Model_frame 98 (.invokevirtual 458) 3 101 := ⟨by decide +kernel, rfl⟩
theorem d_Model_frame_97 : ob_dc k_Model_frame 97 (.isub) 1 98 := ⟨by decide +kernel, rfl⟩
theorem d_Model_frame_96 : ob_dc k_Model_frame 96 (.iaload) 1 97 := ⟨by decide +kernel, rfl⟩
theorem d_Model_frame_95 : ob_dv ob_lc k_Model_frame 95 96 2 (.iload_n 2) 1 := ⟨by decide +kernel, rfl, rfl⟩
theorem d_Model_frame_92 : ob_dc k_Model_frame 92 (.getfield 149) 3 95 := ⟨by decide +kernel, rfl⟩
theorem d_Model_frame_91 : ob_dv ob_ac k_Model_frame 91 92 0 (.aload_n 0) 1 := ⟨by decide +kernel, rfl, rfl⟩
theorem d_Model_frame_90 : ob_dv ob_lc k_Model_frame 90 91 3 (.iload_n 3) 1 := ⟨by decide +kernel, rfl, rfl⟩
theorem d_Model_frame_85 : ob_dk k_Model_frame 85 87 (7 : Int32) (.bipush 7) 2 := ⟨by decide +kernel, rfl, show (Int8.ofInt 7).toInt32 = (7 : Int32) by decide +kernel⟩
theorem d_Model_frame_87 : ob_db k_Model_frame 87 (.goto 11) 11 90 98 := ⟨by decide +kernel, rfl, by decide⟩
theorem d_Model_frame_82 : ob_db k_Model_frame 82 (.if_icmp .ge 8) 8 85 90 := ⟨by decide +kernel, rfl, by decide⟩
theorem d_Model_frame_79 : ob_dc k_Model_frame 79 (.isub) 1 80 := ⟨by decide +kernel, rfl⟩
theorem d_Model_frame_78 : ob_dc k_Model_frame 78 (.iaload) 1 79 := ⟨by decide +kernel, rfl⟩
theorem d_Model_frame_77 : ob_dv ob_lc k_Model_frame 77 78 2 (.iload_n 2) 1 := ⟨by decide +kernel, rfl, rfl⟩
theorem d_Model_frame_74 : ob_dc k_Model_frame 74 (.getfield 149) 3 77 := ⟨by decide +kernel, rfl⟩
theorem d_Model_frame_73 : ob_dv ob_ac k_Model_frame 73 74 0 (.aload_n 0) 1 := ⟨by decide +kernel, rfl, rfl⟩
theorem d_Model_frame_72 : ob_dv ob_lc k_Model_frame 72 73 3 (.iload_n 3) 1 := ⟨by decide +kernel, rfl, rfl⟩
theorem d_Model_frame_71 : ob_dv ob_lc k_Model_frame 71 72 2 (.iload_n 2) 1 := ⟨by decide +kernel, rfl, rfl⟩
theorem d_Model_frame_70 : ob_dv ob_ac k_Model_frame 70 71 0 (.aload_n 0) 1 := ⟨by decide +kernel, rfl, rfl⟩
theorem d_Model_frame_67 : ob_db k_Model_frame 67 (.if_icmp .ge 34) 34 70 101 := ⟨by decide +kernel, rfl, by decide⟩
theorem d_Model_frame_66 : ob_dv ob_lc k_Model_frame 66 67 3 (.iload_n 3) 1 := ⟨by decide +kernel, rfl, rfl⟩
theorem d_Model_frame_65 : ob_dc k_Model_frame 65 (.iaload) 1 66 := ⟨by decide +kernel, rfl⟩
theorem d_Model_frame_64 : ob_dv ob_lc k_Model_frame 64 65 2 (.iload_n 2) 1 := ⟨by decide +kernel, rfl, rfl⟩
theorem d_Model_frame_61 : ob_dc k_Model_frame 61 (.getfield 149) 3 64 := ⟨by decide +kernel, rfl⟩
theorem d_Model_frame_60 : ob_dv ob_ac k_Model_frame 60 61 0 (.aload_n 0) 1 := ⟨by decide +kernel, rfl, rfl⟩
theorem d_Model_frame_57 : ob_db k_Model_frame 57 (.if_icmp .ge 44) 44 60 101 := ⟨by decide +kernel, rfl, by decide⟩
theorem d_Model_frame_54 : ob_dv ob_lc k_Model_frame 54 55 2 (.iload_n 2) 1 := ⟨by decide +kernel, rfl, rfl⟩
theorem d_Model_frame_52 : ob_dv (ob_sc k_Model_frame.2.2.2.1) k_Model_frame 52 54 4 (.istore 4) 2 := ⟨by decide +kernel, rfl, ⟨rfl, by decide +kernel⟩⟩
theorem d_Model_frame_43 : ob_dk k_Model_frame 43 46 (2046 : Int32) (.sipush 2046) 3 := ⟨by decide +kernel, rfl, show (Int16.ofInt 2046).toInt32 = (2046 : Int32) by decide +kernel⟩
theorem d_Model_frame_46 : ob_db k_Model_frame 46 (.goto 6) 6 49 52 := ⟨by decide +kernel, rfl, by decide⟩
theorem d_Model_frame_40 : ob_db k_Model_frame 40 (.if_icmp .ne 9) 9 43 49 := ⟨by decide +kernel, rfl, by decide⟩
theorem d_Model_frame_37 : ob_dv ob_lc k_Model_frame 37 38 2 (.iload_n 2) 1 := ⟨by decide +kernel, rfl, rfl⟩
theorem d_Model_frame_36 : ob_dv (ob_sc k_Model_frame.2.2.2.1) k_Model_frame 36 37 3 (.istore_n 3) 1 := ⟨by decide +kernel, rfl, ⟨rfl, by decide +kernel⟩⟩
theorem d_Model_frame_35 : ob_dc k_Model_frame 35 (.isub) 1 36 := ⟨by decide +kernel, rfl⟩
theorem d_Model_frame_30 : ob_dc k_Model_frame 30 (.getfield 165) 3 33 := ⟨by decide +kernel, rfl⟩
theorem d_Model_frame_29 : ob_dv ob_ac k_Model_frame 29 30 0 (.aload_n 0) 1 := ⟨by decide +kernel, rfl, rfl⟩
theorem d_Model_frame_28 : ob_dv (ob_sc k_Model_frame.2.2.2.1) k_Model_frame 28 29 2 (.istore_n 2) 1 := ⟨by decide +kernel, rfl, ⟨rfl, by decide +kernel⟩⟩
theorem d_Model_frame_22 : ob_dk k_Model_frame 22 23 (1 : Int32) (.iconst 1) 1 := ⟨by decide +kernel, rfl, show Int32.ofInt 1 = (1 : Int32) by decide +kernel⟩
theorem d_Model_frame_23 : ob_db k_Model_frame 23 (.goto 5) 5 26 28 := ⟨by decide +kernel, rfl, by decide⟩
theorem d_Model_frame_19 : ob_db k_Model_frame 19 (.ifCond .le 7) 7 22 26 := ⟨by decide +kernel, rfl, by decide⟩
theorem d_Model_frame_18 : ob_dc k_Model_frame 18 (.iaload) 1 19 := ⟨by decide +kernel, rfl⟩
theorem d_Model_frame_14 : ob_dc k_Model_frame 14 (.getfield 149) 3 17 := ⟨by decide +kernel, rfl⟩
theorem d_Model_frame_13 : ob_dv ob_ac k_Model_frame 13 14 0 (.aload_n 0) 1 := ⟨by decide +kernel, rfl, rfl⟩
theorem d_Model_frame_9 : ob_dk k_Model_frame 9 10 (0 : Int32) (.iconst 0) 1 := ⟨by decide +kernel, rfl, show Int32.ofInt 0 = (0 : Int32) by decide +kernel⟩
theorem d_Model_frame_10 : ob_db k_Model_frame 10 (.goto 18) 18 13 28 := ⟨by decide +kernel, rfl, by decide⟩
theorem d_Model_frame_6 : ob_db k_Model_frame 6 (.ifCond .le 7) 7 9 13 := ⟨by decide +kernel, rfl, by decide⟩
theorem d_Model_frame_5 : ob_dc k_Model_frame 5 (.iaload) 1 6 := ⟨by decide +kernel, rfl⟩
theorem d_Model_frame_1 : ob_dc k_Model_frame 1 (.getfield 149) 3 4 := ⟨by decide +kernel, rfl⟩
theorem d_Model_frame_0 : ob_dv ob_ac k_Model_frame 0 1 0 (.aload_n 0) 1 := ⟨by decide +kernel, rfl, rfl⟩
theorem c_Model_frame_214 : ob_sd k_Model_frame k_Model_check 214 3 := ⟨cw_Model_check, yd_Model_check, w_1403, w_1404, w_14, by decide, by decide⟩
theorem c_Model_frame_464 : ob_vd k_Model_frame k_Model_theWord 464 0 12 := ⟨cw_Model_theWord, yd_Model_theWord, w_1616, w_1618, wp_99, w_14, ⟨_, _, rfl⟩, by decide, by decide⟩
theorem c_Model_frame_458 : ob_vd k_Model_frame k_Model_empty 458 2 12 := ⟨cw_Model_empty, yd_Model_empty, w_1612, w_1614, wp_98, w_14, ⟨_, _, rfl⟩, by decide, by decide⟩
def f_Model_frame_L341 (S : ob_S) : Nat → Nat → Int32 → Int32 → Int32 → Int32 → ob_D → Option (ob_D)
  | 0, _, _, _, _, _, _ => none
  | n + 1, v0, v1, v2, v3, v6, D => (if (4 : Int32) ≤ v6 then if D.2.1 v0 87 ≠ 0 then ob_bd (f_Model_check S (D.2.1 v0 87) v1 ((D.1 v0 1) - (2 : Int32)) D) fun x38 D36 => if D36.2.1 v0 87 ≠ 0 then if ob_in ((v1 + (D36.1 v0 1)) - (2 : Int32)) (S.2.1 (D36.2.1 v0 87)) then ob_lt (ob_pI D36 (D36.2.1 v0 87) ((v1 + (D36.1 v0 1)) - (2 : Int32)).toNatClampNeg (((x38 >>> ((8 : Int32) &&& 31)).toInt8.toInt32).toInt8.toInt32)) fun D42 => if D42.2.1 v0 87 ≠ 0 then if ob_in ((v1 + (D42.1 v0 1)) - (1 : Int32)) (S.2.1 (D42.2.1 v0 87)) then ob_lt (ob_pI D42 (D42.2.1 v0 87) ((v1 + (D42.1 v0 1)) - (1 : Int32)).toNatClampNeg ((x38.toInt8.toInt32).toInt8.toInt32)) fun D46 => ob_lt (ob_pI D46 v0 89 (((D46.1 v0 89) + (1 : Int32)) - ((D46.1 v0 89) + (1 : Int32)) / (256 : Int32) * (256 : Int32))) fun D47 => if D47.2.1 v0 90 ≠ 0 then if D47.2.1 v0 90 ≠ 0 then if ob_in v2 (S.2.1 (D47.2.1 v0 90)) then if ob_in v2 (S.2.1 (D47.2.1 v0 90)) then ob_lt (ob_pI D47 (D47.2.1 v0 90) v2.toNatClampNeg (((D47.1 (D47.2.1 v0 90) v2.toNatClampNeg) + (1 : Int32)) - ((D47.1 (D47.2.1 v0 90) v2.toNatClampNeg) + (1 : Int32)) / (256 : Int32) * (256 : Int32))) fun D54 => some D54 else none else none else none else none else none else none else none else none else none else if D.2.1 v0 87 ≠ 0 then ob_bd (f_Model_theWord S v0 D) fun x59 D57 => if ob_in (((v1 + (6 : Int32)) + v3) + v6) (S.2.1 (D.2.1 v0 87)) then ob_lt (ob_pI D57 (D.2.1 v0 87) (((v1 + (6 : Int32)) + v3) + v6).toNatClampNeg (((x59 >>> (((24 : Int32) - ((8 : Int32) * v6)) &&& 31)).toInt8.toInt32).toInt8.toInt32)) fun D61 => f_Model_frame_L341 S n v0 v1 v2 v3 (v6 + (1 : Int32)) D61 else none else none)
theorem v_Model_frame_L341 {l : Launch} {E : ob_E} {S : ob_S} {D' : ob_D} : ∀ (n : Nat), ∀ (v0 : Nat) (v1 : Int32) (v2 : Int32) (v3 : Int32) (v6 : Int32) (D : ob_D), S.1 v0 = 13 → f_Model_frame_L341 S n v0 v1 v2 v3 v6 D = some D' → ob_V l E k_Model_frame 341 [(0, .ref v0), (1, .int v1), (2, .int v2), (3, .int v3), (6, .int v6)] [] S D none S D' := by
  intro n
  induction n with
  | zero =>
    intro v0 v1 v2 v3 v6 D hp_v0 h
    have h : none = some D' := h
    cases h
  | succ n ih =>
    intro v0 v1 v2 v3 v6 D hp_v0 h
    rw [f_Model_frame_L341] at h
    refine ob_iload d_Model_frame_341 rfl ?_
    refine ob_push d_Model_frame_343 ?_
    refine ob_icmp_ge d_Model_frame_344 (fun hc => ?_) (fun hc => ?_)
    · replace h := ob_ift hc h
      refine ob_aload d_Model_frame_381 rfl ?_
      obtain ⟨hg35, h⟩ := ob_gd h
      refine ob_getR d_Model_frame_382 F_12_87 l_Model_152 hp_v0 hg35 (fun hk34 => ?_)
      refine ob_iload d_Model_frame_385 rfl ?_
      refine ob_aload d_Model_frame_386 rfl ?_
      refine ob_getI d_Model_frame_387 F_12_1 l_Model_165 hp_v0 ?_
      refine ob_push d_Model_frame_390 ?_
      refine ob_isub d_Model_frame_391 ?_
      obtain ⟨x38, D36, h37, h⟩ := ob_bd_e h
      refine ob_callSi (As := [.ref (D.2.1 v0 87), .int v1, .int ((D.1 v0 1) - (2 : Int32))]) (rest := []) d_Model_frame_392 c_Model_frame_214 rfl rfl (Nat.le_of_ble_eq_true rfl) (c_Model_check hk34 h37) ⟨Nat.le_refl _, Nat.le_refl _⟩ ⟨Nat.le_refl _, Nat.le_refl _⟩ ?_
      refine ob_istore (lo2 := [(0, .ref v0), (1, .int v1), (2, .int v2), (3, .int v3), (6, .int x38)]) d_Model_frame_395 rfl ?_
      refine ob_aload d_Model_frame_397 rfl ?_
      obtain ⟨hg40, h⟩ := ob_gd h
      refine ob_getR d_Model_frame_398 F_12_87 l_Model_152 hp_v0 hg40 (fun hk39 => ?_)
      refine ob_iload d_Model_frame_401 rfl ?_
      refine ob_aload d_Model_frame_402 rfl ?_
      refine ob_getI d_Model_frame_403 F_12_1 l_Model_165 hp_v0 ?_
      refine ob_iadd d_Model_frame_406 ?_
      refine ob_push d_Model_frame_407 ?_
      refine ob_isub d_Model_frame_408 ?_
      refine ob_iload d_Model_frame_409 rfl ?_
      refine ob_push d_Model_frame_411 ?_
      refine ob_ishr d_Model_frame_413 ?_
      refine ob_i2b d_Model_frame_414 ?_
      obtain ⟨hg41, h⟩ := ob_gd h
      replace h := ob_lt_e h
      refine ob_bast d_Model_frame_415 hk39 hg41 ?_
      refine ob_aload d_Model_frame_416 rfl ?_
      obtain ⟨hg44, h⟩ := ob_gd h
      refine ob_getR d_Model_frame_417 F_12_87 l_Model_152 hp_v0 hg44 (fun hk43 => ?_)
      refine ob_iload d_Model_frame_420 rfl ?_
      refine ob_aload d_Model_frame_421 rfl ?_
      refine ob_getI d_Model_frame_422 F_12_1 l_Model_165 hp_v0 ?_
      refine ob_iadd d_Model_frame_425 ?_
      refine ob_push d_Model_frame_426 ?_
      refine ob_isub d_Model_frame_427 ?_
      refine ob_iload d_Model_frame_428 rfl ?_
      refine ob_i2b d_Model_frame_430 ?_
      obtain ⟨hg45, h⟩ := ob_gd h
      replace h := ob_lt_e h
      refine ob_bast d_Model_frame_431 hk43 hg45 ?_
      refine ob_aload d_Model_frame_432 rfl ?_
      refine ob_aload d_Model_frame_433 rfl ?_
      refine ob_getI d_Model_frame_434 F_12_89 l_Model_461 hp_v0 ?_
      refine ob_push d_Model_frame_437 ?_
      refine ob_iadd d_Model_frame_438 ?_
      refine ob_push d_Model_frame_439 ?_
      refine ob_irem d_Model_frame_442 (by decide) ?_
      replace h := ob_lt_e h
      refine ob_putI d_Model_frame_443 F_12_89 l_Model_461 hp_v0 ?_
      refine ob_aload d_Model_frame_446 rfl ?_
      obtain ⟨hg49, h⟩ := ob_gd h
      refine ob_getR d_Model_frame_447 F_12_90 l_Model_155 hp_v0 hg49 (fun hk48 => ?_)
      refine ob_iload d_Model_frame_450 rfl ?_
      refine ob_aload d_Model_frame_451 rfl ?_
      obtain ⟨hg51, h⟩ := ob_gd h
      refine ob_getR d_Model_frame_452 F_12_90 l_Model_155 hp_v0 hg51 (fun hk50 => ?_)
      refine ob_iload d_Model_frame_455 rfl ?_
      obtain ⟨hg52, h⟩ := ob_gd h
      refine ob_iald d_Model_frame_456 hk50 hg52 ?_
      refine ob_push d_Model_frame_457 ?_
      refine ob_iadd d_Model_frame_458 ?_
      refine ob_push d_Model_frame_459 ?_
      refine ob_irem d_Model_frame_462 (by decide) ?_
      obtain ⟨hg53, h⟩ := ob_gd h
      replace h := ob_lt_e h
      refine ob_iast d_Model_frame_463 hk48 hg53 ?_
      exact ob_ve h (ob_vret d_Model_frame_464 rfl)
    · replace h := ob_iff hc h
      refine ob_aload d_Model_frame_347 rfl ?_
      obtain ⟨hg56, h⟩ := ob_gd h
      refine ob_getR d_Model_frame_348 F_12_87 l_Model_152 hp_v0 hg56 (fun hk55 => ?_)
      refine ob_iload d_Model_frame_351 rfl ?_
      refine ob_push d_Model_frame_352 ?_
      refine ob_iadd d_Model_frame_354 ?_
      refine ob_iload d_Model_frame_355 rfl ?_
      refine ob_iadd d_Model_frame_356 ?_
      refine ob_iload d_Model_frame_357 rfl ?_
      refine ob_iadd d_Model_frame_359 ?_
      refine ob_aload d_Model_frame_360 rfl ?_
      obtain ⟨x59, D57, h58, h⟩ := ob_bd_e h
      refine ob_callVi (As := []) (rest := [.int (((v1 + (6 : Int32)) + v3) + v6), .ref (D.2.1 v0 87)]) d_Model_frame_361 c_Model_frame_464 hp_v0 rfl rfl (Nat.le_of_ble_eq_true rfl) (c_Model_theWord hp_v0 h58) ⟨Nat.le_refl _, Nat.le_refl _⟩ ⟨Nat.le_refl _, Nat.le_refl _⟩ ?_
      refine ob_push d_Model_frame_364 ?_
      refine ob_push d_Model_frame_366 ?_
      refine ob_iload d_Model_frame_368 rfl ?_
      refine ob_imul d_Model_frame_370 ?_
      refine ob_isub d_Model_frame_371 ?_
      refine ob_ishr d_Model_frame_372 ?_
      refine ob_i2b d_Model_frame_373 ?_
      obtain ⟨hg60, h⟩ := ob_gd h
      replace h := ob_lt_e h
      refine ob_bast d_Model_frame_374 hk55 hg60 ?_
      refine ob_iinc (lo2 := [(0, .ref v0), (1, .int v1), (2, .int v2), (3, .int v3), (6, .int (v6 + (1 : Int32)))]) d_Model_frame_375 rfl rfl ?_
      refine ob_goto d_Model_frame_378 ?_
      exact ih v0 v1 v2 v3 (v6 + (1 : Int32)) (ob_pI D57 (D.2.1 v0 87) (((v1 + (6 : Int32)) + v3) + v6).toNatClampNeg (((x59 >>> (((24 : Int32) - ((8 : Int32) * v6)) &&& 31)).toInt8.toInt32).toInt8.toInt32)) hp_v0 h
def f_Model_frame_L232 (S : ob_S) : Nat → Nat → Int32 → Int32 → Int32 → Int32 → ob_D → Option (ob_D)
  | 0, _, _, _, _, _, _ => none
  | n + 1, v0, v1, v2, v3, v6, D => (if v3 ≤ v6 then (if (7 : Int32) ≤ v2 then f_Model_frame_L341 S ob_FU v0 v1 v2 v3 (0 : Int32) D else if D.2.1 v0 86 ≠ 0 then if ob_in v2 (S.2.1 (D.2.1 v0 86)) then if ob_in v2 (S.2.1 (D.2.1 v0 86)) then ob_lt (ob_pI D (D.2.1 v0 86) v2.toNatClampNeg ((D.1 (D.2.1 v0 86) v2.toNatClampNeg) - v3)) fun D66 => if D66.2.1 v0 84 ≠ 0 then if ob_in v2 (S.2.1 (D66.2.1 v0 84)) then if D66.2.1 (D66.2.1 v0 84) v2.toNatClampNeg ≠ 0 then if D66.2.1 v0 84 ≠ 0 then if ob_in v2 (S.2.1 (D66.2.1 v0 84)) then if D66.2.1 (D66.2.1 v0 84) v2.toNatClampNeg ≠ 0 then if D66.2.1 v0 86 ≠ 0 then if ob_in v2 (S.2.1 (D66.2.1 v0 86)) then if ob_cg v3 (0 : Int32) (D66.1 (D66.2.1 v0 86) v2.toNatClampNeg) (S.2.1 (D66.2.1 (D66.2.1 v0 84) v2.toNatClampNeg)) (S.2.1 (D66.2.1 (D66.2.1 v0 84) v2.toNatClampNeg)) then ob_lt (ob_cp D66 (D66.2.1 (D66.2.1 v0 84) v2.toNatClampNeg) (D66.2.1 (D66.2.1 v0 84) v2.toNatClampNeg) v3.toNatClampNeg (0 : Int32).toNatClampNeg (D66.1 (D66.2.1 v0 86) v2.toNatClampNeg).toNatClampNeg) fun D81 => if D81.2.1 v0 85 ≠ 0 then if ob_in v2 (S.2.1 (D81.2.1 v0 85)) then if D81.2.1 (D81.2.1 v0 85) v2.toNatClampNeg ≠ 0 then if D81.2.1 v0 85 ≠ 0 then if ob_in v2 (S.2.1 (D81.2.1 v0 85)) then if D81.2.1 (D81.2.1 v0 85) v2.toNatClampNeg ≠ 0 then if D81.2.1 v0 86 ≠ 0 then if ob_in v2 (S.2.1 (D81.2.1 v0 86)) then if ob_cg v3 (0 : Int32) (D81.1 (D81.2.1 v0 86) v2.toNatClampNeg) (S.2.1 (D81.2.1 (D81.2.1 v0 85) v2.toNatClampNeg)) (S.2.1 (D81.2.1 (D81.2.1 v0 85) v2.toNatClampNeg)) then ob_lt (ob_cp D81 (D81.2.1 (D81.2.1 v0 85) v2.toNatClampNeg) (D81.2.1 (D81.2.1 v0 85) v2.toNatClampNeg) v3.toNatClampNeg (0 : Int32).toNatClampNeg (D81.1 (D81.2.1 v0 86) v2.toNatClampNeg).toNatClampNeg) fun D96 => f_Model_frame_L341 S ob_FU v0 v1 v2 v3 (0 : Int32) D96 else none else none else none else none else none else none else none else none else none else none else none else none else none else none else none else none else none else none else none else none else none) else if D.2.1 v0 87 ≠ 0 then (if v2 = (7 : Int32) then if ob_in ((v1 + (6 : Int32)) + v6) (S.2.1 (D.2.1 v0 87)) then ob_lt (ob_pI D (D.2.1 v0 87) ((v1 + (6 : Int32)) + v6).toNatClampNeg ((85 : Int32).toInt8.toInt32)) fun D108 => f_Model_frame_L232 S n v0 v1 v2 v3 (v6 + (1 : Int32)) D108 else none else if D.2.1 v0 84 ≠ 0 then if ob_in v2 (S.2.1 (D.2.1 v0 84)) then if D.2.1 (D.2.1 v0 84) v2.toNatClampNeg ≠ 0 then if ob_in v6 (S.2.1 (D.2.1 (D.2.1 v0 84) v2.toNatClampNeg)) then if ob_in ((v1 + (6 : Int32)) + v6) (S.2.1 (D.2.1 v0 87)) then ob_lt (ob_pI D (D.2.1 v0 87) ((v1 + (6 : Int32)) + v6).toNatClampNeg ((D.1 (D.2.1 (D.2.1 v0 84) v2.toNatClampNeg) v6.toNatClampNeg).toInt8.toInt32)) fun D106 => f_Model_frame_L232 S n v0 v1 v2 v3 (v6 + (1 : Int32)) D106 else none else none else none else none else none) else none)
theorem v_Model_frame_L232 {l : Launch} {E : ob_E} {S : ob_S} {D' : ob_D} : ∀ (n : Nat), ∀ (v0 : Nat) (v1 : Int32) (v2 : Int32) (v3 : Int32) (v6 : Int32) (D : ob_D), S.1 v0 = 13 → f_Model_frame_L232 S n v0 v1 v2 v3 v6 D = some D' → ob_V l E k_Model_frame 232 [(0, .ref v0), (1, .int v1), (2, .int v2), (3, .int v3), (6, .int v6)] [] S D none S D' := by
  intro n
  induction n with
  | zero =>
    intro v0 v1 v2 v3 v6 D hp_v0 h
    have h : none = some D' := h
    cases h
  | succ n ih =>
    intro v0 v1 v2 v3 v6 D hp_v0 h
    rw [f_Model_frame_L232] at h
    refine ob_iload d_Model_frame_232 rfl ?_
    refine ob_iload d_Model_frame_234 rfl ?_
    refine ob_icmp_ge d_Model_frame_235 (fun hc => ?_) (fun hc => ?_)
    · replace h := ob_ift hc h
      refine ob_iload d_Model_frame_276 rfl ?_
      refine ob_push d_Model_frame_277 ?_
      refine ob_icmp_ge d_Model_frame_279 (fun hc => ?_) (fun hc => ?_)
      · replace h := ob_ift hc h
        refine ob_push d_Model_frame_338 ?_
        refine ob_istore (lo2 := [(0, .ref v0), (1, .int v1), (2, .int v2), (3, .int v3), (6, .int (0 : Int32))]) d_Model_frame_339 rfl ?_
        exact v_Model_frame_L341 ob_FU v0 v1 v2 v3 (0 : Int32) D hp_v0 h
      · replace h := ob_iff hc h
        refine ob_aload d_Model_frame_282 rfl ?_
        obtain ⟨hg63, h⟩ := ob_gd h
        refine ob_getR d_Model_frame_283 F_12_86 l_Model_149 hp_v0 hg63 (fun hk62 => ?_)
        refine ob_iload d_Model_frame_286 rfl ?_
        refine ob_dup2 d_Model_frame_287 rfl rfl ?_
        obtain ⟨hg64, h⟩ := ob_gd h
        refine ob_iald d_Model_frame_288 hk62 hg64 ?_
        refine ob_iload d_Model_frame_289 rfl ?_
        refine ob_isub d_Model_frame_290 ?_
        obtain ⟨hg65, h⟩ := ob_gd h
        replace h := ob_lt_e h
        refine ob_iast d_Model_frame_291 hk62 hg65 ?_
        refine ob_aload d_Model_frame_292 rfl ?_
        obtain ⟨hg68, h⟩ := ob_gd h
        refine ob_getR d_Model_frame_293 F_12_84 l_Model_141 hp_v0 hg68 (fun hk67 => ?_)
        refine ob_iload d_Model_frame_296 rfl ?_
        obtain ⟨hg69, h⟩ := ob_gd h
        obtain ⟨hz70, h⟩ := ob_gd h
        refine ob_aald (j := 5) (t := 20) d_Model_frame_297 hk67 (by decide) rfl rfl rfl hg69 hz70 rfl (fun hk71 => ?_)
        refine ob_iload d_Model_frame_298 rfl ?_
        refine ob_aload d_Model_frame_299 rfl ?_
        obtain ⟨hg73, h⟩ := ob_gd h
        refine ob_getR d_Model_frame_300 F_12_84 l_Model_141 hp_v0 hg73 (fun hk72 => ?_)
        refine ob_iload d_Model_frame_303 rfl ?_
        obtain ⟨hg74, h⟩ := ob_gd h
        obtain ⟨hz75, h⟩ := ob_gd h
        refine ob_aald (j := 5) (t := 20) d_Model_frame_304 hk72 (by decide) rfl rfl rfl hg74 hz75 rfl (fun hk76 => ?_)
        refine ob_push d_Model_frame_305 ?_
        refine ob_aload d_Model_frame_306 rfl ?_
        obtain ⟨hg78, h⟩ := ob_gd h
        refine ob_getR d_Model_frame_307 F_12_86 l_Model_149 hp_v0 hg78 (fun hk77 => ?_)
        refine ob_iload d_Model_frame_310 rfl ?_
        obtain ⟨hg79, h⟩ := ob_gd h
        refine ob_iald d_Model_frame_311 hk77 hg79 ?_
        obtain ⟨hg80, h⟩ := ob_gd h
        replace h := ob_lt_e h
        refine ob_copy (i := 1) d_Model_frame_312 w_1485 w_1487 w_1486 w_16 hk71 hk76 (by decide) rfl (Or.inr (Or.inl ⟨rfl, rfl⟩)) hg80 (by decide) (Nat.le_of_ble_eq_true rfl) ?_
        refine ob_aload d_Model_frame_315 rfl ?_
        obtain ⟨hg83, h⟩ := ob_gd h
        refine ob_getR d_Model_frame_316 F_12_85 l_Model_146 hp_v0 hg83 (fun hk82 => ?_)
        refine ob_iload d_Model_frame_319 rfl ?_
        obtain ⟨hg84, h⟩ := ob_gd h
        obtain ⟨hz85, h⟩ := ob_gd h
        refine ob_aald (j := 6) (t := 21) d_Model_frame_320 hk82 (by decide) rfl rfl rfl hg84 hz85 rfl (fun hk86 => ?_)
        refine ob_iload d_Model_frame_321 rfl ?_
        refine ob_aload d_Model_frame_322 rfl ?_
        obtain ⟨hg88, h⟩ := ob_gd h
        refine ob_getR d_Model_frame_323 F_12_85 l_Model_146 hp_v0 hg88 (fun hk87 => ?_)
        refine ob_iload d_Model_frame_326 rfl ?_
        obtain ⟨hg89, h⟩ := ob_gd h
        obtain ⟨hz90, h⟩ := ob_gd h
        refine ob_aald (j := 6) (t := 21) d_Model_frame_327 hk87 (by decide) rfl rfl rfl hg89 hz90 rfl (fun hk91 => ?_)
        refine ob_push d_Model_frame_328 ?_
        refine ob_aload d_Model_frame_329 rfl ?_
        obtain ⟨hg93, h⟩ := ob_gd h
        refine ob_getR d_Model_frame_330 F_12_86 l_Model_149 hp_v0 hg93 (fun hk92 => ?_)
        refine ob_iload d_Model_frame_333 rfl ?_
        obtain ⟨hg94, h⟩ := ob_gd h
        refine ob_iald d_Model_frame_334 hk92 hg94 ?_
        obtain ⟨hg95, h⟩ := ob_gd h
        replace h := ob_lt_e h
        refine ob_copy (i := 2) d_Model_frame_335 w_1485 w_1487 w_1486 w_16 hk86 hk91 (by decide) rfl (Or.inr (Or.inr ⟨rfl, rfl⟩)) hg95 (by decide) (Nat.le_of_ble_eq_true rfl) ?_
        refine ob_push d_Model_frame_338 ?_
        refine ob_istore (lo2 := [(0, .ref v0), (1, .int v1), (2, .int v2), (3, .int v3), (6, .int (0 : Int32))]) d_Model_frame_339 rfl ?_
        exact v_Model_frame_L341 ob_FU v0 v1 v2 v3 (0 : Int32) (ob_cp (ob_cp (ob_pI D (D.2.1 v0 86) v2.toNatClampNeg ((D.1 (D.2.1 v0 86) v2.toNatClampNeg) - v3)) ((ob_pI D (D.2.1 v0 86) v2.toNatClampNeg ((D.1 (D.2.1 v0 86) v2.toNatClampNeg) - v3)).2.1 ((ob_pI D (D.2.1 v0 86) v2.toNatClampNeg ((D.1 (D.2.1 v0 86) v2.toNatClampNeg) - v3)).2.1 v0 84) v2.toNatClampNeg) ((ob_pI D (D.2.1 v0 86) v2.toNatClampNeg ((D.1 (D.2.1 v0 86) v2.toNatClampNeg) - v3)).2.1 ((ob_pI D (D.2.1 v0 86) v2.toNatClampNeg ((D.1 (D.2.1 v0 86) v2.toNatClampNeg) - v3)).2.1 v0 84) v2.toNatClampNeg) v3.toNatClampNeg (0 : Int32).toNatClampNeg ((ob_pI D (D.2.1 v0 86) v2.toNatClampNeg ((D.1 (D.2.1 v0 86) v2.toNatClampNeg) - v3)).1 ((ob_pI D (D.2.1 v0 86) v2.toNatClampNeg ((D.1 (D.2.1 v0 86) v2.toNatClampNeg) - v3)).2.1 v0 86) v2.toNatClampNeg).toNatClampNeg) ((ob_cp (ob_pI D (D.2.1 v0 86) v2.toNatClampNeg ((D.1 (D.2.1 v0 86) v2.toNatClampNeg) - v3)) ((ob_pI D (D.2.1 v0 86) v2.toNatClampNeg ((D.1 (D.2.1 v0 86) v2.toNatClampNeg) - v3)).2.1 ((ob_pI D (D.2.1 v0 86) v2.toNatClampNeg ((D.1 (D.2.1 v0 86) v2.toNatClampNeg) - v3)).2.1 v0 84) v2.toNatClampNeg) ((ob_pI D (D.2.1 v0 86) v2.toNatClampNeg ((D.1 (D.2.1 v0 86) v2.toNatClampNeg) - v3)).2.1 ((ob_pI D (D.2.1 v0 86) v2.toNatClampNeg ((D.1 (D.2.1 v0 86) v2.toNatClampNeg) - v3)).2.1 v0 84) v2.toNatClampNeg) v3.toNatClampNeg (0 : Int32).toNatClampNeg ((ob_pI D (D.2.1 v0 86) v2.toNatClampNeg ((D.1 (D.2.1 v0 86) v2.toNatClampNeg) - v3)).1 ((ob_pI D (D.2.1 v0 86) v2.toNatClampNeg ((D.1 (D.2.1 v0 86) v2.toNatClampNeg) - v3)).2.1 v0 86) v2.toNatClampNeg).toNatClampNeg).2.1 ((ob_cp (ob_pI D (D.2.1 v0 86) v2.toNatClampNeg ((D.1 (D.2.1 v0 86) v2.toNatClampNeg) - v3)) ((ob_pI D (D.2.1 v0 86) v2.toNatClampNeg ((D.1 (D.2.1 v0 86) v2.toNatClampNeg) - v3)).2.1 ((ob_pI D (D.2.1 v0 86) v2.toNatClampNeg ((D.1 (D.2.1 v0 86) v2.toNatClampNeg) - v3)).2.1 v0 84) v2.toNatClampNeg) ((ob_pI D (D.2.1 v0 86) v2.toNatClampNeg ((D.1 (D.2.1 v0 86) v2.toNatClampNeg) - v3)).2.1 ((ob_pI D (D.2.1 v0 86) v2.toNatClampNeg ((D.1 (D.2.1 v0 86) v2.toNatClampNeg) - v3)).2.1 v0 84) v2.toNatClampNeg) v3.toNatClampNeg (0 : Int32).toNatClampNeg ((ob_pI D (D.2.1 v0 86) v2.toNatClampNeg ((D.1 (D.2.1 v0 86) v2.toNatClampNeg) - v3)).1 ((ob_pI D (D.2.1 v0 86) v2.toNatClampNeg ((D.1 (D.2.1 v0 86) v2.toNatClampNeg) - v3)).2.1 v0 86) v2.toNatClampNeg).toNatClampNeg).2.1 v0 85) v2.toNatClampNeg) ((ob_cp (ob_pI D (D.2.1 v0 86) v2.toNatClampNeg ((D.1 (D.2.1 v0 86) v2.toNatClampNeg) - v3)) ((ob_pI D (D.2.1 v0 86) v2.toNatClampNeg ((D.1 (D.2.1 v0 86) v2.toNatClampNeg) - v3)).2.1 ((ob_pI D (D.2.1 v0 86) v2.toNatClampNeg ((D.1 (D.2.1 v0 86) v2.toNatClampNeg) - v3)).2.1 v0 84) v2.toNatClampNeg) ((ob_pI D (D.2.1 v0 86) v2.toNatClampNeg ((D.1 (D.2.1 v0 86) v2.toNatClampNeg) - v3)).2.1 ((ob_pI D (D.2.1 v0 86) v2.toNatClampNeg ((D.1 (D.2.1 v0 86) v2.toNatClampNeg) - v3)).2.1 v0 84) v2.toNatClampNeg) v3.toNatClampNeg (0 : Int32).toNatClampNeg ((ob_pI D (D.2.1 v0 86) v2.toNatClampNeg ((D.1 (D.2.1 v0 86) v2.toNatClampNeg) - v3)).1 ((ob_pI D (D.2.1 v0 86) v2.toNatClampNeg ((D.1 (D.2.1 v0 86) v2.toNatClampNeg) - v3)).2.1 v0 86) v2.toNatClampNeg).toNatClampNeg).2.1 ((ob_cp (ob_pI D (D.2.1 v0 86) v2.toNatClampNeg ((D.1 (D.2.1 v0 86) v2.toNatClampNeg) - v3)) ((ob_pI D (D.2.1 v0 86) v2.toNatClampNeg ((D.1 (D.2.1 v0 86) v2.toNatClampNeg) - v3)).2.1 ((ob_pI D (D.2.1 v0 86) v2.toNatClampNeg ((D.1 (D.2.1 v0 86) v2.toNatClampNeg) - v3)).2.1 v0 84) v2.toNatClampNeg) ((ob_pI D (D.2.1 v0 86) v2.toNatClampNeg ((D.1 (D.2.1 v0 86) v2.toNatClampNeg) - v3)).2.1 ((ob_pI D (D.2.1 v0 86) v2.toNatClampNeg ((D.1 (D.2.1 v0 86) v2.toNatClampNeg) - v3)).2.1 v0 84) v2.toNatClampNeg) v3.toNatClampNeg (0 : Int32).toNatClampNeg ((ob_pI D (D.2.1 v0 86) v2.toNatClampNeg ((D.1 (D.2.1 v0 86) v2.toNatClampNeg) - v3)).1 ((ob_pI D (D.2.1 v0 86) v2.toNatClampNeg ((D.1 (D.2.1 v0 86) v2.toNatClampNeg) - v3)).2.1 v0 86) v2.toNatClampNeg).toNatClampNeg).2.1 v0 85) v2.toNatClampNeg) v3.toNatClampNeg (0 : Int32).toNatClampNeg ((ob_cp (ob_pI D (D.2.1 v0 86) v2.toNatClampNeg ((D.1 (D.2.1 v0 86) v2.toNatClampNeg) - v3)) ((ob_pI D (D.2.1 v0 86) v2.toNatClampNeg ((D.1 (D.2.1 v0 86) v2.toNatClampNeg) - v3)).2.1 ((ob_pI D (D.2.1 v0 86) v2.toNatClampNeg ((D.1 (D.2.1 v0 86) v2.toNatClampNeg) - v3)).2.1 v0 84) v2.toNatClampNeg) ((ob_pI D (D.2.1 v0 86) v2.toNatClampNeg ((D.1 (D.2.1 v0 86) v2.toNatClampNeg) - v3)).2.1 ((ob_pI D (D.2.1 v0 86) v2.toNatClampNeg ((D.1 (D.2.1 v0 86) v2.toNatClampNeg) - v3)).2.1 v0 84) v2.toNatClampNeg) v3.toNatClampNeg (0 : Int32).toNatClampNeg ((ob_pI D (D.2.1 v0 86) v2.toNatClampNeg ((D.1 (D.2.1 v0 86) v2.toNatClampNeg) - v3)).1 ((ob_pI D (D.2.1 v0 86) v2.toNatClampNeg ((D.1 (D.2.1 v0 86) v2.toNatClampNeg) - v3)).2.1 v0 86) v2.toNatClampNeg).toNatClampNeg).1 ((ob_cp (ob_pI D (D.2.1 v0 86) v2.toNatClampNeg ((D.1 (D.2.1 v0 86) v2.toNatClampNeg) - v3)) ((ob_pI D (D.2.1 v0 86) v2.toNatClampNeg ((D.1 (D.2.1 v0 86) v2.toNatClampNeg) - v3)).2.1 ((ob_pI D (D.2.1 v0 86) v2.toNatClampNeg ((D.1 (D.2.1 v0 86) v2.toNatClampNeg) - v3)).2.1 v0 84) v2.toNatClampNeg) ((ob_pI D (D.2.1 v0 86) v2.toNatClampNeg ((D.1 (D.2.1 v0 86) v2.toNatClampNeg) - v3)).2.1 ((ob_pI D (D.2.1 v0 86) v2.toNatClampNeg ((D.1 (D.2.1 v0 86) v2.toNatClampNeg) - v3)).2.1 v0 84) v2.toNatClampNeg) v3.toNatClampNeg (0 : Int32).toNatClampNeg ((ob_pI D (D.2.1 v0 86) v2.toNatClampNeg ((D.1 (D.2.1 v0 86) v2.toNatClampNeg) - v3)).1 ((ob_pI D (D.2.1 v0 86) v2.toNatClampNeg ((D.1 (D.2.1 v0 86) v2.toNatClampNeg) - v3)).2.1 v0 86) v2.toNatClampNeg).toNatClampNeg).2.1 v0 86) v2.toNatClampNeg).toNatClampNeg) hp_v0 h
    · replace h := ob_iff hc h
      refine ob_aload d_Model_frame_238 rfl ?_
      obtain ⟨hg98, h⟩ := ob_gd h
      refine ob_getR d_Model_frame_239 F_12_87 l_Model_152 hp_v0 hg98 (fun hk97 => ?_)
      refine ob_iload d_Model_frame_242 rfl ?_
      refine ob_push d_Model_frame_243 ?_
      refine ob_iadd d_Model_frame_245 ?_
      refine ob_iload d_Model_frame_246 rfl ?_
      refine ob_iadd d_Model_frame_248 ?_
      refine ob_iload d_Model_frame_249 rfl ?_
      refine ob_push d_Model_frame_250 ?_
      refine ob_icmp_ne d_Model_frame_252 (fun hc => ?_) (fun hc => ?_)
      · replace h := ob_iff hc h
        refine ob_aload d_Model_frame_260 rfl ?_
        obtain ⟨hg100, h⟩ := ob_gd h
        refine ob_getR d_Model_frame_261 F_12_84 l_Model_141 hp_v0 hg100 (fun hk99 => ?_)
        refine ob_iload d_Model_frame_264 rfl ?_
        obtain ⟨hg101, h⟩ := ob_gd h
        obtain ⟨hz102, h⟩ := ob_gd h
        refine ob_aald (j := 5) (t := 20) d_Model_frame_265 hk99 (by decide) rfl rfl rfl hg101 hz102 rfl (fun hk103 => ?_)
        refine ob_iload d_Model_frame_266 rfl ?_
        obtain ⟨hg104, h⟩ := ob_gd h
        refine ob_bald d_Model_frame_268 hk103 hg104 ?_
        obtain ⟨hg105, h⟩ := ob_gd h
        replace h := ob_lt_e h
        refine ob_bast d_Model_frame_269 hk97 hg105 ?_
        refine ob_iinc (lo2 := [(0, .ref v0), (1, .int v1), (2, .int v2), (3, .int v3), (6, .int (v6 + (1 : Int32)))]) d_Model_frame_270 rfl rfl ?_
        refine ob_goto d_Model_frame_273 ?_
        exact ih v0 v1 v2 v3 (v6 + (1 : Int32)) (ob_pI D (D.2.1 v0 87) ((v1 + (6 : Int32)) + v6).toNatClampNeg ((D.1 (D.2.1 (D.2.1 v0 84) v2.toNatClampNeg) v6.toNatClampNeg).toInt8.toInt32)) hp_v0 h
      · replace h := ob_ift hc h
        refine ob_push d_Model_frame_255 ?_
        refine ob_goto d_Model_frame_257 ?_
        obtain ⟨hg107, h⟩ := ob_gd h
        replace h := ob_lt_e h
        refine ob_bast d_Model_frame_269 hk97 hg107 ?_
        refine ob_iinc (lo2 := [(0, .ref v0), (1, .int v1), (2, .int v2), (3, .int v3), (6, .int (v6 + (1 : Int32)))]) d_Model_frame_270 rfl rfl ?_
        refine ob_goto d_Model_frame_273 ?_
        exact ih v0 v1 v2 v3 (v6 + (1 : Int32)) (ob_pI D (D.2.1 v0 87) ((v1 + (6 : Int32)) + v6).toNatClampNeg ((85 : Int32).toInt8.toInt32)) hp_v0 h
def f_Model_frame_L139 (S : ob_S) (v0 : Nat) (v1 : Int32) (v2 : Int32) (v3 : Int32) (v4 : Int32) (D : ob_D) : Option (ob_D) :=
  if D.2.1 v0 87 ≠ 0 then if ob_in v1 (S.2.1 (D.2.1 v0 87)) then ob_lt (ob_pI D (D.2.1 v0 87) v1.toNatClampNeg ((((((5536 : Int32) ||| (v2 <<< ((1 : Int32) &&& 31))) ||| (1 : Int32)) >>> ((8 : Int32) &&& 31)).toInt8.toInt32).toInt8.toInt32)) fun D10 => if D10.2.1 v0 87 ≠ 0 then if ob_in (v1 + (1 : Int32)) (S.2.1 (D10.2.1 v0 87)) then ob_lt (ob_pI D10 (D10.2.1 v0 87) (v1 + (1 : Int32)).toNatClampNeg (((((5536 : Int32) ||| (v2 <<< ((1 : Int32) &&& 31))) ||| (1 : Int32)).toInt8.toInt32).toInt8.toInt32)) fun D14 => if D14.2.1 v0 87 ≠ 0 then if ob_in (v1 + (2 : Int32)) (S.2.1 (D14.2.1 v0 87)) then ob_lt (ob_pI D14 (D14.2.1 v0 87) (v1 + (2 : Int32)).toNatClampNeg (((D14.1 v0 89).toInt8.toInt32).toInt8.toInt32)) fun D18 => if D18.2.1 v0 87 ≠ 0 then if D18.2.1 v0 90 ≠ 0 then if ob_in v2 (S.2.1 (D18.2.1 v0 90)) then if ob_in (v1 + (3 : Int32)) (S.2.1 (D18.2.1 v0 87)) then ob_lt (ob_pI D18 (D18.2.1 v0 87) (v1 + (3 : Int32)).toNatClampNeg (((D18.1 (D18.2.1 v0 90) v2.toNatClampNeg).toInt8.toInt32).toInt8.toInt32)) fun D25 => if D25.2.1 v0 87 ≠ 0 then if ob_in (v1 + (4 : Int32)) (S.2.1 (D25.2.1 v0 87)) then ob_lt (ob_pI D25 (D25.2.1 v0 87) (v1 + (4 : Int32)).toNatClampNeg ((((24 : Int32) ||| (v4 >>> ((8 : Int32) &&& 31))).toInt8.toInt32).toInt8.toInt32)) fun D29 => if D29.2.1 v0 87 ≠ 0 then if ob_in (v1 + (5 : Int32)) (S.2.1 (D29.2.1 v0 87)) then ob_lt (ob_pI D29 (D29.2.1 v0 87) (v1 + (5 : Int32)).toNatClampNeg ((v4.toInt8.toInt32).toInt8.toInt32)) fun D33 => f_Model_frame_L232 S ob_FU v0 v1 v2 v3 (0 : Int32) D33 else none else none else none else none else none else none else none else none else none else none else none else none else none else none
theorem v_Model_frame_L139 {l : Launch} {E : ob_E} {S : ob_S} {D' : ob_D} : ∀ (v0 : Nat) (v1 : Int32) (v2 : Int32) (v3 : Int32) (v4 : Int32) (D : ob_D), S.1 v0 = 13 → f_Model_frame_L139 S v0 v1 v2 v3 v4 D = some D' → ob_V l E k_Model_frame 139 [(0, .ref v0), (1, .int v1), (2, .int v2), (3, .int v3), (4, .int v4)] [] S D none S D' := by
  intro v0 v1 v2 v3 v4 D hp_v0 h
  rw [f_Model_frame_L139] at h
  refine ob_push d_Model_frame_139 ?_
  refine ob_iload d_Model_frame_142 rfl ?_
  refine ob_push d_Model_frame_143 ?_
  refine ob_ishl d_Model_frame_144 ?_
  refine ob_ior d_Model_frame_145 ?_
  refine ob_push d_Model_frame_146 ?_
  refine ob_ior d_Model_frame_147 ?_
  refine ob_istore (lo2 := [(0, .ref v0), (1, .int v1), (2, .int v2), (3, .int v3), (4, .int v4), (5, .int (((5536 : Int32) ||| (v2 <<< ((1 : Int32) &&& 31))) ||| (1 : Int32)))]) d_Model_frame_148 rfl ?_
  refine ob_aload d_Model_frame_150 rfl ?_
  obtain ⟨hg8, h⟩ := ob_gd h
  refine ob_getR d_Model_frame_151 F_12_87 l_Model_152 hp_v0 hg8 (fun hk7 => ?_)
  refine ob_iload d_Model_frame_154 rfl ?_
  refine ob_iload d_Model_frame_155 rfl ?_
  refine ob_push d_Model_frame_157 ?_
  refine ob_ishr d_Model_frame_159 ?_
  refine ob_i2b d_Model_frame_160 ?_
  obtain ⟨hg9, h⟩ := ob_gd h
  replace h := ob_lt_e h
  refine ob_bast d_Model_frame_161 hk7 hg9 ?_
  refine ob_aload d_Model_frame_162 rfl ?_
  obtain ⟨hg12, h⟩ := ob_gd h
  refine ob_getR d_Model_frame_163 F_12_87 l_Model_152 hp_v0 hg12 (fun hk11 => ?_)
  refine ob_iload d_Model_frame_166 rfl ?_
  refine ob_push d_Model_frame_167 ?_
  refine ob_iadd d_Model_frame_168 ?_
  refine ob_iload d_Model_frame_169 rfl ?_
  refine ob_i2b d_Model_frame_171 ?_
  obtain ⟨hg13, h⟩ := ob_gd h
  replace h := ob_lt_e h
  refine ob_bast d_Model_frame_172 hk11 hg13 ?_
  refine ob_aload d_Model_frame_173 rfl ?_
  obtain ⟨hg16, h⟩ := ob_gd h
  refine ob_getR d_Model_frame_174 F_12_87 l_Model_152 hp_v0 hg16 (fun hk15 => ?_)
  refine ob_iload d_Model_frame_177 rfl ?_
  refine ob_push d_Model_frame_178 ?_
  refine ob_iadd d_Model_frame_179 ?_
  refine ob_aload d_Model_frame_180 rfl ?_
  refine ob_getI d_Model_frame_181 F_12_89 l_Model_461 hp_v0 ?_
  refine ob_i2b d_Model_frame_184 ?_
  obtain ⟨hg17, h⟩ := ob_gd h
  replace h := ob_lt_e h
  refine ob_bast d_Model_frame_185 hk15 hg17 ?_
  refine ob_aload d_Model_frame_186 rfl ?_
  obtain ⟨hg20, h⟩ := ob_gd h
  refine ob_getR d_Model_frame_187 F_12_87 l_Model_152 hp_v0 hg20 (fun hk19 => ?_)
  refine ob_iload d_Model_frame_190 rfl ?_
  refine ob_push d_Model_frame_191 ?_
  refine ob_iadd d_Model_frame_192 ?_
  refine ob_aload d_Model_frame_193 rfl ?_
  obtain ⟨hg22, h⟩ := ob_gd h
  refine ob_getR d_Model_frame_194 F_12_90 l_Model_155 hp_v0 hg22 (fun hk21 => ?_)
  refine ob_iload d_Model_frame_197 rfl ?_
  obtain ⟨hg23, h⟩ := ob_gd h
  refine ob_iald d_Model_frame_198 hk21 hg23 ?_
  refine ob_i2b d_Model_frame_199 ?_
  obtain ⟨hg24, h⟩ := ob_gd h
  replace h := ob_lt_e h
  refine ob_bast d_Model_frame_200 hk19 hg24 ?_
  refine ob_aload d_Model_frame_201 rfl ?_
  obtain ⟨hg27, h⟩ := ob_gd h
  refine ob_getR d_Model_frame_202 F_12_87 l_Model_152 hp_v0 hg27 (fun hk26 => ?_)
  refine ob_iload d_Model_frame_205 rfl ?_
  refine ob_push d_Model_frame_206 ?_
  refine ob_iadd d_Model_frame_207 ?_
  refine ob_push d_Model_frame_208 ?_
  refine ob_iload d_Model_frame_210 rfl ?_
  refine ob_push d_Model_frame_212 ?_
  refine ob_ishr d_Model_frame_214 ?_
  refine ob_ior d_Model_frame_215 ?_
  refine ob_i2b d_Model_frame_216 ?_
  obtain ⟨hg28, h⟩ := ob_gd h
  replace h := ob_lt_e h
  refine ob_bast d_Model_frame_217 hk26 hg28 ?_
  refine ob_aload d_Model_frame_218 rfl ?_
  obtain ⟨hg31, h⟩ := ob_gd h
  refine ob_getR d_Model_frame_219 F_12_87 l_Model_152 hp_v0 hg31 (fun hk30 => ?_)
  refine ob_iload d_Model_frame_222 rfl ?_
  refine ob_push d_Model_frame_223 ?_
  refine ob_iadd d_Model_frame_224 ?_
  refine ob_iload d_Model_frame_225 rfl ?_
  refine ob_i2b d_Model_frame_227 ?_
  obtain ⟨hg32, h⟩ := ob_gd h
  replace h := ob_lt_e h
  refine ob_bast d_Model_frame_228 hk30 hg32 ?_
  refine ob_push d_Model_frame_229 ?_
  refine ob_istore (lo2 := [(0, .ref v0), (1, .int v1), (2, .int v2), (3, .int v3), (4, .int v4), (5, .int (((5536 : Int32) ||| (v2 <<< ((1 : Int32) &&& 31))) ||| (1 : Int32))), (6, .int (0 : Int32))]) d_Model_frame_230 rfl ?_
  refine ob_sub (lo2 := [(0, .ref v0), (1, .int v1), (2, .int v2), (3, .int v3), (6, .int (0 : Int32))]) [0, 1, 2, 3, 6] rfl ?_
  exact v_Model_frame_L232 ob_FU v0 v1 v2 v3 (0 : Int32) (ob_pI (ob_pI (ob_pI (ob_pI (ob_pI (ob_pI D (D.2.1 v0 87) v1.toNatClampNeg ((((((5536 : Int32) ||| (v2 <<< ((1 : Int32) &&& 31))) ||| (1 : Int32)) >>> ((8 : Int32) &&& 31)).toInt8.toInt32).toInt8.toInt32)) ((ob_pI D (D.2.1 v0 87) v1.toNatClampNeg ((((((5536 : Int32) ||| (v2 <<< ((1 : Int32) &&& 31))) ||| (1 : Int32)) >>> ((8 : Int32) &&& 31)).toInt8.toInt32).toInt8.toInt32)).2.1 v0 87) (v1 + (1 : Int32)).toNatClampNeg (((((5536 : Int32) ||| (v2 <<< ((1 : Int32) &&& 31))) ||| (1 : Int32)).toInt8.toInt32).toInt8.toInt32)) ((ob_pI (ob_pI D (D.2.1 v0 87) v1.toNatClampNeg ((((((5536 : Int32) ||| (v2 <<< ((1 : Int32) &&& 31))) ||| (1 : Int32)) >>> ((8 : Int32) &&& 31)).toInt8.toInt32).toInt8.toInt32)) ((ob_pI D (D.2.1 v0 87) v1.toNatClampNeg ((((((5536 : Int32) ||| (v2 <<< ((1 : Int32) &&& 31))) ||| (1 : Int32)) >>> ((8 : Int32) &&& 31)).toInt8.toInt32).toInt8.toInt32)).2.1 v0 87) (v1 + (1 : Int32)).toNatClampNeg (((((5536 : Int32) ||| (v2 <<< ((1 : Int32) &&& 31))) ||| (1 : Int32)).toInt8.toInt32).toInt8.toInt32)).2.1 v0 87) (v1 + (2 : Int32)).toNatClampNeg ((((ob_pI (ob_pI D (D.2.1 v0 87) v1.toNatClampNeg ((((((5536 : Int32) ||| (v2 <<< ((1 : Int32) &&& 31))) ||| (1 : Int32)) >>> ((8 : Int32) &&& 31)).toInt8.toInt32).toInt8.toInt32)) ((ob_pI D (D.2.1 v0 87) v1.toNatClampNeg ((((((5536 : Int32) ||| (v2 <<< ((1 : Int32) &&& 31))) ||| (1 : Int32)) >>> ((8 : Int32) &&& 31)).toInt8.toInt32).toInt8.toInt32)).2.1 v0 87) (v1 + (1 : Int32)).toNatClampNeg (((((5536 : Int32) ||| (v2 <<< ((1 : Int32) &&& 31))) ||| (1 : Int32)).toInt8.toInt32).toInt8.toInt32)).1 v0 89).toInt8.toInt32).toInt8.toInt32)) ((ob_pI (ob_pI (ob_pI D (D.2.1 v0 87) v1.toNatClampNeg ((((((5536 : Int32) ||| (v2 <<< ((1 : Int32) &&& 31))) ||| (1 : Int32)) >>> ((8 : Int32) &&& 31)).toInt8.toInt32).toInt8.toInt32)) ((ob_pI D (D.2.1 v0 87) v1.toNatClampNeg ((((((5536 : Int32) ||| (v2 <<< ((1 : Int32) &&& 31))) ||| (1 : Int32)) >>> ((8 : Int32) &&& 31)).toInt8.toInt32).toInt8.toInt32)).2.1 v0 87) (v1 + (1 : Int32)).toNatClampNeg (((((5536 : Int32) ||| (v2 <<< ((1 : Int32) &&& 31))) ||| (1 : Int32)).toInt8.toInt32).toInt8.toInt32)) ((ob_pI (ob_pI D (D.2.1 v0 87) v1.toNatClampNeg ((((((5536 : Int32) ||| (v2 <<< ((1 : Int32) &&& 31))) ||| (1 : Int32)) >>> ((8 : Int32) &&& 31)).toInt8.toInt32).toInt8.toInt32)) ((ob_pI D (D.2.1 v0 87) v1.toNatClampNeg ((((((5536 : Int32) ||| (v2 <<< ((1 : Int32) &&& 31))) ||| (1 : Int32)) >>> ((8 : Int32) &&& 31)).toInt8.toInt32).toInt8.toInt32)).2.1 v0 87) (v1 + (1 : Int32)).toNatClampNeg (((((5536 : Int32) ||| (v2 <<< ((1 : Int32) &&& 31))) ||| (1 : Int32)).toInt8.toInt32).toInt8.toInt32)).2.1 v0 87) (v1 + (2 : Int32)).toNatClampNeg ((((ob_pI (ob_pI D (D.2.1 v0 87) v1.toNatClampNeg ((((((5536 : Int32) ||| (v2 <<< ((1 : Int32) &&& 31))) ||| (1 : Int32)) >>> ((8 : Int32) &&& 31)).toInt8.toInt32).toInt8.toInt32)) ((ob_pI D (D.2.1 v0 87) v1.toNatClampNeg ((((((5536 : Int32) ||| (v2 <<< ((1 : Int32) &&& 31))) ||| (1 : Int32)) >>> ((8 : Int32) &&& 31)).toInt8.toInt32).toInt8.toInt32)).2.1 v0 87) (v1 + (1 : Int32)).toNatClampNeg (((((5536 : Int32) ||| (v2 <<< ((1 : Int32) &&& 31))) ||| (1 : Int32)).toInt8.toInt32).toInt8.toInt32)).1 v0 89).toInt8.toInt32).toInt8.toInt32)).2.1 v0 87) (v1 + (3 : Int32)).toNatClampNeg ((((ob_pI (ob_pI (ob_pI D (D.2.1 v0 87) v1.toNatClampNeg ((((((5536 : Int32) ||| (v2 <<< ((1 : Int32) &&& 31))) ||| (1 : Int32)) >>> ((8 : Int32) &&& 31)).toInt8.toInt32).toInt8.toInt32)) ((ob_pI D (D.2.1 v0 87) v1.toNatClampNeg ((((((5536 : Int32) ||| (v2 <<< ((1 : Int32) &&& 31))) ||| (1 : Int32)) >>> ((8 : Int32) &&& 31)).toInt8.toInt32).toInt8.toInt32)).2.1 v0 87) (v1 + (1 : Int32)).toNatClampNeg (((((5536 : Int32) ||| (v2 <<< ((1 : Int32) &&& 31))) ||| (1 : Int32)).toInt8.toInt32).toInt8.toInt32)) ((ob_pI (ob_pI D (D.2.1 v0 87) v1.toNatClampNeg ((((((5536 : Int32) ||| (v2 <<< ((1 : Int32) &&& 31))) ||| (1 : Int32)) >>> ((8 : Int32) &&& 31)).toInt8.toInt32).toInt8.toInt32)) ((ob_pI D (D.2.1 v0 87) v1.toNatClampNeg ((((((5536 : Int32) ||| (v2 <<< ((1 : Int32) &&& 31))) ||| (1 : Int32)) >>> ((8 : Int32) &&& 31)).toInt8.toInt32).toInt8.toInt32)).2.1 v0 87) (v1 + (1 : Int32)).toNatClampNeg (((((5536 : Int32) ||| (v2 <<< ((1 : Int32) &&& 31))) ||| (1 : Int32)).toInt8.toInt32).toInt8.toInt32)).2.1 v0 87) (v1 + (2 : Int32)).toNatClampNeg ((((ob_pI (ob_pI D (D.2.1 v0 87) v1.toNatClampNeg ((((((5536 : Int32) ||| (v2 <<< ((1 : Int32) &&& 31))) ||| (1 : Int32)) >>> ((8 : Int32) &&& 31)).toInt8.toInt32).toInt8.toInt32)) ((ob_pI D (D.2.1 v0 87) v1.toNatClampNeg ((((((5536 : Int32) ||| (v2 <<< ((1 : Int32) &&& 31))) ||| (1 : Int32)) >>> ((8 : Int32) &&& 31)).toInt8.toInt32).toInt8.toInt32)).2.1 v0 87) (v1 + (1 : Int32)).toNatClampNeg (((((5536 : Int32) ||| (v2 <<< ((1 : Int32) &&& 31))) ||| (1 : Int32)).toInt8.toInt32).toInt8.toInt32)).1 v0 89).toInt8.toInt32).toInt8.toInt32)).1 ((ob_pI (ob_pI (ob_pI D (D.2.1 v0 87) v1.toNatClampNeg ((((((5536 : Int32) ||| (v2 <<< ((1 : Int32) &&& 31))) ||| (1 : Int32)) >>> ((8 : Int32) &&& 31)).toInt8.toInt32).toInt8.toInt32)) ((ob_pI D (D.2.1 v0 87) v1.toNatClampNeg ((((((5536 : Int32) ||| (v2 <<< ((1 : Int32) &&& 31))) ||| (1 : Int32)) >>> ((8 : Int32) &&& 31)).toInt8.toInt32).toInt8.toInt32)).2.1 v0 87) (v1 + (1 : Int32)).toNatClampNeg (((((5536 : Int32) ||| (v2 <<< ((1 : Int32) &&& 31))) ||| (1 : Int32)).toInt8.toInt32).toInt8.toInt32)) ((ob_pI (ob_pI D (D.2.1 v0 87) v1.toNatClampNeg ((((((5536 : Int32) ||| (v2 <<< ((1 : Int32) &&& 31))) ||| (1 : Int32)) >>> ((8 : Int32) &&& 31)).toInt8.toInt32).toInt8.toInt32)) ((ob_pI D (D.2.1 v0 87) v1.toNatClampNeg ((((((5536 : Int32) ||| (v2 <<< ((1 : Int32) &&& 31))) ||| (1 : Int32)) >>> ((8 : Int32) &&& 31)).toInt8.toInt32).toInt8.toInt32)).2.1 v0 87) (v1 + (1 : Int32)).toNatClampNeg (((((5536 : Int32) ||| (v2 <<< ((1 : Int32) &&& 31))) ||| (1 : Int32)).toInt8.toInt32).toInt8.toInt32)).2.1 v0 87) (v1 + (2 : Int32)).toNatClampNeg ((((ob_pI (ob_pI D (D.2.1 v0 87) v1.toNatClampNeg ((((((5536 : Int32) ||| (v2 <<< ((1 : Int32) &&& 31))) ||| (1 : Int32)) >>> ((8 : Int32) &&& 31)).toInt8.toInt32).toInt8.toInt32)) ((ob_pI D (D.2.1 v0 87) v1.toNatClampNeg ((((((5536 : Int32) ||| (v2 <<< ((1 : Int32) &&& 31))) ||| (1 : Int32)) >>> ((8 : Int32) &&& 31)).toInt8.toInt32).toInt8.toInt32)).2.1 v0 87) (v1 + (1 : Int32)).toNatClampNeg (((((5536 : Int32) ||| (v2 <<< ((1 : Int32) &&& 31))) ||| (1 : Int32)).toInt8.toInt32).toInt8.toInt32)).1 v0 89).toInt8.toInt32).toInt8.toInt32)).2.1 v0 90) v2.toNatClampNeg).toInt8.toInt32).toInt8.toInt32)) ((ob_pI (ob_pI (ob_pI (ob_pI D (D.2.1 v0 87) v1.toNatClampNeg ((((((5536 : Int32) ||| (v2 <<< ((1 : Int32) &&& 31))) ||| (1 : Int32)) >>> ((8 : Int32) &&& 31)).toInt8.toInt32).toInt8.toInt32)) ((ob_pI D (D.2.1 v0 87) v1.toNatClampNeg ((((((5536 : Int32) ||| (v2 <<< ((1 : Int32) &&& 31))) ||| (1 : Int32)) >>> ((8 : Int32) &&& 31)).toInt8.toInt32).toInt8.toInt32)).2.1 v0 87) (v1 + (1 : Int32)).toNatClampNeg (((((5536 : Int32) ||| (v2 <<< ((1 : Int32) &&& 31))) ||| (1 : Int32)).toInt8.toInt32).toInt8.toInt32)) ((ob_pI (ob_pI D (D.2.1 v0 87) v1.toNatClampNeg ((((((5536 : Int32) ||| (v2 <<< ((1 : Int32) &&& 31))) ||| (1 : Int32)) >>> ((8 : Int32) &&& 31)).toInt8.toInt32).toInt8.toInt32)) ((ob_pI D (D.2.1 v0 87) v1.toNatClampNeg ((((((5536 : Int32) ||| (v2 <<< ((1 : Int32) &&& 31))) ||| (1 : Int32)) >>> ((8 : Int32) &&& 31)).toInt8.toInt32).toInt8.toInt32)).2.1 v0 87) (v1 + (1 : Int32)).toNatClampNeg (((((5536 : Int32) ||| (v2 <<< ((1 : Int32) &&& 31))) ||| (1 : Int32)).toInt8.toInt32).toInt8.toInt32)).2.1 v0 87) (v1 + (2 : Int32)).toNatClampNeg ((((ob_pI (ob_pI D (D.2.1 v0 87) v1.toNatClampNeg ((((((5536 : Int32) ||| (v2 <<< ((1 : Int32) &&& 31))) ||| (1 : Int32)) >>> ((8 : Int32) &&& 31)).toInt8.toInt32).toInt8.toInt32)) ((ob_pI D (D.2.1 v0 87) v1.toNatClampNeg ((((((5536 : Int32) ||| (v2 <<< ((1 : Int32) &&& 31))) ||| (1 : Int32)) >>> ((8 : Int32) &&& 31)).toInt8.toInt32).toInt8.toInt32)).2.1 v0 87) (v1 + (1 : Int32)).toNatClampNeg (((((5536 : Int32) ||| (v2 <<< ((1 : Int32) &&& 31))) ||| (1 : Int32)).toInt8.toInt32).toInt8.toInt32)).1 v0 89).toInt8.toInt32).toInt8.toInt32)) ((ob_pI (ob_pI (ob_pI D (D.2.1 v0 87) v1.toNatClampNeg ((((((5536 : Int32) ||| (v2 <<< ((1 : Int32) &&& 31))) ||| (1 : Int32)) >>> ((8 : Int32) &&& 31)).toInt8.toInt32).toInt8.toInt32)) ((ob_pI D (D.2.1 v0 87) v1.toNatClampNeg ((((((5536 : Int32) ||| (v2 <<< ((1 : Int32) &&& 31))) ||| (1 : Int32)) >>> ((8 : Int32) &&& 31)).toInt8.toInt32).toInt8.toInt32)).2.1 v0 87) (v1 + (1 : Int32)).toNatClampNeg (((((5536 : Int32) ||| (v2 <<< ((1 : Int32) &&& 31))) ||| (1 : Int32)).toInt8.toInt32).toInt8.toInt32)) ((ob_pI (ob_pI D (D.2.1 v0 87) v1.toNatClampNeg ((((((5536 : Int32) ||| (v2 <<< ((1 : Int32) &&& 31))) ||| (1 : Int32)) >>> ((8 : Int32) &&& 31)).toInt8.toInt32).toInt8.toInt32)) ((ob_pI D (D.2.1 v0 87) v1.toNatClampNeg ((((((5536 : Int32) ||| (v2 <<< ((1 : Int32) &&& 31))) ||| (1 : Int32)) >>> ((8 : Int32) &&& 31)).toInt8.toInt32).toInt8.toInt32)).2.1 v0 87) (v1 + (1 : Int32)).toNatClampNeg (((((5536 : Int32) ||| (v2 <<< ((1 : Int32) &&& 31))) ||| (1 : Int32)).toInt8.toInt32).toInt8.toInt32)).2.1 v0 87) (v1 + (2 : Int32)).toNatClampNeg ((((ob_pI (ob_pI D (D.2.1 v0 87) v1.toNatClampNeg ((((((5536 : Int32) ||| (v2 <<< ((1 : Int32) &&& 31))) ||| (1 : Int32)) >>> ((8 : Int32) &&& 31)).toInt8.toInt32).toInt8.toInt32)) ((ob_pI D (D.2.1 v0 87) v1.toNatClampNeg ((((((5536 : Int32) ||| (v2 <<< ((1 : Int32) &&& 31))) ||| (1 : Int32)) >>> ((8 : Int32) &&& 31)).toInt8.toInt32).toInt8.toInt32)).2.1 v0 87) (v1 + (1 : Int32)).toNatClampNeg (((((5536 : Int32) ||| (v2 <<< ((1 : Int32) &&& 31))) ||| (1 : Int32)).toInt8.toInt32).toInt8.toInt32)).1 v0 89).toInt8.toInt32).toInt8.toInt32)).2.1 v0 87) (v1 + (3 : Int32)).toNatClampNeg ((((ob_pI (ob_pI (ob_pI D (D.2.1 v0 87) v1.toNatClampNeg ((((((5536 : Int32) ||| (v2 <<< ((1 : Int32) &&& 31))) ||| (1 : Int32)) >>> ((8 : Int32) &&& 31)).toInt8.toInt32).toInt8.toInt32)) ((ob_pI D (D.2.1 v0 87) v1.toNatClampNeg ((((((5536 : Int32) ||| (v2 <<< ((1 : Int32) &&& 31))) ||| (1 : Int32)) >>> ((8 : Int32) &&& 31)).toInt8.toInt32).toInt8.toInt32)).2.1 v0 87) (v1 + (1 : Int32)).toNatClampNeg (((((5536 : Int32) ||| (v2 <<< ((1 : Int32) &&& 31))) ||| (1 : Int32)).toInt8.toInt32).toInt8.toInt32)) ((ob_pI (ob_pI D (D.2.1 v0 87) v1.toNatClampNeg ((((((5536 : Int32) ||| (v2 <<< ((1 : Int32) &&& 31))) ||| (1 : Int32)) >>> ((8 : Int32) &&& 31)).toInt8.toInt32).toInt8.toInt32)) ((ob_pI D (D.2.1 v0 87) v1.toNatClampNeg ((((((5536 : Int32) ||| (v2 <<< ((1 : Int32) &&& 31))) ||| (1 : Int32)) >>> ((8 : Int32) &&& 31)).toInt8.toInt32).toInt8.toInt32)).2.1 v0 87) (v1 + (1 : Int32)).toNatClampNeg (((((5536 : Int32) ||| (v2 <<< ((1 : Int32) &&& 31))) ||| (1 : Int32)).toInt8.toInt32).toInt8.toInt32)).2.1 v0 87) (v1 + (2 : Int32)).toNatClampNeg ((((ob_pI (ob_pI D (D.2.1 v0 87) v1.toNatClampNeg ((((((5536 : Int32) ||| (v2 <<< ((1 : Int32) &&& 31))) ||| (1 : Int32)) >>> ((8 : Int32) &&& 31)).toInt8.toInt32).toInt8.toInt32)) ((ob_pI D (D.2.1 v0 87) v1.toNatClampNeg ((((((5536 : Int32) ||| (v2 <<< ((1 : Int32) &&& 31))) ||| (1 : Int32)) >>> ((8 : Int32) &&& 31)).toInt8.toInt32).toInt8.toInt32)).2.1 v0 87) (v1 + (1 : Int32)).toNatClampNeg (((((5536 : Int32) ||| (v2 <<< ((1 : Int32) &&& 31))) ||| (1 : Int32)).toInt8.toInt32).toInt8.toInt32)).1 v0 89).toInt8.toInt32).toInt8.toInt32)).1 ((ob_pI (ob_pI (ob_pI D (D.2.1 v0 87) v1.toNatClampNeg ((((((5536 : Int32) ||| (v2 <<< ((1 : Int32) &&& 31))) ||| (1 : Int32)) >>> ((8 : Int32) &&& 31)).toInt8.toInt32).toInt8.toInt32)) ((ob_pI D (D.2.1 v0 87) v1.toNatClampNeg ((((((5536 : Int32) ||| (v2 <<< ((1 : Int32) &&& 31))) ||| (1 : Int32)) >>> ((8 : Int32) &&& 31)).toInt8.toInt32).toInt8.toInt32)).2.1 v0 87) (v1 + (1 : Int32)).toNatClampNeg (((((5536 : Int32) ||| (v2 <<< ((1 : Int32) &&& 31))) ||| (1 : Int32)).toInt8.toInt32).toInt8.toInt32)) ((ob_pI (ob_pI D (D.2.1 v0 87) v1.toNatClampNeg ((((((5536 : Int32) ||| (v2 <<< ((1 : Int32) &&& 31))) ||| (1 : Int32)) >>> ((8 : Int32) &&& 31)).toInt8.toInt32).toInt8.toInt32)) ((ob_pI D (D.2.1 v0 87) v1.toNatClampNeg ((((((5536 : Int32) ||| (v2 <<< ((1 : Int32) &&& 31))) ||| (1 : Int32)) >>> ((8 : Int32) &&& 31)).toInt8.toInt32).toInt8.toInt32)).2.1 v0 87) (v1 + (1 : Int32)).toNatClampNeg (((((5536 : Int32) ||| (v2 <<< ((1 : Int32) &&& 31))) ||| (1 : Int32)).toInt8.toInt32).toInt8.toInt32)).2.1 v0 87) (v1 + (2 : Int32)).toNatClampNeg ((((ob_pI (ob_pI D (D.2.1 v0 87) v1.toNatClampNeg ((((((5536 : Int32) ||| (v2 <<< ((1 : Int32) &&& 31))) ||| (1 : Int32)) >>> ((8 : Int32) &&& 31)).toInt8.toInt32).toInt8.toInt32)) ((ob_pI D (D.2.1 v0 87) v1.toNatClampNeg ((((((5536 : Int32) ||| (v2 <<< ((1 : Int32) &&& 31))) ||| (1 : Int32)) >>> ((8 : Int32) &&& 31)).toInt8.toInt32).toInt8.toInt32)).2.1 v0 87) (v1 + (1 : Int32)).toNatClampNeg (((((5536 : Int32) ||| (v2 <<< ((1 : Int32) &&& 31))) ||| (1 : Int32)).toInt8.toInt32).toInt8.toInt32)).1 v0 89).toInt8.toInt32).toInt8.toInt32)).2.1 v0 90) v2.toNatClampNeg).toInt8.toInt32).toInt8.toInt32)).2.1 v0 87) (v1 + (4 : Int32)).toNatClampNeg ((((24 : Int32) ||| (v4 >>> ((8 : Int32) &&& 31))).toInt8.toInt32).toInt8.toInt32)) ((ob_pI (ob_pI (ob_pI (ob_pI (ob_pI D (D.2.1 v0 87) v1.toNatClampNeg ((((((5536 : Int32) ||| (v2 <<< ((1 : Int32) &&& 31))) ||| (1 : Int32)) >>> ((8 : Int32) &&& 31)).toInt8.toInt32).toInt8.toInt32)) ((ob_pI D (D.2.1 v0 87) v1.toNatClampNeg ((((((5536 : Int32) ||| (v2 <<< ((1 : Int32) &&& 31))) ||| (1 : Int32)) >>> ((8 : Int32) &&& 31)).toInt8.toInt32).toInt8.toInt32)).2.1 v0 87) (v1 + (1 : Int32)).toNatClampNeg (((((5536 : Int32) ||| (v2 <<< ((1 : Int32) &&& 31))) ||| (1 : Int32)).toInt8.toInt32).toInt8.toInt32)) ((ob_pI (ob_pI D (D.2.1 v0 87) v1.toNatClampNeg ((((((5536 : Int32) ||| (v2 <<< ((1 : Int32) &&& 31))) ||| (1 : Int32)) >>> ((8 : Int32) &&& 31)).toInt8.toInt32).toInt8.toInt32)) ((ob_pI D (D.2.1 v0 87) v1.toNatClampNeg ((((((5536 : Int32) ||| (v2 <<< ((1 : Int32) &&& 31))) ||| (1 : Int32)) >>> ((8 : Int32) &&& 31)).toInt8.toInt32).toInt8.toInt32)).2.1 v0 87) (v1 + (1 : Int32)).toNatClampNeg (((((5536 : Int32) ||| (v2 <<< ((1 : Int32) &&& 31))) ||| (1 : Int32)).toInt8.toInt32).toInt8.toInt32)).2.1 v0 87) (v1 + (2 : Int32)).toNatClampNeg ((((ob_pI (ob_pI D (D.2.1 v0 87) v1.toNatClampNeg ((((((5536 : Int32) ||| (v2 <<< ((1 : Int32) &&& 31))) ||| (1 : Int32)) >>> ((8 : Int32) &&& 31)).toInt8.toInt32).toInt8.toInt32)) ((ob_pI D (D.2.1 v0 87) v1.toNatClampNeg ((((((5536 : Int32) ||| (v2 <<< ((1 : Int32) &&& 31))) ||| (1 : Int32)) >>> ((8 : Int32) &&& 31)).toInt8.toInt32).toInt8.toInt32)).2.1 v0 87) (v1 + (1 : Int32)).toNatClampNeg (((((5536 : Int32) ||| (v2 <<< ((1 : Int32) &&& 31))) ||| (1 : Int32)).toInt8.toInt32).toInt8.toInt32)).1 v0 89).toInt8.toInt32).toInt8.toInt32)) ((ob_pI (ob_pI (ob_pI D (D.2.1 v0 87) v1.toNatClampNeg ((((((5536 : Int32) ||| (v2 <<< ((1 : Int32) &&& 31))) ||| (1 : Int32)) >>> ((8 : Int32) &&& 31)).toInt8.toInt32).toInt8.toInt32)) ((ob_pI D (D.2.1 v0 87) v1.toNatClampNeg ((((((5536 : Int32) ||| (v2 <<< ((1 : Int32) &&& 31))) ||| (1 : Int32)) >>> ((8 : Int32) &&& 31)).toInt8.toInt32).toInt8.toInt32)).2.1 v0 87) (v1 + (1 : Int32)).toNatClampNeg (((((5536 : Int32) ||| (v2 <<< ((1 : Int32) &&& 31))) ||| (1 : Int32)).toInt8.toInt32).toInt8.toInt32)) ((ob_pI (ob_pI D (D.2.1 v0 87) v1.toNatClampNeg ((((((5536 : Int32) ||| (v2 <<< ((1 : Int32) &&& 31))) ||| (1 : Int32)) >>> ((8 : Int32) &&& 31)).toInt8.toInt32).toInt8.toInt32)) ((ob_pI D (D.2.1 v0 87) v1.toNatClampNeg ((((((5536 : Int32) ||| (v2 <<< ((1 : Int32) &&& 31))) ||| (1 : Int32)) >>> ((8 : Int32) &&& 31)).toInt8.toInt32).toInt8.toInt32)).2.1 v0 87) (v1 + (1 : Int32)).toNatClampNeg (((((5536 : Int32) ||| (v2 <<< ((1 : Int32) &&& 31))) ||| (1 : Int32)).toInt8.toInt32).toInt8.toInt32)).2.1 v0 87) (v1 + (2 : Int32)).toNatClampNeg ((((ob_pI (ob_pI D (D.2.1 v0 87) v1.toNatClampNeg ((((((5536 : Int32) ||| (v2 <<< ((1 : Int32) &&& 31))) ||| (1 : Int32)) >>> ((8 : Int32) &&& 31)).toInt8.toInt32).toInt8.toInt32)) ((ob_pI D (D.2.1 v0 87) v1.toNatClampNeg ((((((5536 : Int32) ||| (v2 <<< ((1 : Int32) &&& 31))) ||| (1 : Int32)) >>> ((8 : Int32) &&& 31)).toInt8.toInt32).toInt8.toInt32)).2.1 v0 87) (v1 + (1 : Int32)).toNatClampNeg (((((5536 : Int32) ||| (v2 <<< ((1 : Int32) &&& 31))) ||| (1 : Int32)).toInt8.toInt32).toInt8.toInt32)).1 v0 89).toInt8.toInt32).toInt8.toInt32)).2.1 v0 87) (v1 + (3 : Int32)).toNatClampNeg ((((ob_pI (ob_pI (ob_pI D (D.2.1 v0 87) v1.toNatClampNeg ((((((5536 : Int32) ||| (v2 <<< ((1 : Int32) &&& 31))) ||| (1 : Int32)) >>> ((8 : Int32) &&& 31)).toInt8.toInt32).toInt8.toInt32)) ((ob_pI D (D.2.1 v0 87) v1.toNatClampNeg ((((((5536 : Int32) ||| (v2 <<< ((1 : Int32) &&& 31))) ||| (1 : Int32)) >>> ((8 : Int32) &&& 31)).toInt8.toInt32).toInt8.toInt32)).2.1 v0 87) (v1 + (1 : Int32)).toNatClampNeg (((((5536 : Int32) ||| (v2 <<< ((1 : Int32) &&& 31))) ||| (1 : Int32)).toInt8.toInt32).toInt8.toInt32)) ((ob_pI (ob_pI D (D.2.1 v0 87) v1.toNatClampNeg ((((((5536 : Int32) ||| (v2 <<< ((1 : Int32) &&& 31))) ||| (1 : Int32)) >>> ((8 : Int32) &&& 31)).toInt8.toInt32).toInt8.toInt32)) ((ob_pI D (D.2.1 v0 87) v1.toNatClampNeg ((((((5536 : Int32) ||| (v2 <<< ((1 : Int32) &&& 31))) ||| (1 : Int32)) >>> ((8 : Int32) &&& 31)).toInt8.toInt32).toInt8.toInt32)).2.1 v0 87) (v1 + (1 : Int32)).toNatClampNeg (((((5536 : Int32) ||| (v2 <<< ((1 : Int32) &&& 31))) ||| (1 : Int32)).toInt8.toInt32).toInt8.toInt32)).2.1 v0 87) (v1 + (2 : Int32)).toNatClampNeg ((((ob_pI (ob_pI D (D.2.1 v0 87) v1.toNatClampNeg ((((((5536 : Int32) ||| (v2 <<< ((1 : Int32) &&& 31))) ||| (1 : Int32)) >>> ((8 : Int32) &&& 31)).toInt8.toInt32).toInt8.toInt32)) ((ob_pI D (D.2.1 v0 87) v1.toNatClampNeg ((((((5536 : Int32) ||| (v2 <<< ((1 : Int32) &&& 31))) ||| (1 : Int32)) >>> ((8 : Int32) &&& 31)).toInt8.toInt32).toInt8.toInt32)).2.1 v0 87) (v1 + (1 : Int32)).toNatClampNeg (((((5536 : Int32) ||| (v2 <<< ((1 : Int32) &&& 31))) ||| (1 : Int32)).toInt8.toInt32).toInt8.toInt32)).1 v0 89).toInt8.toInt32).toInt8.toInt32)).1 ((ob_pI (ob_pI (ob_pI D (D.2.1 v0 87) v1.toNatClampNeg ((((((5536 : Int32) ||| (v2 <<< ((1 : Int32) &&& 31))) ||| (1 : Int32)) >>> ((8 : Int32) &&& 31)).toInt8.toInt32).toInt8.toInt32)) ((ob_pI D (D.2.1 v0 87) v1.toNatClampNeg ((((((5536 : Int32) ||| (v2 <<< ((1 : Int32) &&& 31))) ||| (1 : Int32)) >>> ((8 : Int32) &&& 31)).toInt8.toInt32).toInt8.toInt32)).2.1 v0 87) (v1 + (1 : Int32)).toNatClampNeg (((((5536 : Int32) ||| (v2 <<< ((1 : Int32) &&& 31))) ||| (1 : Int32)).toInt8.toInt32).toInt8.toInt32)) ((ob_pI (ob_pI D (D.2.1 v0 87) v1.toNatClampNeg ((((((5536 : Int32) ||| (v2 <<< ((1 : Int32) &&& 31))) ||| (1 : Int32)) >>> ((8 : Int32) &&& 31)).toInt8.toInt32).toInt8.toInt32)) ((ob_pI D (D.2.1 v0 87) v1.toNatClampNeg ((((((5536 : Int32) ||| (v2 <<< ((1 : Int32) &&& 31))) ||| (1 : Int32)) >>> ((8 : Int32) &&& 31)).toInt8.toInt32).toInt8.toInt32)).2.1 v0 87) (v1 + (1 : Int32)).toNatClampNeg (((((5536 : Int32) ||| (v2 <<< ((1 : Int32) &&& 31))) ||| (1 : Int32)).toInt8.toInt32).toInt8.toInt32)).2.1 v0 87) (v1 + (2 : Int32)).toNatClampNeg ((((ob_pI (ob_pI D (D.2.1 v0 87) v1.toNatClampNeg ((((((5536 : Int32) ||| (v2 <<< ((1 : Int32) &&& 31))) ||| (1 : Int32)) >>> ((8 : Int32) &&& 31)).toInt8.toInt32).toInt8.toInt32)) ((ob_pI D (D.2.1 v0 87) v1.toNatClampNeg ((((((5536 : Int32) ||| (v2 <<< ((1 : Int32) &&& 31))) ||| (1 : Int32)) >>> ((8 : Int32) &&& 31)).toInt8.toInt32).toInt8.toInt32)).2.1 v0 87) (v1 + (1 : Int32)).toNatClampNeg (((((5536 : Int32) ||| (v2 <<< ((1 : Int32) &&& 31))) ||| (1 : Int32)).toInt8.toInt32).toInt8.toInt32)).1 v0 89).toInt8.toInt32).toInt8.toInt32)).2.1 v0 90) v2.toNatClampNeg).toInt8.toInt32).toInt8.toInt32)) ((ob_pI (ob_pI (ob_pI (ob_pI D (D.2.1 v0 87) v1.toNatClampNeg ((((((5536 : Int32) ||| (v2 <<< ((1 : Int32) &&& 31))) ||| (1 : Int32)) >>> ((8 : Int32) &&& 31)).toInt8.toInt32).toInt8.toInt32)) ((ob_pI D (D.2.1 v0 87) v1.toNatClampNeg ((((((5536 : Int32) ||| (v2 <<< ((1 : Int32) &&& 31))) ||| (1 : Int32)) >>> ((8 : Int32) &&& 31)).toInt8.toInt32).toInt8.toInt32)).2.1 v0 87) (v1 + (1 : Int32)).toNatClampNeg (((((5536 : Int32) ||| (v2 <<< ((1 : Int32) &&& 31))) ||| (1 : Int32)).toInt8.toInt32).toInt8.toInt32)) ((ob_pI (ob_pI D (D.2.1 v0 87) v1.toNatClampNeg ((((((5536 : Int32) ||| (v2 <<< ((1 : Int32) &&& 31))) ||| (1 : Int32)) >>> ((8 : Int32) &&& 31)).toInt8.toInt32).toInt8.toInt32)) ((ob_pI D (D.2.1 v0 87) v1.toNatClampNeg ((((((5536 : Int32) ||| (v2 <<< ((1 : Int32) &&& 31))) ||| (1 : Int32)) >>> ((8 : Int32) &&& 31)).toInt8.toInt32).toInt8.toInt32)).2.1 v0 87) (v1 + (1 : Int32)).toNatClampNeg (((((5536 : Int32) ||| (v2 <<< ((1 : Int32) &&& 31))) ||| (1 : Int32)).toInt8.toInt32).toInt8.toInt32)).2.1 v0 87) (v1 + (2 : Int32)).toNatClampNeg ((((ob_pI (ob_pI D (D.2.1 v0 87) v1.toNatClampNeg ((((((5536 : Int32) ||| (v2 <<< ((1 : Int32) &&& 31))) ||| (1 : Int32)) >>> ((8 : Int32) &&& 31)).toInt8.toInt32).toInt8.toInt32)) ((ob_pI D (D.2.1 v0 87) v1.toNatClampNeg ((((((5536 : Int32) ||| (v2 <<< ((1 : Int32) &&& 31))) ||| (1 : Int32)) >>> ((8 : Int32) &&& 31)).toInt8.toInt32).toInt8.toInt32)).2.1 v0 87) (v1 + (1 : Int32)).toNatClampNeg (((((5536 : Int32) ||| (v2 <<< ((1 : Int32) &&& 31))) ||| (1 : Int32)).toInt8.toInt32).toInt8.toInt32)).1 v0 89).toInt8.toInt32).toInt8.toInt32)) ((ob_pI (ob_pI (ob_pI D (D.2.1 v0 87) v1.toNatClampNeg ((((((5536 : Int32) ||| (v2 <<< ((1 : Int32) &&& 31))) ||| (1 : Int32)) >>> ((8 : Int32) &&& 31)).toInt8.toInt32).toInt8.toInt32)) ((ob_pI D (D.2.1 v0 87) v1.toNatClampNeg ((((((5536 : Int32) ||| (v2 <<< ((1 : Int32) &&& 31))) ||| (1 : Int32)) >>> ((8 : Int32) &&& 31)).toInt8.toInt32).toInt8.toInt32)).2.1 v0 87) (v1 + (1 : Int32)).toNatClampNeg (((((5536 : Int32) ||| (v2 <<< ((1 : Int32) &&& 31))) ||| (1 : Int32)).toInt8.toInt32).toInt8.toInt32)) ((ob_pI (ob_pI D (D.2.1 v0 87) v1.toNatClampNeg ((((((5536 : Int32) ||| (v2 <<< ((1 : Int32) &&& 31))) ||| (1 : Int32)) >>> ((8 : Int32) &&& 31)).toInt8.toInt32).toInt8.toInt32)) ((ob_pI D (D.2.1 v0 87) v1.toNatClampNeg ((((((5536 : Int32) ||| (v2 <<< ((1 : Int32) &&& 31))) ||| (1 : Int32)) >>> ((8 : Int32) &&& 31)).toInt8.toInt32).toInt8.toInt32)).2.1 v0 87) (v1 + (1 : Int32)).toNatClampNeg (((((5536 : Int32) ||| (v2 <<< ((1 : Int32) &&& 31))) ||| (1 : Int32)).toInt8.toInt32).toInt8.toInt32)).2.1 v0 87) (v1 + (2 : Int32)).toNatClampNeg ((((ob_pI (ob_pI D (D.2.1 v0 87) v1.toNatClampNeg ((((((5536 : Int32) ||| (v2 <<< ((1 : Int32) &&& 31))) ||| (1 : Int32)) >>> ((8 : Int32) &&& 31)).toInt8.toInt32).toInt8.toInt32)) ((ob_pI D (D.2.1 v0 87) v1.toNatClampNeg ((((((5536 : Int32) ||| (v2 <<< ((1 : Int32) &&& 31))) ||| (1 : Int32)) >>> ((8 : Int32) &&& 31)).toInt8.toInt32).toInt8.toInt32)).2.1 v0 87) (v1 + (1 : Int32)).toNatClampNeg (((((5536 : Int32) ||| (v2 <<< ((1 : Int32) &&& 31))) ||| (1 : Int32)).toInt8.toInt32).toInt8.toInt32)).1 v0 89).toInt8.toInt32).toInt8.toInt32)).2.1 v0 87) (v1 + (3 : Int32)).toNatClampNeg ((((ob_pI (ob_pI (ob_pI D (D.2.1 v0 87) v1.toNatClampNeg ((((((5536 : Int32) ||| (v2 <<< ((1 : Int32) &&& 31))) ||| (1 : Int32)) >>> ((8 : Int32) &&& 31)).toInt8.toInt32).toInt8.toInt32)) ((ob_pI D (D.2.1 v0 87) v1.toNatClampNeg ((((((5536 : Int32) ||| (v2 <<< ((1 : Int32) &&& 31))) ||| (1 : Int32)) >>> ((8 : Int32) &&& 31)).toInt8.toInt32).toInt8.toInt32)).2.1 v0 87) (v1 + (1 : Int32)).toNatClampNeg (((((5536 : Int32) ||| (v2 <<< ((1 : Int32) &&& 31))) ||| (1 : Int32)).toInt8.toInt32).toInt8.toInt32)) ((ob_pI (ob_pI D (D.2.1 v0 87) v1.toNatClampNeg ((((((5536 : Int32) ||| (v2 <<< ((1 : Int32) &&& 31))) ||| (1 : Int32)) >>> ((8 : Int32) &&& 31)).toInt8.toInt32).toInt8.toInt32)) ((ob_pI D (D.2.1 v0 87) v1.toNatClampNeg ((((((5536 : Int32) ||| (v2 <<< ((1 : Int32) &&& 31))) ||| (1 : Int32)) >>> ((8 : Int32) &&& 31)).toInt8.toInt32).toInt8.toInt32)).2.1 v0 87) (v1 + (1 : Int32)).toNatClampNeg (((((5536 : Int32) ||| (v2 <<< ((1 : Int32) &&& 31))) ||| (1 : Int32)).toInt8.toInt32).toInt8.toInt32)).2.1 v0 87) (v1 + (2 : Int32)).toNatClampNeg ((((ob_pI (ob_pI D (D.2.1 v0 87) v1.toNatClampNeg ((((((5536 : Int32) ||| (v2 <<< ((1 : Int32) &&& 31))) ||| (1 : Int32)) >>> ((8 : Int32) &&& 31)).toInt8.toInt32).toInt8.toInt32)) ((ob_pI D (D.2.1 v0 87) v1.toNatClampNeg ((((((5536 : Int32) ||| (v2 <<< ((1 : Int32) &&& 31))) ||| (1 : Int32)) >>> ((8 : Int32) &&& 31)).toInt8.toInt32).toInt8.toInt32)).2.1 v0 87) (v1 + (1 : Int32)).toNatClampNeg (((((5536 : Int32) ||| (v2 <<< ((1 : Int32) &&& 31))) ||| (1 : Int32)).toInt8.toInt32).toInt8.toInt32)).1 v0 89).toInt8.toInt32).toInt8.toInt32)).1 ((ob_pI (ob_pI (ob_pI D (D.2.1 v0 87) v1.toNatClampNeg ((((((5536 : Int32) ||| (v2 <<< ((1 : Int32) &&& 31))) ||| (1 : Int32)) >>> ((8 : Int32) &&& 31)).toInt8.toInt32).toInt8.toInt32)) ((ob_pI D (D.2.1 v0 87) v1.toNatClampNeg ((((((5536 : Int32) ||| (v2 <<< ((1 : Int32) &&& 31))) ||| (1 : Int32)) >>> ((8 : Int32) &&& 31)).toInt8.toInt32).toInt8.toInt32)).2.1 v0 87) (v1 + (1 : Int32)).toNatClampNeg (((((5536 : Int32) ||| (v2 <<< ((1 : Int32) &&& 31))) ||| (1 : Int32)).toInt8.toInt32).toInt8.toInt32)) ((ob_pI (ob_pI D (D.2.1 v0 87) v1.toNatClampNeg ((((((5536 : Int32) ||| (v2 <<< ((1 : Int32) &&& 31))) ||| (1 : Int32)) >>> ((8 : Int32) &&& 31)).toInt8.toInt32).toInt8.toInt32)) ((ob_pI D (D.2.1 v0 87) v1.toNatClampNeg ((((((5536 : Int32) ||| (v2 <<< ((1 : Int32) &&& 31))) ||| (1 : Int32)) >>> ((8 : Int32) &&& 31)).toInt8.toInt32).toInt8.toInt32)).2.1 v0 87) (v1 + (1 : Int32)).toNatClampNeg (((((5536 : Int32) ||| (v2 <<< ((1 : Int32) &&& 31))) ||| (1 : Int32)).toInt8.toInt32).toInt8.toInt32)).2.1 v0 87) (v1 + (2 : Int32)).toNatClampNeg ((((ob_pI (ob_pI D (D.2.1 v0 87) v1.toNatClampNeg ((((((5536 : Int32) ||| (v2 <<< ((1 : Int32) &&& 31))) ||| (1 : Int32)) >>> ((8 : Int32) &&& 31)).toInt8.toInt32).toInt8.toInt32)) ((ob_pI D (D.2.1 v0 87) v1.toNatClampNeg ((((((5536 : Int32) ||| (v2 <<< ((1 : Int32) &&& 31))) ||| (1 : Int32)) >>> ((8 : Int32) &&& 31)).toInt8.toInt32).toInt8.toInt32)).2.1 v0 87) (v1 + (1 : Int32)).toNatClampNeg (((((5536 : Int32) ||| (v2 <<< ((1 : Int32) &&& 31))) ||| (1 : Int32)).toInt8.toInt32).toInt8.toInt32)).1 v0 89).toInt8.toInt32).toInt8.toInt32)).2.1 v0 90) v2.toNatClampNeg).toInt8.toInt32).toInt8.toInt32)).2.1 v0 87) (v1 + (4 : Int32)).toNatClampNeg ((((24 : Int32) ||| (v4 >>> ((8 : Int32) &&& 31))).toInt8.toInt32).toInt8.toInt32)).2.1 v0 87) (v1 + (5 : Int32)).toNatClampNeg ((v4.toInt8.toInt32).toInt8.toInt32)) hp_v0 h
def f_Model_frame_L106 (S : ob_S) : Nat → Nat → Int32 → Int32 → Int32 → Int32 → Int32 → ob_D → Option (ob_D)
  | 0, _, _, _, _, _, _, _ => none
  | n + 1, v0, v1, v2, v3, v4, v5, D => (if v5 < 0 then f_Model_frame_L139 S v0 v1 v2 v3 v4 D else (if (7 : Int32) ≤ v2 then f_Model_frame_L139 S v0 v1 v2 v3 v4 D else if D.2.1 v0 85 ≠ 0 then if ob_in v2 (S.2.1 (D.2.1 v0 85)) then if D.2.1 (D.2.1 v0 85) v2.toNatClampNeg ≠ 0 then if ob_in v5 (S.2.1 (D.2.1 (D.2.1 v0 85) v2.toNatClampNeg)) then (if (D.1 (D.2.1 (D.2.1 v0 85) v2.toNatClampNeg) v5.toNatClampNeg) = 0 then f_Model_frame_L106 S n v0 v1 v2 v3 v4 (v5 + (-1 : Int32)) D else f_Model_frame_L106 S n v0 v1 v2 v3 v5 (v5 + (-1 : Int32)) D) else none else none else none else none))
theorem v_Model_frame_L106 {l : Launch} {E : ob_E} {S : ob_S} {D' : ob_D} : ∀ (n : Nat), ∀ (v0 : Nat) (v1 : Int32) (v2 : Int32) (v3 : Int32) (v4 : Int32) (v5 : Int32) (D : ob_D), S.1 v0 = 13 → f_Model_frame_L106 S n v0 v1 v2 v3 v4 v5 D = some D' → ob_V l E k_Model_frame 106 [(0, .ref v0), (1, .int v1), (2, .int v2), (3, .int v3), (4, .int v4), (5, .int v5)] [] S D none S D' := by
  intro n
  induction n with
  | zero =>
    intro v0 v1 v2 v3 v4 v5 D hp_v0 h
    have h : none = some D' := h
    cases h
  | succ n ih =>
    intro v0 v1 v2 v3 v4 v5 D hp_v0 h
    rw [f_Model_frame_L106] at h
    refine ob_iload d_Model_frame_106 rfl ?_
    refine ob_if_lt d_Model_frame_108 (fun hc => ?_) (fun hc => ?_)
    · replace h := ob_ift hc h
      refine ob_sub (lo2 := [(0, .ref v0), (1, .int v1), (2, .int v2), (3, .int v3), (4, .int v4)]) [0, 1, 2, 3, 4] rfl ?_
      exact v_Model_frame_L139 v0 v1 v2 v3 v4 D hp_v0 h
    · replace h := ob_iff hc h
      refine ob_iload d_Model_frame_111 rfl ?_
      refine ob_push d_Model_frame_112 ?_
      refine ob_icmp_ge d_Model_frame_114 (fun hc => ?_) (fun hc => ?_)
      · replace h := ob_ift hc h
        refine ob_sub (lo2 := [(0, .ref v0), (1, .int v1), (2, .int v2), (3, .int v3), (4, .int v4)]) [0, 1, 2, 3, 4] rfl ?_
        exact v_Model_frame_L139 v0 v1 v2 v3 v4 D hp_v0 h
      · replace h := ob_iff hc h
        refine ob_aload d_Model_frame_117 rfl ?_
        obtain ⟨hg110, h⟩ := ob_gd h
        refine ob_getR d_Model_frame_118 F_12_85 l_Model_146 hp_v0 hg110 (fun hk109 => ?_)
        refine ob_iload d_Model_frame_121 rfl ?_
        obtain ⟨hg111, h⟩ := ob_gd h
        obtain ⟨hz112, h⟩ := ob_gd h
        refine ob_aald (j := 6) (t := 21) d_Model_frame_122 hk109 (by decide) rfl rfl rfl hg111 hz112 rfl (fun hk113 => ?_)
        refine ob_iload d_Model_frame_123 rfl ?_
        obtain ⟨hg114, h⟩ := ob_gd h
        refine ob_zald d_Model_frame_125 hk113 hg114 ?_
        refine ob_if_eq d_Model_frame_126 (fun hc => ?_) (fun hc => ?_)
        · replace h := ob_ift hc h
          refine ob_iinc (lo2 := [(0, .ref v0), (1, .int v1), (2, .int v2), (3, .int v3), (4, .int v4), (5, .int (v5 + (-1 : Int32)))]) d_Model_frame_133 rfl rfl ?_
          refine ob_goto d_Model_frame_136 ?_
          exact ih v0 v1 v2 v3 v4 (v5 + (-1 : Int32)) D hp_v0 h
        · replace h := ob_iff hc h
          refine ob_iload d_Model_frame_129 rfl ?_
          refine ob_istore (lo2 := [(0, .ref v0), (1, .int v1), (2, .int v2), (3, .int v3), (4, .int v5), (5, .int v5)]) d_Model_frame_131 rfl ?_
          refine ob_iinc (lo2 := [(0, .ref v0), (1, .int v1), (2, .int v2), (3, .int v3), (4, .int v5), (5, .int (v5 + (-1 : Int32)))]) d_Model_frame_133 rfl rfl ?_
          refine ob_goto d_Model_frame_136 ?_
          exact ih v0 v1 v2 v3 v5 (v5 + (-1 : Int32)) D hp_v0 h
def f_Model_frame_L52 (S : ob_S) (v0 : Nat) (v1 : Int32) (v2 : Int32) (v3 : Int32) (s0 : Int32) (D : ob_D) : Option (ob_D) :=
  (if (7 : Int32) ≤ v2 then f_Model_frame_L106 S ob_FU v0 v1 v2 v3 s0 (v3 - (1 : Int32)) D else if D.2.1 v0 86 ≠ 0 then if ob_in v2 (S.2.1 (D.2.1 v0 86)) then (if v3 ≤ (D.1 (D.2.1 v0 86) v2.toNatClampNeg) then f_Model_frame_L106 S ob_FU v0 v1 v2 v3 s0 (v3 - (1 : Int32)) D else if D.2.1 v0 86 ≠ 0 then if ob_in v2 (S.2.1 (D.2.1 v0 86)) then (if (7 : Int32) ≤ (v3 - (D.1 (D.2.1 v0 86) v2.toNatClampNeg)) then if D.2.1 v0 86 ≠ 0 then if ob_in v2 (S.2.1 (D.2.1 v0 86)) then ob_bv (f_Model_empty S v0 v2 (v3 - (D.1 (D.2.1 v0 86) v2.toNatClampNeg)) D) fun D124 => f_Model_frame_L106 S ob_FU v0 v1 v2 v3 s0 (v3 - (1 : Int32)) D124 else none else none else ob_bv (f_Model_empty S v0 v2 (7 : Int32) D) fun D126 => f_Model_frame_L106 S ob_FU v0 v1 v2 v3 s0 (v3 - (1 : Int32)) D126) else none else none) else none else none)
theorem v_Model_frame_L52 {l : Launch} {E : ob_E} {S : ob_S} {D' : ob_D} : ∀ (v0 : Nat) (v1 : Int32) (v2 : Int32) (v3 : Int32) (s0 : Int32) (D : ob_D), S.1 v0 = 13 → f_Model_frame_L52 S v0 v1 v2 v3 s0 D = some D' → ob_V l E k_Model_frame 52 [(0, .ref v0), (1, .int v1), (2, .int v2), (3, .int v3)] [.int s0] S D none S D' := by
  intro v0 v1 v2 v3 s0 D hp_v0 h
  rw [f_Model_frame_L52] at h
  refine ob_istore (lo2 := [(0, .ref v0), (1, .int v1), (2, .int v2), (3, .int v3), (4, .int s0)]) d_Model_frame_52 rfl ?_
  refine ob_iload d_Model_frame_54 rfl ?_
  refine ob_push d_Model_frame_55 ?_
  refine ob_icmp_ge d_Model_frame_57 (fun hc => ?_) (fun hc => ?_)
  · replace h := ob_ift hc h
    refine ob_iload d_Model_frame_101 rfl ?_
    refine ob_push d_Model_frame_102 ?_
    refine ob_isub d_Model_frame_103 ?_
    refine ob_istore (lo2 := [(0, .ref v0), (1, .int v1), (2, .int v2), (3, .int v3), (4, .int s0), (5, .int (v3 - (1 : Int32)))]) d_Model_frame_104 rfl ?_
    exact v_Model_frame_L106 ob_FU v0 v1 v2 v3 s0 (v3 - (1 : Int32)) D hp_v0 h
  · replace h := ob_iff hc h
    refine ob_aload d_Model_frame_60 rfl ?_
    obtain ⟨hg116, h⟩ := ob_gd h
    refine ob_getR d_Model_frame_61 F_12_86 l_Model_149 hp_v0 hg116 (fun hk115 => ?_)
    refine ob_iload d_Model_frame_64 rfl ?_
    obtain ⟨hg117, h⟩ := ob_gd h
    refine ob_iald d_Model_frame_65 hk115 hg117 ?_
    refine ob_iload d_Model_frame_66 rfl ?_
    refine ob_icmp_ge d_Model_frame_67 (fun hc => ?_) (fun hc => ?_)
    · replace h := ob_ift hc h
      refine ob_iload d_Model_frame_101 rfl ?_
      refine ob_push d_Model_frame_102 ?_
      refine ob_isub d_Model_frame_103 ?_
      refine ob_istore (lo2 := [(0, .ref v0), (1, .int v1), (2, .int v2), (3, .int v3), (4, .int s0), (5, .int (v3 - (1 : Int32)))]) d_Model_frame_104 rfl ?_
      exact v_Model_frame_L106 ob_FU v0 v1 v2 v3 s0 (v3 - (1 : Int32)) D hp_v0 h
    · replace h := ob_iff hc h
      refine ob_aload d_Model_frame_70 rfl ?_
      refine ob_iload d_Model_frame_71 rfl ?_
      refine ob_iload d_Model_frame_72 rfl ?_
      refine ob_aload d_Model_frame_73 rfl ?_
      obtain ⟨hg119, h⟩ := ob_gd h
      refine ob_getR d_Model_frame_74 F_12_86 l_Model_149 hp_v0 hg119 (fun hk118 => ?_)
      refine ob_iload d_Model_frame_77 rfl ?_
      obtain ⟨hg120, h⟩ := ob_gd h
      refine ob_iald d_Model_frame_78 hk118 hg120 ?_
      refine ob_isub d_Model_frame_79 ?_
      refine ob_push d_Model_frame_80 ?_
      refine ob_icmp_ge d_Model_frame_82 (fun hc => ?_) (fun hc => ?_)
      · replace h := ob_ift hc h
        refine ob_iload d_Model_frame_90 rfl ?_
        refine ob_aload d_Model_frame_91 rfl ?_
        obtain ⟨hg122, h⟩ := ob_gd h
        refine ob_getR d_Model_frame_92 F_12_86 l_Model_149 hp_v0 hg122 (fun hk121 => ?_)
        refine ob_iload d_Model_frame_95 rfl ?_
        obtain ⟨hg123, h⟩ := ob_gd h
        refine ob_iald d_Model_frame_96 hk121 hg123 ?_
        refine ob_isub d_Model_frame_97 ?_
        obtain ⟨D124, h125, h⟩ := ob_bv_e h
        refine ob_callVv (As := [.int v2, .int (v3 - (D.1 (D.2.1 v0 86) v2.toNatClampNeg))]) (rest := []) d_Model_frame_98 c_Model_frame_458 hp_v0 rfl rfl (Nat.le_of_ble_eq_true rfl) (c_Model_empty hp_v0 h125) ⟨Nat.le_refl _, Nat.le_refl _⟩ ⟨Nat.le_refl _, Nat.le_refl _⟩ ?_
        refine ob_iload d_Model_frame_101 rfl ?_
        refine ob_push d_Model_frame_102 ?_
        refine ob_isub d_Model_frame_103 ?_
        refine ob_istore (lo2 := [(0, .ref v0), (1, .int v1), (2, .int v2), (3, .int v3), (4, .int s0), (5, .int (v3 - (1 : Int32)))]) d_Model_frame_104 rfl ?_
        exact v_Model_frame_L106 ob_FU v0 v1 v2 v3 s0 (v3 - (1 : Int32)) D124 hp_v0 h
      · replace h := ob_iff hc h
        refine ob_push d_Model_frame_85 ?_
        refine ob_goto d_Model_frame_87 ?_
        obtain ⟨D126, h127, h⟩ := ob_bv_e h
        refine ob_callVv (As := [.int v2, .int (7 : Int32)]) (rest := []) d_Model_frame_98 c_Model_frame_458 hp_v0 rfl rfl (Nat.le_of_ble_eq_true rfl) (c_Model_empty hp_v0 h127) ⟨Nat.le_refl _, Nat.le_refl _⟩ ⟨Nat.le_refl _, Nat.le_refl _⟩ ?_
        refine ob_iload d_Model_frame_101 rfl ?_
        refine ob_push d_Model_frame_102 ?_
        refine ob_isub d_Model_frame_103 ?_
        refine ob_istore (lo2 := [(0, .ref v0), (1, .int v1), (2, .int v2), (3, .int v3), (4, .int s0), (5, .int (v3 - (1 : Int32)))]) d_Model_frame_104 rfl ?_
        exact v_Model_frame_L106 ob_FU v0 v1 v2 v3 s0 (v3 - (1 : Int32)) D126 hp_v0 h
def f_Model_frame_L28 (S : ob_S) (v0 : Nat) (v1 : Int32) (s0 : Int32) (D : ob_D) : Option (ob_D) :=
  (if s0 = (7 : Int32) then f_Model_frame_L52 S v0 v1 s0 ((D.1 v0 1) - (12 : Int32)) (2046 : Int32) D else f_Model_frame_L52 S v0 v1 s0 ((D.1 v0 1) - (12 : Int32)) (2047 : Int32) D)
theorem v_Model_frame_L28 {l : Launch} {E : ob_E} {S : ob_S} {D' : ob_D} : ∀ (v0 : Nat) (v1 : Int32) (s0 : Int32) (D : ob_D), S.1 v0 = 13 → f_Model_frame_L28 S v0 v1 s0 D = some D' → ob_V l E k_Model_frame 28 [(0, .ref v0), (1, .int v1)] [.int s0] S D none S D' := by
  intro v0 v1 s0 D hp_v0 h
  rw [f_Model_frame_L28] at h
  refine ob_istore (lo2 := [(0, .ref v0), (1, .int v1), (2, .int s0)]) d_Model_frame_28 rfl ?_
  refine ob_aload d_Model_frame_29 rfl ?_
  refine ob_getI d_Model_frame_30 F_12_1 l_Model_165 hp_v0 ?_
  refine ob_push d_Model_frame_33 ?_
  refine ob_isub d_Model_frame_35 ?_
  refine ob_istore (lo2 := [(0, .ref v0), (1, .int v1), (2, .int s0), (3, .int ((D.1 v0 1) - (12 : Int32)))]) d_Model_frame_36 rfl ?_
  refine ob_iload d_Model_frame_37 rfl ?_
  refine ob_push d_Model_frame_38 ?_
  refine ob_icmp_ne d_Model_frame_40 (fun hc => ?_) (fun hc => ?_)
  · replace h := ob_iff hc h
    refine ob_push d_Model_frame_49 ?_
    exact v_Model_frame_L52 v0 v1 s0 ((D.1 v0 1) - (12 : Int32)) (2047 : Int32) D hp_v0 h
  · replace h := ob_ift hc h
    refine ob_push d_Model_frame_43 ?_
    refine ob_goto d_Model_frame_46 ?_
    exact v_Model_frame_L52 v0 v1 s0 ((D.1 v0 1) - (12 : Int32)) (2046 : Int32) D hp_v0 h
def f_Model_frame (S : ob_S) (v0 : Nat) (v1 : Int32) (D : ob_D) : Option (ob_D) :=
  if D.2.1 v0 86 ≠ 0 then if ob_in (0 : Int32) (S.2.1 (D.2.1 v0 86)) then (if (D.1 (D.2.1 v0 86) (0 : Int32).toNatClampNeg) ≤ 0 then if D.2.1 v0 86 ≠ 0 then if ob_in (1 : Int32) (S.2.1 (D.2.1 v0 86)) then (if (D.1 (D.2.1 v0 86) (1 : Int32).toNatClampNeg) ≤ 0 then f_Model_frame_L28 S v0 v1 (7 : Int32) D else f_Model_frame_L28 S v0 v1 (1 : Int32) D) else none else none else f_Model_frame_L28 S v0 v1 (0 : Int32) D) else none else none
theorem c_Model_frame {l : Launch} {E : ob_E} {S : ob_S} {D : ob_D} {v0 : Nat} {v1 : Int32} {D' : ob_D} (hp_v0 : S.1 v0 = 13) (h : f_Model_frame S v0 v1 D = some D') : ob_M l E k_Model_frame [.ref v0, .int v1] S D none S D' := by
  refine ob_ofV (lo := [(0, .ref v0), (1, .int v1)]) (by decide) rfl (Nat.le_of_ble_eq_true rfl) rfl (Nat.le_refl _) (Nat.le_refl _) ?_
  rw [f_Model_frame] at h
  refine ob_aload d_Model_frame_0 rfl ?_
  obtain ⟨hg2, h⟩ := ob_gd h
  refine ob_getR d_Model_frame_1 F_12_86 l_Model_149 hp_v0 hg2 (fun hk1 => ?_)
  refine ob_push d_Model_frame_4 ?_
  obtain ⟨hg3, h⟩ := ob_gd h
  refine ob_iald d_Model_frame_5 hk1 hg3 ?_
  refine ob_if_le d_Model_frame_6 (fun hc => ?_) (fun hc => ?_)
  · replace h := ob_ift hc h
    refine ob_aload d_Model_frame_13 rfl ?_
    obtain ⟨hg5, h⟩ := ob_gd h
    refine ob_getR d_Model_frame_14 F_12_86 l_Model_149 hp_v0 hg5 (fun hk4 => ?_)
    refine ob_push d_Model_frame_17 ?_
    obtain ⟨hg6, h⟩ := ob_gd h
    refine ob_iald d_Model_frame_18 hk4 hg6 ?_
    refine ob_if_le d_Model_frame_19 (fun hc => ?_) (fun hc => ?_)
    · replace h := ob_ift hc h
      refine ob_push d_Model_frame_26 ?_
      exact v_Model_frame_L28 v0 v1 (7 : Int32) D hp_v0 h
    · replace h := ob_iff hc h
      refine ob_push d_Model_frame_22 ?_
      refine ob_goto d_Model_frame_23 ?_
      exact v_Model_frame_L28 v0 v1 (1 : Int32) D hp_v0 h
  · replace h := ob_iff hc h
    refine ob_push d_Model_frame_9 ?_
    refine ob_goto d_Model_frame_10 ?_
    exact v_Model_frame_L28 v0 v1 (0 : Int32) D hp_v0 h
-- OrbitBoxModel.tick()I
theorem d_Model_tick_1 : ob_dk k_Model_tick 1 2 (0 : Int32) (.iconst 0) 1 := ⟨by decide +kernel, rfl, show Int32.ofInt 0 = (0 : Int32) by decide +kernel⟩
theorem d_Model_tick_10 : ob_dk k_Model_tick 10 11 (1 : Int32) (.iconst 1) 1 := ⟨by decide +kernel, rfl, show Int32.ofInt 1 = (1 : Int32) by decide +kernel⟩
theorem d_Model_tick_16 : ob_dk k_Model_tick 16 17 (0 : Int32) (.iconst 0) 1 := ⟨by decide +kernel, rfl, show Int32.ofInt 0 = (0 : Int32) by decide +kernel⟩
theorem d_Model_tick_181 : ob_dk k_Model_tick 181 182 (0 : Int32) (.iconst 0) 1 := ⟨by decide +kernel, rfl, show Int32.ofInt 0 = (0 : Int32) by decide +kernel⟩
theorem d_Model_tick_189 : ob_dk k_Model_tick 189 190 (2 : Int32) (.iconst 2) 1 := ⟨by decide +kernel, rfl, show Int32.ofInt 2 = (2 : Int32) by decide +kernel⟩
theorem d_Model_tick_198 : ob_dk k_Model_tick 198 199 (0 : Int32) (.iconst 0) 1 := ⟨by decide +kernel, rfl, show Int32.ofInt 0 = (0 : Int32) by decide +kernel⟩
theorem d_Model_tick_201 : ob_dk k_Model_tick 201 204 (256 : Int32) (.sipush 256) 3 := ⟨by decide +kernel, rfl, show (Int16.ofInt 256).toInt32 = (256 : Int32) by decide +kernel⟩
theorem d_Model_tick_268 : ob_dk k_Model_tick 268 269 (0 : Int32) (.iconst 0) 1 := ⟨by decide +kernel, rfl, show Int32.ofInt 0 = (0 : Int32) by decide +kernel⟩
theorem d_Model_tick_271 : ob_dk k_Model_tick 271 274 (256 : Int32) (.sipush 256) 3 := ⟨by decide +kernel, rfl, show (Int16.ofInt 256).toInt32 = (256 : Int32) by decide +kernel⟩
theorem d_Model_tick_324 : ob_dk k_Model_tick 324 325 (0 : Int32) (.iconst 0) 1 := ⟨by decide +kernel, rfl, show Int32.ofInt 0 = (0 : Int32) by decide +kernel⟩
theorem d_Model_tick_334 : ob_dk k_Model_tick 334 335 (0 : Int32) (.iconst 0) 1 := ⟨by decide +kernel, rfl, show Int32.ofInt 0 = (0 : Int32) by decide +kernel⟩
theorem d_Model_tick_381 : ob_dc k_Model_tick 381 (.ireturn) 1 382 := ⟨by decide +kernel, rfl⟩
theorem d_Model_tick_380 : ob_dv ob_lc k_Model_tick 380 381 1 (.iload_n 1) 1 := ⟨by decide +kernel, rfl, rfl⟩
theorem d_Model_tick_348 : ob_dk k_Model_tick 348 349 (0 : Int32) (.iconst 0) 1 := ⟨by decide +kernel, rfl, show Int32.ofInt 0 = (0 : Int32) by decide +kernel⟩
theorem d_Model_tick_362 : ob_di k_Model_tick 362 365 1 1 (1 : Int32) := ⟨by decide +kernel, rfl, by decide +kernel, by decide +kernel⟩
theorem d_Model_tick_366 : ob_dk k_Model_tick 366 369 (256 : Int32) (.sipush 256) 3 := ⟨by decide +kernel, rfl, show (Int16.ofInt 256).toInt32 = (256 : Int32) by decide +kernel⟩
theorem d_Model_tick_374 : ob_di k_Model_tick 374 377 2 1 (1 : Int32) := ⟨by decide +kernel, rfl, by decide +kernel, by decide +kernel⟩
theorem d_Model_tick_377 : ob_db k_Model_tick 377 (.goto (-41)) (-41) 380 336 := ⟨by decide +kernel, rfl, by decide⟩
theorem d_Model_tick_371 : ob_dc k_Model_tick 371 (.invokevirtual 490) 3 374 := ⟨by decide +kernel, rfl⟩
theorem d_Model_tick_370 : ob_dc k_Model_tick 370 (.imul) 1 371 := ⟨by decide +kernel, rfl⟩
theorem d_Model_tick_369 : ob_dv ob_lc k_Model_tick 369 370 2 (.iload_n 2) 1 := ⟨by decide +kernel, rfl, rfl⟩
theorem d_Model_tick_365 : ob_dv ob_ac k_Model_tick 365 366 0 (.aload_n 0) 1 := ⟨by decide +kernel, rfl, rfl⟩
theorem d_Model_tick_357 : ob_dk k_Model_tick 357 358 (1 : Int32) (.iconst 1) 1 := ⟨by decide +kernel, rfl, show Int32.ofInt 1 = (1 : Int32) by decide +kernel⟩
theorem d_Model_tick_359 : ob_db k_Model_tick 359 (.ifCond .le 6) 6 362 365 := ⟨by decide +kernel, rfl, by decide⟩
theorem d_Model_tick_358 : ob_dc k_Model_tick 358 (.iaload) 1 359 := ⟨by decide +kernel, rfl⟩
theorem d_Model_tick_354 : ob_dc k_Model_tick 354 (.getfield 149) 3 357 := ⟨by decide +kernel, rfl⟩
theorem d_Model_tick_353 : ob_dv ob_ac k_Model_tick 353 354 0 (.aload_n 0) 1 := ⟨by decide +kernel, rfl, rfl⟩
theorem d_Model_tick_350 : ob_db k_Model_tick 350 (.ifCond .gt 12) 12 353 362 := ⟨by decide +kernel, rfl, by decide⟩
theorem d_Model_tick_349 : ob_dc k_Model_tick 349 (.iaload) 1 350 := ⟨by decide +kernel, rfl⟩
theorem d_Model_tick_345 : ob_dc k_Model_tick 345 (.getfield 149) 3 348 := ⟨by decide +kernel, rfl⟩
theorem d_Model_tick_344 : ob_dv ob_ac k_Model_tick 344 345 0 (.aload_n 0) 1 := ⟨by decide +kernel, rfl, rfl⟩
theorem d_Model_tick_341 : ob_db k_Model_tick 341 (.if_icmp .ge 39) 39 344 380 := ⟨by decide +kernel, rfl, by decide⟩
theorem d_Model_tick_338 : ob_dc k_Model_tick 338 (.getfield 168) 3 341 := ⟨by decide +kernel, rfl⟩
theorem d_Model_tick_337 : ob_dv ob_ac k_Model_tick 337 338 0 (.aload_n 0) 1 := ⟨by decide +kernel, rfl, rfl⟩
theorem d_Model_tick_336 : ob_dv ob_lc k_Model_tick 336 337 2 (.iload_n 2) 1 := ⟨by decide +kernel, rfl, rfl⟩
theorem d_Model_tick_335 : ob_dv (ob_sc k_Model_tick.2.2.2.1) k_Model_tick 335 336 2 (.istore_n 2) 1 := ⟨by decide +kernel, rfl, ⟨rfl, by decide +kernel⟩⟩
theorem d_Model_tick_331 : ob_dc k_Model_tick 331 (.putfield 487) 3 334 := ⟨by decide +kernel, rfl⟩
theorem d_Model_tick_328 : ob_dc k_Model_tick 328 (.getfield 168) 3 331 := ⟨by decide +kernel, rfl⟩
theorem d_Model_tick_327 : ob_dv ob_ac k_Model_tick 327 328 0 (.aload_n 0) 1 := ⟨by decide +kernel, rfl, rfl⟩
theorem d_Model_tick_326 : ob_dv ob_ac k_Model_tick 326 327 0 (.aload_n 0) 1 := ⟨by decide +kernel, rfl, rfl⟩
theorem d_Model_tick_325 : ob_dv (ob_sc k_Model_tick.2.2.2.1) k_Model_tick 325 326 1 (.istore_n 1) 1 := ⟨by decide +kernel, rfl, ⟨rfl, by decide +kernel⟩⟩
theorem d_Model_tick_321 : ob_dc k_Model_tick 321 (.invokevirtual 484) 3 324 := ⟨by decide +kernel, rfl⟩
theorem d_Model_tick_320 : ob_dv ob_ac k_Model_tick 320 321 0 (.aload_n 0) 1 := ⟨by decide +kernel, rfl, rfl⟩
theorem d_Model_tick_314 : ob_di k_Model_tick 314 317 1 1 (1 : Int32) := ⟨by decide +kernel, rfl, by decide +kernel, by decide +kernel⟩
theorem d_Model_tick_317 : ob_db k_Model_tick 317 (.goto (-47)) (-47) 320 270 := ⟨by decide +kernel, rfl, by decide⟩
theorem d_Model_tick_311 : ob_dc k_Model_tick 311 (.invokevirtual 348) 3 314 := ⟨by decide +kernel, rfl⟩
theorem d_Model_tick_310 : ob_dv ob_lc k_Model_tick 310 311 1 (.iload_n 1) 1 := ⟨by decide +kernel, rfl, rfl⟩
theorem d_Model_tick_309 : ob_dv ob_ac k_Model_tick 309 310 0 (.aload_n 0) 1 := ⟨by decide +kernel, rfl, rfl⟩
theorem d_Model_tick_306 : ob_db k_Model_tick 306 (.ifCond .ne 8) 8 309 314 := ⟨by decide +kernel, rfl, by decide⟩
theorem d_Model_tick_305 : ob_dc k_Model_tick 305 (.irem) 1 306 := ⟨by decide +kernel, rfl⟩
theorem d_Model_tick_304 : ob_dc k_Model_tick 304 (.iaload) 1 305 := ⟨by decide +kernel, rfl⟩
theorem d_Model_tick_303 : ob_dv ob_lc k_Model_tick 303 304 1 (.iload_n 1) 1 := ⟨by decide +kernel, rfl, rfl⟩
theorem d_Model_tick_300 : ob_dc k_Model_tick 300 (.getfield 43) 3 303 := ⟨by decide +kernel, rfl⟩
theorem d_Model_tick_299 : ob_dv ob_ac k_Model_tick 299 300 0 (.aload_n 0) 1 := ⟨by decide +kernel, rfl, rfl⟩
theorem d_Model_tick_296 : ob_dc k_Model_tick 296 (.getfield 372) 3 299 := ⟨by decide +kernel, rfl⟩
theorem d_Model_tick_295 : ob_dv ob_ac k_Model_tick 295 296 0 (.aload_n 0) 1 := ⟨by decide +kernel, rfl, rfl⟩
theorem d_Model_tick_292 : ob_db k_Model_tick 292 (.ifCond .eq 22) 22 295 314 := ⟨by decide +kernel, rfl, by decide⟩
theorem d_Model_tick_291 : ob_dc k_Model_tick 291 (.baload) 1 292 := ⟨by decide +kernel, rfl⟩
theorem d_Model_tick_290 : ob_dv ob_lc k_Model_tick 290 291 1 (.iload_n 1) 1 := ⟨by decide +kernel, rfl, rfl⟩
theorem d_Model_tick_287 : ob_dc k_Model_tick 287 (.getfield 40) 3 290 := ⟨by decide +kernel, rfl⟩
theorem d_Model_tick_286 : ob_dv ob_ac k_Model_tick 286 287 0 (.aload_n 0) 1 := ⟨by decide +kernel, rfl, rfl⟩
theorem d_Model_tick_283 : ob_db k_Model_tick 283 (.ifCond .eq 31) 31 286 314 := ⟨by decide +kernel, rfl, by decide⟩
theorem d_Model_tick_282 : ob_dc k_Model_tick 282 (.baload) 1 283 := ⟨by decide +kernel, rfl⟩
theorem d_Model_tick_281 : ob_dv ob_lc k_Model_tick 281 282 1 (.iload_n 1) 1 := ⟨by decide +kernel, rfl, rfl⟩
theorem d_Model_tick_278 : ob_dc k_Model_tick 278 (.getfield 37) 3 281 := ⟨by decide +kernel, rfl⟩
theorem d_Model_tick_277 : ob_dv ob_ac k_Model_tick 277 278 0 (.aload_n 0) 1 := ⟨by decide +kernel, rfl, rfl⟩
theorem d_Model_tick_274 : ob_db k_Model_tick 274 (.if_icmp .ge 46) 46 277 320 := ⟨by decide +kernel, rfl, by decide⟩
theorem d_Model_tick_270 : ob_dv ob_lc k_Model_tick 270 271 1 (.iload_n 1) 1 := ⟨by decide +kernel, rfl, rfl⟩
theorem d_Model_tick_269 : ob_dv (ob_sc k_Model_tick.2.2.2.1) k_Model_tick 269 270 1 (.istore_n 1) 1 := ⟨by decide +kernel, rfl, ⟨rfl, by decide +kernel⟩⟩
theorem d_Model_tick_259 : ob_dk k_Model_tick 259 260 (0 : Int32) (.iconst 0) 1 := ⟨by decide +kernel, rfl, show Int32.ofInt 0 = (0 : Int32) by decide +kernel⟩
theorem d_Model_tick_264 : ob_dk k_Model_tick 264 265 (0 : Int32) (.iconst 0) 1 := ⟨by decide +kernel, rfl, show Int32.ofInt 0 = (0 : Int32) by decide +kernel⟩
theorem d_Model_tick_265 : ob_dc k_Model_tick 265 (.invokevirtual 363) 3 268 := ⟨by decide +kernel, rfl⟩
theorem d_Model_tick_263 : ob_dv ob_ac k_Model_tick 263 264 0 (.aload_n 0) 1 := ⟨by decide +kernel, rfl, rfl⟩
theorem d_Model_tick_260 : ob_dc k_Model_tick 260 (.putfield 395) 3 263 := ⟨by decide +kernel, rfl⟩
theorem d_Model_tick_258 : ob_dv ob_ac k_Model_tick 258 259 0 (.aload_n 0) 1 := ⟨by decide +kernel, rfl, rfl⟩
theorem d_Model_tick_255 : ob_db k_Model_tick 255 (.if_icmp .gt 13) 13 258 268 := ⟨by decide +kernel, rfl, by decide⟩
theorem d_Model_tick_252 : ob_dc k_Model_tick 252 (.getfield 372) 3 255 := ⟨by decide +kernel, rfl⟩
theorem d_Model_tick_251 : ob_dv ob_ac k_Model_tick 251 252 0 (.aload_n 0) 1 := ⟨by decide +kernel, rfl, rfl⟩
theorem d_Model_tick_248 : ob_dc k_Model_tick 248 (.getfield 398) 3 251 := ⟨by decide +kernel, rfl⟩
theorem d_Model_tick_247 : ob_dv ob_ac k_Model_tick 247 248 0 (.aload_n 0) 1 := ⟨by decide +kernel, rfl, rfl⟩
theorem d_Model_tick_244 : ob_db k_Model_tick 244 (.ifCond .eq 24) 24 247 268 := ⟨by decide +kernel, rfl, by decide⟩
theorem d_Model_tick_241 : ob_dc k_Model_tick 241 (.getfield 395) 3 244 := ⟨by decide +kernel, rfl⟩
theorem d_Model_tick_240 : ob_dv ob_ac k_Model_tick 240 241 0 (.aload_n 0) 1 := ⟨by decide +kernel, rfl, rfl⟩
theorem d_Model_tick_237 : ob_dc k_Model_tick 237 (.invokevirtual 481) 3 240 := ⟨by decide +kernel, rfl⟩
theorem d_Model_tick_236 : ob_dv ob_ac k_Model_tick 236 237 0 (.aload_n 0) 1 := ⟨by decide +kernel, rfl, rfl⟩
theorem d_Model_tick_230 : ob_di k_Model_tick 230 233 1 1 (1 : Int32) := ⟨by decide +kernel, rfl, by decide +kernel, by decide +kernel⟩
theorem d_Model_tick_233 : ob_db k_Model_tick 233 (.goto (-33)) (-33) 236 200 := ⟨by decide +kernel, rfl, by decide⟩
theorem d_Model_tick_227 : ob_dc k_Model_tick 227 (.invokevirtual 478) 3 230 := ⟨by decide +kernel, rfl⟩
theorem d_Model_tick_226 : ob_dv ob_lc k_Model_tick 226 227 1 (.iload_n 1) 1 := ⟨by decide +kernel, rfl, rfl⟩
theorem d_Model_tick_225 : ob_dv ob_ac k_Model_tick 225 226 0 (.aload_n 0) 1 := ⟨by decide +kernel, rfl, rfl⟩
theorem d_Model_tick_222 : ob_db k_Model_tick 222 (.ifCond .eq 8) 8 225 230 := ⟨by decide +kernel, rfl, by decide⟩
theorem d_Model_tick_221 : ob_dc k_Model_tick 221 (.baload) 1 222 := ⟨by decide +kernel, rfl⟩
theorem d_Model_tick_220 : ob_dv ob_lc k_Model_tick 220 221 1 (.iload_n 1) 1 := ⟨by decide +kernel, rfl, rfl⟩
theorem d_Model_tick_217 : ob_dc k_Model_tick 217 (.getfield 76) 3 220 := ⟨by decide +kernel, rfl⟩
theorem d_Model_tick_216 : ob_dv ob_ac k_Model_tick 216 217 0 (.aload_n 0) 1 := ⟨by decide +kernel, rfl, rfl⟩
theorem d_Model_tick_213 : ob_db k_Model_tick 213 (.ifCond .eq 17) 17 216 230 := ⟨by decide +kernel, rfl, by decide⟩
theorem d_Model_tick_212 : ob_dc k_Model_tick 212 (.baload) 1 213 := ⟨by decide +kernel, rfl⟩
theorem d_Model_tick_211 : ob_dv ob_lc k_Model_tick 211 212 1 (.iload_n 1) 1 := ⟨by decide +kernel, rfl, rfl⟩
theorem d_Model_tick_208 : ob_dc k_Model_tick 208 (.getfield 73) 3 211 := ⟨by decide +kernel, rfl⟩
theorem d_Model_tick_207 : ob_dv ob_ac k_Model_tick 207 208 0 (.aload_n 0) 1 := ⟨by decide +kernel, rfl, rfl⟩
theorem d_Model_tick_204 : ob_db k_Model_tick 204 (.if_icmp .ge 32) 32 207 236 := ⟨by decide +kernel, rfl, by decide⟩
theorem d_Model_tick_200 : ob_dv ob_lc k_Model_tick 200 201 1 (.iload_n 1) 1 := ⟨by decide +kernel, rfl, rfl⟩
theorem d_Model_tick_199 : ob_dv (ob_sc k_Model_tick.2.2.2.1) k_Model_tick 199 200 1 (.istore_n 1) 1 := ⟨by decide +kernel, rfl, ⟨rfl, by decide +kernel⟩⟩
theorem d_Model_tick_194 : ob_dk k_Model_tick 194 195 (1 : Int32) (.iconst 1) 1 := ⟨by decide +kernel, rfl, show Int32.ofInt 1 = (1 : Int32) by decide +kernel⟩
theorem d_Model_tick_195 : ob_dc k_Model_tick 195 (.putfield 23) 3 198 := ⟨by decide +kernel, rfl⟩
theorem d_Model_tick_193 : ob_dv ob_ac k_Model_tick 193 194 0 (.aload_n 0) 1 := ⟨by decide +kernel, rfl, rfl⟩
theorem d_Model_tick_190 : ob_db k_Model_tick 190 (.if_icmp .ne 8) 8 193 198 := ⟨by decide +kernel, rfl, by decide⟩
theorem d_Model_tick_186 : ob_dc k_Model_tick 186 (.getfield 23) 3 189 := ⟨by decide +kernel, rfl⟩
theorem d_Model_tick_185 : ob_dv ob_ac k_Model_tick 185 186 0 (.aload_n 0) 1 := ⟨by decide +kernel, rfl, rfl⟩
theorem d_Model_tick_182 : ob_dc k_Model_tick 182 (.putfield 248) 3 185 := ⟨by decide +kernel, rfl⟩
theorem d_Model_tick_180 : ob_dv ob_ac k_Model_tick 180 181 0 (.aload_n 0) 1 := ⟨by decide +kernel, rfl, rfl⟩
theorem d_Model_tick_94 : ob_dk k_Model_tick 94 95 (0 : Int32) (.iconst 0) 1 := ⟨by decide +kernel, rfl, show Int32.ofInt 0 = (0 : Int32) by decide +kernel⟩
theorem d_Model_tick_99 : ob_dk k_Model_tick 99 100 (0 : Int32) (.iconst 0) 1 := ⟨by decide +kernel, rfl, show Int32.ofInt 0 = (0 : Int32) by decide +kernel⟩
theorem d_Model_tick_109 : ob_dk k_Model_tick 109 110 (1 : Int32) (.iconst 1) 1 := ⟨by decide +kernel, rfl, show Int32.ofInt 1 = (1 : Int32) by decide +kernel⟩
theorem d_Model_tick_114 : ob_dk k_Model_tick 114 115 (0 : Int32) (.iconst 0) 1 := ⟨by decide +kernel, rfl, show Int32.ofInt 0 = (0 : Int32) by decide +kernel⟩
theorem d_Model_tick_177 : ob_db k_Model_tick 177 (.goto (-95)) (-95) 180 82 := ⟨by decide +kernel, rfl, by decide⟩
theorem d_Model_tick_174 : ob_dc k_Model_tick 174 (.invokevirtual 411) 3 177 := ⟨by decide +kernel, rfl⟩
theorem d_Model_tick_173 : ob_dv ob_ac k_Model_tick 173 174 0 (.aload_n 0) 1 := ⟨by decide +kernel, rfl, rfl⟩
theorem d_Model_tick_134 : ob_dk k_Model_tick 134 135 (1 : Int32) (.iconst 1) 1 := ⟨by decide +kernel, rfl, show Int32.ofInt 1 = (1 : Int32) by decide +kernel⟩
theorem d_Model_tick_142 : ob_dk k_Model_tick 142 145 (260 : Int32) (.sipush 260) 3 := ⟨by decide +kernel, rfl, show (Int16.ofInt 260).toInt32 = (260 : Int32) by decide +kernel⟩
theorem d_Model_tick_146 : ob_dk k_Model_tick 146 147 (1 : Int32) (.iconst 1) 1 := ⟨by decide +kernel, rfl, show Int32.ofInt 1 = (1 : Int32) by decide +kernel⟩
theorem d_Model_tick_153 : ob_dk k_Model_tick 153 156 (260 : Int32) (.sipush 260) 3 := ⟨by decide +kernel, rfl, show (Int16.ofInt 260).toInt32 = (260 : Int32) by decide +kernel⟩
theorem d_Model_tick_167 : ob_di k_Model_tick 167 170 1 1 (1 : Int32) := ⟨by decide +kernel, rfl, by decide +kernel, by decide +kernel⟩
theorem d_Model_tick_170 : ob_db k_Model_tick 170 (.goto (-54)) (-54) 173 116 := ⟨by decide +kernel, rfl, by decide⟩
theorem d_Model_tick_164 : ob_dc k_Model_tick 164 (.invokestatic 437) 3 167 := ⟨by decide +kernel, rfl⟩
theorem d_Model_tick_163 : ob_dc k_Model_tick 163 (.iaload) 1 164 := ⟨by decide +kernel, rfl⟩
theorem d_Model_tick_162 : ob_dv ob_lc k_Model_tick 162 163 1 (.iload_n 1) 1 := ⟨by decide +kernel, rfl, rfl⟩
theorem d_Model_tick_159 : ob_dc k_Model_tick 159 (.getfield 30) 3 162 := ⟨by decide +kernel, rfl⟩
theorem d_Model_tick_158 : ob_dv ob_ac k_Model_tick 158 159 0 (.aload_n 0) 1 := ⟨by decide +kernel, rfl, rfl⟩
theorem d_Model_tick_157 : ob_dc k_Model_tick 157 (.imul) 1 158 := ⟨by decide +kernel, rfl⟩
theorem d_Model_tick_156 : ob_dv ob_lc k_Model_tick 156 157 1 (.iload_n 1) 1 := ⟨by decide +kernel, rfl, rfl⟩
theorem d_Model_tick_150 : ob_dc k_Model_tick 150 (.getfield 27) 3 153 := ⟨by decide +kernel, rfl⟩
theorem d_Model_tick_149 : ob_dv ob_ac k_Model_tick 149 150 0 (.aload_n 0) 1 := ⟨by decide +kernel, rfl, rfl⟩
theorem d_Model_tick_148 : ob_dc k_Model_tick 148 (.imul) 1 149 := ⟨by decide +kernel, rfl⟩
theorem d_Model_tick_147 : ob_dc k_Model_tick 147 (.iadd) 1 148 := ⟨by decide +kernel, rfl⟩
theorem d_Model_tick_145 : ob_dv ob_lc k_Model_tick 145 146 1 (.iload_n 1) 1 := ⟨by decide +kernel, rfl, rfl⟩
theorem d_Model_tick_139 : ob_dc k_Model_tick 139 (.getfield 27) 3 142 := ⟨by decide +kernel, rfl⟩
theorem d_Model_tick_138 : ob_dv ob_ac k_Model_tick 138 139 0 (.aload_n 0) 1 := ⟨by decide +kernel, rfl, rfl⟩
theorem d_Model_tick_137 : ob_dc k_Model_tick 137 (.iastore) 1 138 := ⟨by decide +kernel, rfl⟩
theorem d_Model_tick_136 : ob_dc k_Model_tick 136 (.iaload) 1 137 := ⟨by decide +kernel, rfl⟩
theorem d_Model_tick_135 : ob_dc k_Model_tick 135 (.iadd) 1 136 := ⟨by decide +kernel, rfl⟩
theorem d_Model_tick_133 : ob_dv ob_lc k_Model_tick 133 134 1 (.iload_n 1) 1 := ⟨by decide +kernel, rfl, rfl⟩
theorem d_Model_tick_130 : ob_dc k_Model_tick 130 (.getfield 30) 3 133 := ⟨by decide +kernel, rfl⟩
theorem d_Model_tick_129 : ob_dv ob_ac k_Model_tick 129 130 0 (.aload_n 0) 1 := ⟨by decide +kernel, rfl, rfl⟩
theorem d_Model_tick_128 : ob_dv ob_lc k_Model_tick 128 129 1 (.iload_n 1) 1 := ⟨by decide +kernel, rfl, rfl⟩
theorem d_Model_tick_125 : ob_dc k_Model_tick 125 (.getfield 30) 3 128 := ⟨by decide +kernel, rfl⟩
theorem d_Model_tick_124 : ob_dv ob_ac k_Model_tick 124 125 0 (.aload_n 0) 1 := ⟨by decide +kernel, rfl, rfl⟩
theorem d_Model_tick_121 : ob_db k_Model_tick 121 (.if_icmp .ge 52) 52 124 173 := ⟨by decide +kernel, rfl, by decide⟩
theorem d_Model_tick_118 : ob_dc k_Model_tick 118 (.getfield 229) 3 121 := ⟨by decide +kernel, rfl⟩
theorem d_Model_tick_117 : ob_dv ob_ac k_Model_tick 117 118 0 (.aload_n 0) 1 := ⟨by decide +kernel, rfl, rfl⟩
theorem d_Model_tick_116 : ob_dv ob_lc k_Model_tick 116 117 1 (.iload_n 1) 1 := ⟨by decide +kernel, rfl, rfl⟩
theorem d_Model_tick_115 : ob_dv (ob_sc k_Model_tick.2.2.2.1) k_Model_tick 115 116 1 (.istore_n 1) 1 := ⟨by decide +kernel, rfl, ⟨rfl, by decide +kernel⟩⟩
theorem d_Model_tick_111 : ob_dc k_Model_tick 111 (.putfield 229) 3 114 := ⟨by decide +kernel, rfl⟩
theorem d_Model_tick_110 : ob_dc k_Model_tick 110 (.isub) 1 111 := ⟨by decide +kernel, rfl⟩
theorem d_Model_tick_106 : ob_dc k_Model_tick 106 (.getfield 229) 3 109 := ⟨by decide +kernel, rfl⟩
theorem d_Model_tick_105 : ob_dc k_Model_tick 105 (.dup) 1 106 := ⟨by decide +kernel, rfl⟩
theorem d_Model_tick_104 : ob_dv ob_ac k_Model_tick 104 105 0 (.aload_n 0) 1 := ⟨by decide +kernel, rfl, rfl⟩
theorem d_Model_tick_101 : ob_dc k_Model_tick 101 (.invokevirtual 407) 3 104 := ⟨by decide +kernel, rfl⟩
theorem d_Model_tick_100 : ob_dc k_Model_tick 100 (.iaload) 1 101 := ⟨by decide +kernel, rfl⟩
theorem d_Model_tick_96 : ob_dc k_Model_tick 96 (.getfield 30) 3 99 := ⟨by decide +kernel, rfl⟩
theorem d_Model_tick_95 : ob_dv ob_ac k_Model_tick 95 96 0 (.aload_n 0) 1 := ⟨by decide +kernel, rfl, rfl⟩
theorem d_Model_tick_91 : ob_dc k_Model_tick 91 (.getfield 27) 3 94 := ⟨by decide +kernel, rfl⟩
theorem d_Model_tick_90 : ob_dv ob_ac k_Model_tick 90 91 0 (.aload_n 0) 1 := ⟨by decide +kernel, rfl, rfl⟩
theorem d_Model_tick_89 : ob_dv ob_ac k_Model_tick 89 90 0 (.aload_n 0) 1 := ⟨by decide +kernel, rfl, rfl⟩
theorem d_Model_tick_86 : ob_db k_Model_tick 86 (.ifCond .le 94) 94 89 180 := ⟨by decide +kernel, rfl, by decide⟩
theorem d_Model_tick_83 : ob_dc k_Model_tick 83 (.getfield 229) 3 86 := ⟨by decide +kernel, rfl⟩
theorem d_Model_tick_82 : ob_dv ob_ac k_Model_tick 82 83 0 (.aload_n 0) 1 := ⟨by decide +kernel, rfl, rfl⟩
theorem d_Model_tick_43 : ob_dk k_Model_tick 43 46 (260 : Int32) (.sipush 260) 3 := ⟨by decide +kernel, rfl, show (Int16.ofInt 260).toInt32 = (260 : Int32) by decide +kernel⟩
theorem d_Model_tick_74 : ob_dk k_Model_tick 74 75 (0 : Int32) (.iconst 0) 1 := ⟨by decide +kernel, rfl, show Int32.ofInt 0 = (0 : Int32) by decide +kernel⟩
theorem d_Model_tick_79 : ob_db k_Model_tick 79 (.goto (-58)) (-58) 82 21 := ⟨by decide +kernel, rfl, by decide⟩
theorem d_Model_tick_78 : ob_dv (ob_sc k_Model_tick.2.2.2.1) k_Model_tick 78 79 1 (.istore_n 1) 1 := ⟨by decide +kernel, rfl, ⟨rfl, by decide +kernel⟩⟩
theorem d_Model_tick_75 : ob_dc k_Model_tick 75 (.invokevirtual 386) 3 78 := ⟨by decide +kernel, rfl⟩
theorem d_Model_tick_73 : ob_dv ob_ac k_Model_tick 73 74 0 (.aload_n 0) 1 := ⟨by decide +kernel, rfl, rfl⟩
theorem d_Model_tick_70 : ob_dc k_Model_tick 70 (.invokevirtual 411) 3 73 := ⟨by decide +kernel, rfl⟩
theorem d_Model_tick_69 : ob_dv ob_ac k_Model_tick 69 70 0 (.aload_n 0) 1 := ⟨by decide +kernel, rfl, rfl⟩
theorem d_Model_tick_66 : ob_db k_Model_tick 66 (.ifCond .eq 7) 7 69 73 := ⟨by decide +kernel, rfl, by decide⟩
theorem d_Model_tick_63 : ob_dc k_Model_tick 63 (.getfield 380) 3 66 := ⟨by decide +kernel, rfl⟩
theorem d_Model_tick_62 : ob_dv ob_ac k_Model_tick 62 63 0 (.aload_n 0) 1 := ⟨by decide +kernel, rfl, rfl⟩
theorem d_Model_tick_59 : ob_dc k_Model_tick 59 (.invokevirtual 383) 3 62 := ⟨by decide +kernel, rfl⟩
theorem d_Model_tick_58 : ob_dv ob_lc k_Model_tick 58 59 1 (.iload_n 1) 1 := ⟨by decide +kernel, rfl, rfl⟩
theorem d_Model_tick_57 : ob_dv ob_ac k_Model_tick 57 58 0 (.aload_n 0) 1 := ⟨by decide +kernel, rfl, rfl⟩
theorem d_Model_tick_54 : ob_dc k_Model_tick 54 (.invokevirtual 407) 3 57 := ⟨by decide +kernel, rfl⟩
theorem d_Model_tick_53 : ob_dc k_Model_tick 53 (.iaload) 1 54 := ⟨by decide +kernel, rfl⟩
theorem d_Model_tick_52 : ob_dv ob_lc k_Model_tick 52 53 1 (.iload_n 1) 1 := ⟨by decide +kernel, rfl, rfl⟩
theorem d_Model_tick_49 : ob_dc k_Model_tick 49 (.getfield 67) 3 52 := ⟨by decide +kernel, rfl⟩
theorem d_Model_tick_48 : ob_dv ob_ac k_Model_tick 48 49 0 (.aload_n 0) 1 := ⟨by decide +kernel, rfl, rfl⟩
theorem d_Model_tick_47 : ob_dc k_Model_tick 47 (.imul) 1 48 := ⟨by decide +kernel, rfl⟩
theorem d_Model_tick_46 : ob_dv ob_lc k_Model_tick 46 47 1 (.iload_n 1) 1 := ⟨by decide +kernel, rfl, rfl⟩
theorem d_Model_tick_40 : ob_dc k_Model_tick 40 (.getfield 70) 3 43 := ⟨by decide +kernel, rfl⟩
theorem d_Model_tick_39 : ob_dv ob_ac k_Model_tick 39 40 0 (.aload_n 0) 1 := ⟨by decide +kernel, rfl, rfl⟩
theorem d_Model_tick_38 : ob_dv ob_ac k_Model_tick 38 39 0 (.aload_n 0) 1 := ⟨by decide +kernel, rfl, rfl⟩
theorem d_Model_tick_35 : ob_db k_Model_tick 35 (.if_icmp .gt 47) 47 38 82 := ⟨by decide +kernel, rfl, by decide⟩
theorem d_Model_tick_32 : ob_dc k_Model_tick 32 (.getfield 372) 3 35 := ⟨by decide +kernel, rfl⟩
theorem d_Model_tick_31 : ob_dv ob_ac k_Model_tick 31 32 0 (.aload_n 0) 1 := ⟨by decide +kernel, rfl, rfl⟩
theorem d_Model_tick_30 : ob_dc k_Model_tick 30 (.iaload) 1 31 := ⟨by decide +kernel, rfl⟩
theorem d_Model_tick_29 : ob_dv ob_lc k_Model_tick 29 30 1 (.iload_n 1) 1 := ⟨by decide +kernel, rfl, rfl⟩
theorem d_Model_tick_26 : ob_dc k_Model_tick 26 (.getfield 64) 3 29 := ⟨by decide +kernel, rfl⟩
theorem d_Model_tick_25 : ob_dv ob_ac k_Model_tick 25 26 0 (.aload_n 0) 1 := ⟨by decide +kernel, rfl, rfl⟩
theorem d_Model_tick_22 : ob_db k_Model_tick 22 (.ifCond .lt 60) 60 25 82 := ⟨by decide +kernel, rfl, by decide⟩
theorem d_Model_tick_21 : ob_dv ob_lc k_Model_tick 21 22 1 (.iload_n 1) 1 := ⟨by decide +kernel, rfl, rfl⟩
theorem d_Model_tick_20 : ob_dv (ob_sc k_Model_tick.2.2.2.1) k_Model_tick 20 21 1 (.istore_n 1) 1 := ⟨by decide +kernel, rfl, ⟨rfl, by decide +kernel⟩⟩
theorem d_Model_tick_17 : ob_dc k_Model_tick 17 (.invokevirtual 386) 3 20 := ⟨by decide +kernel, rfl⟩
theorem d_Model_tick_15 : ob_dv ob_ac k_Model_tick 15 16 0 (.aload_n 0) 1 := ⟨by decide +kernel, rfl, rfl⟩
theorem d_Model_tick_12 : ob_dc k_Model_tick 12 (.putfield 372) 3 15 := ⟨by decide +kernel, rfl⟩
theorem d_Model_tick_11 : ob_dc k_Model_tick 11 (.iadd) 1 12 := ⟨by decide +kernel, rfl⟩
theorem d_Model_tick_7 : ob_dc k_Model_tick 7 (.getfield 372) 3 10 := ⟨by decide +kernel, rfl⟩
theorem d_Model_tick_6 : ob_dc k_Model_tick 6 (.dup) 1 7 := ⟨by decide +kernel, rfl⟩
theorem d_Model_tick_5 : ob_dv ob_ac k_Model_tick 5 6 0 (.aload_n 0) 1 := ⟨by decide +kernel, rfl, rfl⟩
theorem d_Model_tick_2 : ob_dc k_Model_tick 2 (.putfield 468) 3 5 := ⟨by decide +kernel, rfl⟩
theorem d_Model_tick_0 : ob_dv ob_ac k_Model_tick 0 1 0 (.aload_n 0) 1 := ⟨by decide +kernel, rfl, rfl⟩
theorem c_Model_tick_490 : ob_vd k_Model_tick k_Model_frame 490 1 12 := ⟨cw_Model_frame, yd_Model_frame, w_1608, w_1610, wp_97, w_14, ⟨_, _, rfl⟩, by decide, by decide⟩
theorem c_Model_tick_484 : ob_vd k_Model_tick k_Model_retrieve 484 0 12 := ⟨cw_Model_retrieve, yd_Model_retrieve, w_1604, w_1606, wp_96, w_14, ⟨_, _, rfl⟩, by decide, by decide⟩
theorem c_Model_tick_348 : ob_vd k_Model_tick k_Model_formReport 348 1 12 := ⟨cw_Model_formReport, yd_Model_formReport, w_1556, w_1558, wp_84, w_14, ⟨_, _, rfl⟩, by decide, by decide⟩
theorem c_Model_tick_363 : ob_vd k_Model_tick k_Model_becomes 363 1 12 := ⟨cw_Model_becomes, yd_Model_becomes, w_1572, w_1574, wp_88, w_14, ⟨_, _, rfl⟩, by decide, by decide⟩
theorem c_Model_tick_481 : ob_vd k_Model_tick k_Model_workEvents 481 0 12 := ⟨cw_Model_workEvents, yd_Model_workEvents, w_1600, w_1602, wp_95, w_14, ⟨_, _, rfl⟩, by decide, by decide⟩
theorem c_Model_tick_478 : ob_vd k_Model_tick k_Model_watch 478 1 12 := ⟨cw_Model_watch, yd_Model_watch, w_1596, w_1598, wp_94, w_14, ⟨_, _, rfl⟩, by decide, by decide⟩
theorem c_Model_tick_411 : ob_vd k_Model_tick k_Model_handle 411 0 12 := ⟨cw_Model_handle, yd_Model_handle, w_1442, w_1444, wp_59, w_14, ⟨_, _, rfl⟩, by decide, by decide⟩
theorem c_Model_tick_407 : ob_vd k_Model_tick k_Model_take 407 3 12 := ⟨cw_Model_take, yd_Model_take, w_1434, w_1436, wp_57, w_14, ⟨_, _, rfl⟩, by decide, by decide⟩
theorem c_Model_tick_386 : ob_vd k_Model_tick k_Model_due 386 1 12 := ⟨cw_Model_due, yd_Model_due, w_1430, w_1432, wp_56, w_14, ⟨_, _, rfl⟩, by decide, by decide⟩
theorem c_Model_tick_383 : ob_vd k_Model_tick k_Model_dropEntry 383 1 12 := ⟨cw_Model_dropEntry, yd_Model_dropEntry, w_1438, w_1440, wp_58, w_14, ⟨_, _, rfl⟩, by decide, by decide⟩
def f_Model_tick_L336 (S : ob_S) : Nat → Nat → Int32 → Int32 → ob_D → Option (Int32 × ob_D)
  | 0, _, _, _, _ => none
  | n + 1, v0, v1, v2, D => (if (D.1 v0 2) ≤ v2 then some (v1, D) else if D.2.1 v0 86 ≠ 0 then if ob_in (0 : Int32) (S.2.1 (D.2.1 v0 86)) then (if 0 < (D.1 (D.2.1 v0 86) (0 : Int32).toNatClampNeg) then ob_bv (f_Model_frame S v0 ((256 : Int32) * v2) D) fun D15 => f_Model_tick_L336 S n v0 (v1 + (1 : Int32)) (v2 + (1 : Int32)) D15 else if D.2.1 v0 86 ≠ 0 then if ob_in (1 : Int32) (S.2.1 (D.2.1 v0 86)) then (if (D.1 (D.2.1 v0 86) (1 : Int32).toNatClampNeg) ≤ 0 then ob_bv (f_Model_frame S v0 ((256 : Int32) * v2) D) fun D20 => f_Model_tick_L336 S n v0 v1 (v2 + (1 : Int32)) D20 else ob_bv (f_Model_frame S v0 ((256 : Int32) * v2) D) fun D22 => f_Model_tick_L336 S n v0 (v1 + (1 : Int32)) (v2 + (1 : Int32)) D22) else none else none) else none else none)
theorem v_Model_tick_L336 {l : Launch} {E : ob_E} {S : ob_S} {r : Int32} {D' : ob_D} : ∀ (n : Nat), ∀ (v0 : Nat) (v1 : Int32) (v2 : Int32) (D : ob_D), S.1 v0 = 13 → f_Model_tick_L336 S n v0 v1 v2 D = some (r, D') → ob_V l E k_Model_tick 336 [(0, .ref v0), (1, .int v1), (2, .int v2)] [] S D (some (.int r)) S D' := by
  intro n
  induction n with
  | zero =>
    intro v0 v1 v2 D hp_v0 h
    have h : none = some (r, D') := h
    cases h
  | succ n ih =>
    intro v0 v1 v2 D hp_v0 h
    rw [f_Model_tick_L336] at h
    refine ob_iload d_Model_tick_336 rfl ?_
    refine ob_aload d_Model_tick_337 rfl ?_
    refine ob_getI d_Model_tick_338 F_12_2 l_Model_168 hp_v0 ?_
    refine ob_icmp_ge d_Model_tick_341 (fun hc => ?_) (fun hc => ?_)
    · replace h := ob_ift hc h
      refine ob_iload d_Model_tick_380 rfl ?_
      exact ob_ie h (ob_iret d_Model_tick_381 rfl rfl)
    · replace h := ob_iff hc h
      refine ob_aload d_Model_tick_344 rfl ?_
      obtain ⟨hg13, h⟩ := ob_gd h
      refine ob_getR d_Model_tick_345 F_12_86 l_Model_149 hp_v0 hg13 (fun hk12 => ?_)
      refine ob_push d_Model_tick_348 ?_
      obtain ⟨hg14, h⟩ := ob_gd h
      refine ob_iald d_Model_tick_349 hk12 hg14 ?_
      refine ob_if_gt d_Model_tick_350 (fun hc => ?_) (fun hc => ?_)
      · replace h := ob_ift hc h
        refine ob_iinc (lo2 := [(0, .ref v0), (1, .int (v1 + (1 : Int32))), (2, .int v2)]) d_Model_tick_362 rfl rfl ?_
        refine ob_aload d_Model_tick_365 rfl ?_
        refine ob_push d_Model_tick_366 ?_
        refine ob_iload d_Model_tick_369 rfl ?_
        refine ob_imul d_Model_tick_370 ?_
        obtain ⟨D15, h16, h⟩ := ob_bv_e h
        refine ob_callVv (As := [.int ((256 : Int32) * v2)]) (rest := []) d_Model_tick_371 c_Model_tick_490 hp_v0 rfl rfl (Nat.le_of_ble_eq_true rfl) (c_Model_frame hp_v0 h16) ⟨Nat.le_refl _, Nat.le_refl _⟩ ⟨Nat.le_refl _, Nat.le_refl _⟩ ?_
        refine ob_iinc (lo2 := [(0, .ref v0), (1, .int (v1 + (1 : Int32))), (2, .int (v2 + (1 : Int32)))]) d_Model_tick_374 rfl rfl ?_
        refine ob_goto d_Model_tick_377 ?_
        exact ih v0 (v1 + (1 : Int32)) (v2 + (1 : Int32)) D15 hp_v0 h
      · replace h := ob_iff hc h
        refine ob_aload d_Model_tick_353 rfl ?_
        obtain ⟨hg18, h⟩ := ob_gd h
        refine ob_getR d_Model_tick_354 F_12_86 l_Model_149 hp_v0 hg18 (fun hk17 => ?_)
        refine ob_push d_Model_tick_357 ?_
        obtain ⟨hg19, h⟩ := ob_gd h
        refine ob_iald d_Model_tick_358 hk17 hg19 ?_
        refine ob_if_le d_Model_tick_359 (fun hc => ?_) (fun hc => ?_)
        · replace h := ob_ift hc h
          refine ob_aload d_Model_tick_365 rfl ?_
          refine ob_push d_Model_tick_366 ?_
          refine ob_iload d_Model_tick_369 rfl ?_
          refine ob_imul d_Model_tick_370 ?_
          obtain ⟨D20, h21, h⟩ := ob_bv_e h
          refine ob_callVv (As := [.int ((256 : Int32) * v2)]) (rest := []) d_Model_tick_371 c_Model_tick_490 hp_v0 rfl rfl (Nat.le_of_ble_eq_true rfl) (c_Model_frame hp_v0 h21) ⟨Nat.le_refl _, Nat.le_refl _⟩ ⟨Nat.le_refl _, Nat.le_refl _⟩ ?_
          refine ob_iinc (lo2 := [(0, .ref v0), (1, .int v1), (2, .int (v2 + (1 : Int32)))]) d_Model_tick_374 rfl rfl ?_
          refine ob_goto d_Model_tick_377 ?_
          exact ih v0 v1 (v2 + (1 : Int32)) D20 hp_v0 h
        · replace h := ob_iff hc h
          refine ob_iinc (lo2 := [(0, .ref v0), (1, .int (v1 + (1 : Int32))), (2, .int v2)]) d_Model_tick_362 rfl rfl ?_
          refine ob_aload d_Model_tick_365 rfl ?_
          refine ob_push d_Model_tick_366 ?_
          refine ob_iload d_Model_tick_369 rfl ?_
          refine ob_imul d_Model_tick_370 ?_
          obtain ⟨D22, h23, h⟩ := ob_bv_e h
          refine ob_callVv (As := [.int ((256 : Int32) * v2)]) (rest := []) d_Model_tick_371 c_Model_tick_490 hp_v0 rfl rfl (Nat.le_of_ble_eq_true rfl) (c_Model_frame hp_v0 h23) ⟨Nat.le_refl _, Nat.le_refl _⟩ ⟨Nat.le_refl _, Nat.le_refl _⟩ ?_
          refine ob_iinc (lo2 := [(0, .ref v0), (1, .int (v1 + (1 : Int32))), (2, .int (v2 + (1 : Int32)))]) d_Model_tick_374 rfl rfl ?_
          refine ob_goto d_Model_tick_377 ?_
          exact ih v0 (v1 + (1 : Int32)) (v2 + (1 : Int32)) D22 hp_v0 h
def f_Model_tick_L270 (S : ob_S) : Nat → Nat → Int32 → ob_D → Option (Int32 × ob_D)
  | 0, _, _, _ => none
  | n + 1, v0, v1, D => (if (256 : Int32) ≤ v1 then ob_bv (f_Model_retrieve S v0 D) fun D9 => ob_lt (ob_pI D9 v0 88 (D9.1 v0 2)) fun D11 => f_Model_tick_L336 S ob_FU v0 (0 : Int32) (0 : Int32) D11 else if D.2.1 v0 31 ≠ 0 then if ob_in v1 (S.2.1 (D.2.1 v0 31)) then (if (D.1 (D.2.1 v0 31) v1.toNatClampNeg) = 0 then f_Model_tick_L270 S n v0 (v1 + (1 : Int32)) D else if D.2.1 v0 32 ≠ 0 then if ob_in v1 (S.2.1 (D.2.1 v0 32)) then (if (D.1 (D.2.1 v0 32) v1.toNatClampNeg) = 0 then f_Model_tick_L270 S n v0 (v1 + (1 : Int32)) D else if D.2.1 v0 33 ≠ 0 then if ob_in v1 (S.2.1 (D.2.1 v0 33)) then if ¬ (D.1 (D.2.1 v0 33) v1.toNatClampNeg) = 0 then (if ((D.1 v0 41) - (D.1 v0 41) / (D.1 (D.2.1 v0 33) v1.toNatClampNeg) * (D.1 (D.2.1 v0 33) v1.toNatClampNeg)) = 0 then ob_bv (f_Model_formReport S v0 v1 D) fun D33 => f_Model_tick_L270 S n v0 (v1 + (1 : Int32)) D33 else f_Model_tick_L270 S n v0 (v1 + (1 : Int32)) D) else none else none else none) else none else none) else none else none)
theorem v_Model_tick_L270 {l : Launch} {E : ob_E} {S : ob_S} {r : Int32} {D' : ob_D} : ∀ (n : Nat), ∀ (v0 : Nat) (v1 : Int32) (D : ob_D), S.1 v0 = 13 → f_Model_tick_L270 S n v0 v1 D = some (r, D') → ob_V l E k_Model_tick 270 [(0, .ref v0), (1, .int v1)] [] S D (some (.int r)) S D' := by
  intro n
  induction n with
  | zero =>
    intro v0 v1 D hp_v0 h
    have h : none = some (r, D') := h
    cases h
  | succ n ih =>
    intro v0 v1 D hp_v0 h
    rw [f_Model_tick_L270] at h
    refine ob_iload d_Model_tick_270 rfl ?_
    refine ob_push d_Model_tick_271 ?_
    refine ob_icmp_ge d_Model_tick_274 (fun hc => ?_) (fun hc => ?_)
    · replace h := ob_ift hc h
      refine ob_aload d_Model_tick_320 rfl ?_
      obtain ⟨D9, h10, h⟩ := ob_bv_e h
      refine ob_callVv (As := []) (rest := []) d_Model_tick_321 c_Model_tick_484 hp_v0 rfl rfl (Nat.le_of_ble_eq_true rfl) (c_Model_retrieve hp_v0 h10) ⟨Nat.le_refl _, Nat.le_refl _⟩ ⟨Nat.le_refl _, Nat.le_refl _⟩ ?_
      refine ob_push d_Model_tick_324 ?_
      refine ob_istore (lo2 := [(0, .ref v0), (1, .int (0 : Int32))]) d_Model_tick_325 rfl ?_
      refine ob_aload d_Model_tick_326 rfl ?_
      refine ob_aload d_Model_tick_327 rfl ?_
      refine ob_getI d_Model_tick_328 F_12_2 l_Model_168 hp_v0 ?_
      replace h := ob_lt_e h
      refine ob_putI d_Model_tick_331 F_12_88 l_Model_487 hp_v0 ?_
      refine ob_push d_Model_tick_334 ?_
      refine ob_istore (lo2 := [(0, .ref v0), (1, .int (0 : Int32)), (2, .int (0 : Int32))]) d_Model_tick_335 rfl ?_
      exact v_Model_tick_L336 ob_FU v0 (0 : Int32) (0 : Int32) (ob_pI D9 v0 88 (D9.1 v0 2)) hp_v0 h
    · replace h := ob_iff hc h
      refine ob_aload d_Model_tick_277 rfl ?_
      obtain ⟨hg25, h⟩ := ob_gd h
      refine ob_getR d_Model_tick_278 F_12_31 l_Model_37 hp_v0 hg25 (fun hk24 => ?_)
      refine ob_iload d_Model_tick_281 rfl ?_
      obtain ⟨hg26, h⟩ := ob_gd h
      refine ob_zald d_Model_tick_282 hk24 hg26 ?_
      refine ob_if_eq d_Model_tick_283 (fun hc => ?_) (fun hc => ?_)
      · replace h := ob_ift hc h
        refine ob_iinc (lo2 := [(0, .ref v0), (1, .int (v1 + (1 : Int32)))]) d_Model_tick_314 rfl rfl ?_
        refine ob_goto d_Model_tick_317 ?_
        exact ih v0 (v1 + (1 : Int32)) D hp_v0 h
      · replace h := ob_iff hc h
        refine ob_aload d_Model_tick_286 rfl ?_
        obtain ⟨hg28, h⟩ := ob_gd h
        refine ob_getR d_Model_tick_287 F_12_32 l_Model_40 hp_v0 hg28 (fun hk27 => ?_)
        refine ob_iload d_Model_tick_290 rfl ?_
        obtain ⟨hg29, h⟩ := ob_gd h
        refine ob_zald d_Model_tick_291 hk27 hg29 ?_
        refine ob_if_eq d_Model_tick_292 (fun hc => ?_) (fun hc => ?_)
        · replace h := ob_ift hc h
          refine ob_iinc (lo2 := [(0, .ref v0), (1, .int (v1 + (1 : Int32)))]) d_Model_tick_314 rfl rfl ?_
          refine ob_goto d_Model_tick_317 ?_
          exact ih v0 (v1 + (1 : Int32)) D hp_v0 h
        · replace h := ob_iff hc h
          refine ob_aload d_Model_tick_295 rfl ?_
          refine ob_getI d_Model_tick_296 F_12_41 l_Model_372 hp_v0 ?_
          refine ob_aload d_Model_tick_299 rfl ?_
          obtain ⟨hg31, h⟩ := ob_gd h
          refine ob_getR d_Model_tick_300 F_12_33 l_Model_43 hp_v0 hg31 (fun hk30 => ?_)
          refine ob_iload d_Model_tick_303 rfl ?_
          obtain ⟨hg32, h⟩ := ob_gd h
          refine ob_iald d_Model_tick_304 hk30 hg32 ?_
          obtain ⟨hg35, h⟩ := ob_gd h
          refine ob_irem d_Model_tick_305 hg35 ?_
          refine ob_if_ne d_Model_tick_306 (fun hc => ?_) (fun hc => ?_)
          · replace h := ob_iff hc h
            refine ob_iinc (lo2 := [(0, .ref v0), (1, .int (v1 + (1 : Int32)))]) d_Model_tick_314 rfl rfl ?_
            refine ob_goto d_Model_tick_317 ?_
            exact ih v0 (v1 + (1 : Int32)) D hp_v0 h
          · replace h := ob_ift hc h
            refine ob_aload d_Model_tick_309 rfl ?_
            refine ob_iload d_Model_tick_310 rfl ?_
            obtain ⟨D33, h34, h⟩ := ob_bv_e h
            refine ob_callVv (As := [.int v1]) (rest := []) d_Model_tick_311 c_Model_tick_348 hp_v0 rfl rfl (Nat.le_of_ble_eq_true rfl) (c_Model_formReport hp_v0 h34) ⟨Nat.le_refl _, Nat.le_refl _⟩ ⟨Nat.le_refl _, Nat.le_refl _⟩ ?_
            refine ob_iinc (lo2 := [(0, .ref v0), (1, .int (v1 + (1 : Int32)))]) d_Model_tick_314 rfl rfl ?_
            refine ob_goto d_Model_tick_317 ?_
            exact ih v0 (v1 + (1 : Int32)) D33 hp_v0 h
def f_Model_tick_L200 (S : ob_S) : Nat → Nat → Int32 → ob_D → Option (Int32 × ob_D)
  | 0, _, _, _ => none
  | n + 1, v0, v1, D => (if (256 : Int32) ≤ v1 then ob_bv (f_Model_workEvents S v0 D) fun D7 => (if (D7.1 v0 59) = 0 then f_Model_tick_L270 S ob_FU v0 (0 : Int32) D7 else (if (D7.1 v0 41) < (D7.1 v0 58) then f_Model_tick_L270 S ob_FU v0 (0 : Int32) D7 else ob_lt (ob_pI D7 v0 59 (0 : Int32)) fun D36 => ob_bv (f_Model_becomes S v0 (0 : Int32) D36) fun D37 => f_Model_tick_L270 S ob_FU v0 (0 : Int32) D37)) else if D.2.1 v0 47 ≠ 0 then if ob_in v1 (S.2.1 (D.2.1 v0 47)) then (if (D.1 (D.2.1 v0 47) v1.toNatClampNeg) = 0 then f_Model_tick_L200 S n v0 (v1 + (1 : Int32)) D else if D.2.1 v0 48 ≠ 0 then if ob_in v1 (S.2.1 (D.2.1 v0 48)) then (if (D.1 (D.2.1 v0 48) v1.toNatClampNeg) = 0 then f_Model_tick_L200 S n v0 (v1 + (1 : Int32)) D else ob_bv (f_Model_watch S v0 v1 D) fun D45 => f_Model_tick_L200 S n v0 (v1 + (1 : Int32)) D45) else none else none) else none else none)
theorem v_Model_tick_L200 {l : Launch} {E : ob_E} {S : ob_S} {r : Int32} {D' : ob_D} : ∀ (n : Nat), ∀ (v0 : Nat) (v1 : Int32) (D : ob_D), S.1 v0 = 13 → f_Model_tick_L200 S n v0 v1 D = some (r, D') → ob_V l E k_Model_tick 200 [(0, .ref v0), (1, .int v1)] [] S D (some (.int r)) S D' := by
  intro n
  induction n with
  | zero =>
    intro v0 v1 D hp_v0 h
    have h : none = some (r, D') := h
    cases h
  | succ n ih =>
    intro v0 v1 D hp_v0 h
    rw [f_Model_tick_L200] at h
    refine ob_iload d_Model_tick_200 rfl ?_
    refine ob_push d_Model_tick_201 ?_
    refine ob_icmp_ge d_Model_tick_204 (fun hc => ?_) (fun hc => ?_)
    · replace h := ob_ift hc h
      refine ob_aload d_Model_tick_236 rfl ?_
      obtain ⟨D7, h8, h⟩ := ob_bv_e h
      refine ob_callVv (As := []) (rest := []) d_Model_tick_237 c_Model_tick_481 hp_v0 rfl rfl (Nat.le_of_ble_eq_true rfl) (c_Model_workEvents hp_v0 h8) ⟨Nat.le_refl _, Nat.le_refl _⟩ ⟨Nat.le_refl _, Nat.le_refl _⟩ ?_
      refine ob_aload d_Model_tick_240 rfl ?_
      refine ob_getI d_Model_tick_241 F_12_59 l_Model_395 hp_v0 ?_
      refine ob_if_eq d_Model_tick_244 (fun hc => ?_) (fun hc => ?_)
      · replace h := ob_ift hc h
        refine ob_push d_Model_tick_268 ?_
        refine ob_istore (lo2 := [(0, .ref v0), (1, .int (0 : Int32))]) d_Model_tick_269 rfl ?_
        exact v_Model_tick_L270 ob_FU v0 (0 : Int32) D7 hp_v0 h
      · replace h := ob_iff hc h
        refine ob_aload d_Model_tick_247 rfl ?_
        refine ob_getI d_Model_tick_248 F_12_58 l_Model_398 hp_v0 ?_
        refine ob_aload d_Model_tick_251 rfl ?_
        refine ob_getI d_Model_tick_252 F_12_41 l_Model_372 hp_v0 ?_
        refine ob_icmp_gt d_Model_tick_255 (fun hc => ?_) (fun hc => ?_)
        · replace h := ob_ift hc h
          refine ob_push d_Model_tick_268 ?_
          refine ob_istore (lo2 := [(0, .ref v0), (1, .int (0 : Int32))]) d_Model_tick_269 rfl ?_
          exact v_Model_tick_L270 ob_FU v0 (0 : Int32) D7 hp_v0 h
        · replace h := ob_iff hc h
          refine ob_aload d_Model_tick_258 rfl ?_
          refine ob_push d_Model_tick_259 ?_
          replace h := ob_lt_e h
          refine ob_putZ d_Model_tick_260 F_12_59 l_Model_395 hp_v0 (Or.inl rfl) ?_
          refine ob_aload d_Model_tick_263 rfl ?_
          refine ob_push d_Model_tick_264 ?_
          obtain ⟨D37, h38, h⟩ := ob_bv_e h
          refine ob_callVv (As := [.int (0 : Int32)]) (rest := []) d_Model_tick_265 c_Model_tick_363 hp_v0 rfl rfl (Nat.le_of_ble_eq_true rfl) (c_Model_becomes hp_v0 h38) ⟨Nat.le_refl _, Nat.le_refl _⟩ ⟨Nat.le_refl _, Nat.le_refl _⟩ ?_
          refine ob_push d_Model_tick_268 ?_
          refine ob_istore (lo2 := [(0, .ref v0), (1, .int (0 : Int32))]) d_Model_tick_269 rfl ?_
          exact v_Model_tick_L270 ob_FU v0 (0 : Int32) D37 hp_v0 h
    · replace h := ob_iff hc h
      refine ob_aload d_Model_tick_207 rfl ?_
      obtain ⟨hg40, h⟩ := ob_gd h
      refine ob_getR d_Model_tick_208 F_12_47 l_Model_73 hp_v0 hg40 (fun hk39 => ?_)
      refine ob_iload d_Model_tick_211 rfl ?_
      obtain ⟨hg41, h⟩ := ob_gd h
      refine ob_zald d_Model_tick_212 hk39 hg41 ?_
      refine ob_if_eq d_Model_tick_213 (fun hc => ?_) (fun hc => ?_)
      · replace h := ob_ift hc h
        refine ob_iinc (lo2 := [(0, .ref v0), (1, .int (v1 + (1 : Int32)))]) d_Model_tick_230 rfl rfl ?_
        refine ob_goto d_Model_tick_233 ?_
        exact ih v0 (v1 + (1 : Int32)) D hp_v0 h
      · replace h := ob_iff hc h
        refine ob_aload d_Model_tick_216 rfl ?_
        obtain ⟨hg43, h⟩ := ob_gd h
        refine ob_getR d_Model_tick_217 F_12_48 l_Model_76 hp_v0 hg43 (fun hk42 => ?_)
        refine ob_iload d_Model_tick_220 rfl ?_
        obtain ⟨hg44, h⟩ := ob_gd h
        refine ob_zald d_Model_tick_221 hk42 hg44 ?_
        refine ob_if_eq d_Model_tick_222 (fun hc => ?_) (fun hc => ?_)
        · replace h := ob_ift hc h
          refine ob_iinc (lo2 := [(0, .ref v0), (1, .int (v1 + (1 : Int32)))]) d_Model_tick_230 rfl rfl ?_
          refine ob_goto d_Model_tick_233 ?_
          exact ih v0 (v1 + (1 : Int32)) D hp_v0 h
        · replace h := ob_iff hc h
          refine ob_aload d_Model_tick_225 rfl ?_
          refine ob_iload d_Model_tick_226 rfl ?_
          obtain ⟨D45, h46, h⟩ := ob_bv_e h
          refine ob_callVv (As := [.int v1]) (rest := []) d_Model_tick_227 c_Model_tick_478 hp_v0 rfl rfl (Nat.le_of_ble_eq_true rfl) (c_Model_watch hp_v0 h46) ⟨Nat.le_refl _, Nat.le_refl _⟩ ⟨Nat.le_refl _, Nat.le_refl _⟩ ?_
          refine ob_iinc (lo2 := [(0, .ref v0), (1, .int (v1 + (1 : Int32)))]) d_Model_tick_230 rfl rfl ?_
          refine ob_goto d_Model_tick_233 ?_
          exact ih v0 (v1 + (1 : Int32)) D45 hp_v0 h
def f_Model_tick_L116 (S : ob_S) (k82 : Nat → ob_D → Option (Int32 × ob_D)) : Nat → Nat → Int32 → ob_D → Option (Int32 × ob_D)
  | 0, _, _, _ => none
  | n + 1, v0, v1, D => (if (D.1 v0 26) ≤ v1 then ob_bv (f_Model_handle S v0 D) fun D56 => k82 v0 D56 else if D.2.1 v0 25 ≠ 0 then if D.2.1 v0 25 ≠ 0 then if ob_in (v1 + (1 : Int32)) (S.2.1 (D.2.1 v0 25)) then if ob_in v1 (S.2.1 (D.2.1 v0 25)) then ob_lt (ob_pI D (D.2.1 v0 25) v1.toNatClampNeg (D.1 (D.2.1 v0 25) (v1 + (1 : Int32)).toNatClampNeg)) fun D64 => if D64.2.1 v0 24 ≠ 0 then if D64.2.1 v0 24 ≠ 0 then if D64.2.1 v0 25 ≠ 0 then if ob_in v1 (S.2.1 (D64.2.1 v0 25)) then if ob_cg ((260 : Int32) * (v1 + (1 : Int32))) ((260 : Int32) * v1) (D64.1 (D64.2.1 v0 25) v1.toNatClampNeg) (S.2.1 (D64.2.1 v0 24)) (S.2.1 (D64.2.1 v0 24)) then ob_lt (ob_cp D64 (D64.2.1 v0 24) (D64.2.1 v0 24) ((260 : Int32) * (v1 + (1 : Int32))).toNatClampNeg ((260 : Int32) * v1).toNatClampNeg (D64.1 (D64.2.1 v0 25) v1.toNatClampNeg).toNatClampNeg) fun D73 => f_Model_tick_L116 S k82 n v0 (v1 + (1 : Int32)) D73 else none else none else none else none else none else none else none else none else none)
theorem v_Model_tick_L116 {l : Launch} {E : ob_E} {S : ob_S} {r : Int32} {D' : ob_D} {k82 : Nat → ob_D → Option (Int32 × ob_D)} (hk82 : ∀ (v0 : Nat) (D : ob_D), S.1 v0 = 13 → k82 v0 D = some (r, D') → ob_V l E k_Model_tick 82 [(0, .ref v0)] [] S D (some (.int r)) S D') : ∀ (n : Nat), ∀ (v0 : Nat) (v1 : Int32) (D : ob_D), S.1 v0 = 13 → f_Model_tick_L116 S k82 n v0 v1 D = some (r, D') → ob_V l E k_Model_tick 116 [(0, .ref v0), (1, .int v1)] [] S D (some (.int r)) S D' := by
  intro n
  induction n with
  | zero =>
    intro v0 v1 D hp_v0 h
    have h : none = some (r, D') := h
    cases h
  | succ n ih =>
    intro v0 v1 D hp_v0 h
    rw [f_Model_tick_L116] at h
    refine ob_iload d_Model_tick_116 rfl ?_
    refine ob_aload d_Model_tick_117 rfl ?_
    refine ob_getI d_Model_tick_118 F_12_26 l_Model_229 hp_v0 ?_
    refine ob_icmp_ge d_Model_tick_121 (fun hc => ?_) (fun hc => ?_)
    · replace h := ob_ift hc h
      refine ob_aload d_Model_tick_173 rfl ?_
      obtain ⟨D56, h57, h⟩ := ob_bv_e h
      refine ob_callVv (As := []) (rest := []) d_Model_tick_174 c_Model_tick_411 hp_v0 rfl rfl (Nat.le_of_ble_eq_true rfl) (c_Model_handle hp_v0 h57) ⟨Nat.le_refl _, Nat.le_refl _⟩ ⟨Nat.le_refl _, Nat.le_refl _⟩ ?_
      refine ob_goto d_Model_tick_177 ?_
      refine ob_sub (lo2 := [(0, .ref v0)]) [0] rfl ?_
      exact hk82 v0 D56 hp_v0 h
    · replace h := ob_iff hc h
      refine ob_aload d_Model_tick_124 rfl ?_
      obtain ⟨hg59, h⟩ := ob_gd h
      refine ob_getR d_Model_tick_125 F_12_25 l_Model_30 hp_v0 hg59 (fun hk58 => ?_)
      refine ob_iload d_Model_tick_128 rfl ?_
      refine ob_aload d_Model_tick_129 rfl ?_
      obtain ⟨hg61, h⟩ := ob_gd h
      refine ob_getR d_Model_tick_130 F_12_25 l_Model_30 hp_v0 hg61 (fun hk60 => ?_)
      refine ob_iload d_Model_tick_133 rfl ?_
      refine ob_push d_Model_tick_134 ?_
      refine ob_iadd d_Model_tick_135 ?_
      obtain ⟨hg62, h⟩ := ob_gd h
      refine ob_iald d_Model_tick_136 hk60 hg62 ?_
      obtain ⟨hg63, h⟩ := ob_gd h
      replace h := ob_lt_e h
      refine ob_iast d_Model_tick_137 hk58 hg63 ?_
      refine ob_aload d_Model_tick_138 rfl ?_
      obtain ⟨hg66, h⟩ := ob_gd h
      refine ob_getR d_Model_tick_139 F_12_24 l_Model_27 hp_v0 hg66 (fun hk65 => ?_)
      refine ob_push d_Model_tick_142 ?_
      refine ob_iload d_Model_tick_145 rfl ?_
      refine ob_push d_Model_tick_146 ?_
      refine ob_iadd d_Model_tick_147 ?_
      refine ob_imul d_Model_tick_148 ?_
      refine ob_aload d_Model_tick_149 rfl ?_
      obtain ⟨hg68, h⟩ := ob_gd h
      refine ob_getR d_Model_tick_150 F_12_24 l_Model_27 hp_v0 hg68 (fun hk67 => ?_)
      refine ob_push d_Model_tick_153 ?_
      refine ob_iload d_Model_tick_156 rfl ?_
      refine ob_imul d_Model_tick_157 ?_
      refine ob_aload d_Model_tick_158 rfl ?_
      obtain ⟨hg70, h⟩ := ob_gd h
      refine ob_getR d_Model_tick_159 F_12_25 l_Model_30 hp_v0 hg70 (fun hk69 => ?_)
      refine ob_iload d_Model_tick_162 rfl ?_
      obtain ⟨hg71, h⟩ := ob_gd h
      refine ob_iald d_Model_tick_163 hk69 hg71 ?_
      obtain ⟨hg72, h⟩ := ob_gd h
      replace h := ob_lt_e h
      refine ob_copy (i := 1) d_Model_tick_164 w_1485 w_1487 w_1486 w_16 hk65 hk67 (by decide) rfl (Or.inr (Or.inl ⟨rfl, rfl⟩)) hg72 (by decide) (Nat.le_of_ble_eq_true rfl) ?_
      refine ob_iinc (lo2 := [(0, .ref v0), (1, .int (v1 + (1 : Int32)))]) d_Model_tick_167 rfl rfl ?_
      refine ob_goto d_Model_tick_170 ?_
      exact ih v0 (v1 + (1 : Int32)) (ob_cp (ob_pI D (D.2.1 v0 25) v1.toNatClampNeg (D.1 (D.2.1 v0 25) (v1 + (1 : Int32)).toNatClampNeg)) ((ob_pI D (D.2.1 v0 25) v1.toNatClampNeg (D.1 (D.2.1 v0 25) (v1 + (1 : Int32)).toNatClampNeg)).2.1 v0 24) ((ob_pI D (D.2.1 v0 25) v1.toNatClampNeg (D.1 (D.2.1 v0 25) (v1 + (1 : Int32)).toNatClampNeg)).2.1 v0 24) ((260 : Int32) * (v1 + (1 : Int32))).toNatClampNeg ((260 : Int32) * v1).toNatClampNeg ((ob_pI D (D.2.1 v0 25) v1.toNatClampNeg (D.1 (D.2.1 v0 25) (v1 + (1 : Int32)).toNatClampNeg)).1 ((ob_pI D (D.2.1 v0 25) v1.toNatClampNeg (D.1 (D.2.1 v0 25) (v1 + (1 : Int32)).toNatClampNeg)).2.1 v0 25) v1.toNatClampNeg).toNatClampNeg) hp_v0 h
def f_Model_tick_L82 (S : ob_S) : Nat → Nat → ob_D → Option (Int32 × ob_D)
  | 0, _, _ => none
  | n + 1, v0, D => (if (D.1 v0 26) ≤ 0 then ob_lt (ob_pI D v0 22 (0 : Int32)) fun D6 => (if (D6.1 v0 19) = (2 : Int32) then ob_lt (ob_pI D6 v0 19 (1 : Int32)) fun D47 => f_Model_tick_L200 S ob_FU v0 (0 : Int32) D47 else f_Model_tick_L200 S ob_FU v0 (0 : Int32) D6) else if D.2.1 v0 24 ≠ 0 then if D.2.1 v0 25 ≠ 0 then if ob_in (0 : Int32) (S.2.1 (D.2.1 v0 25)) then ob_bv (f_Model_take S v0 (D.2.1 v0 24) (0 : Int32) (D.1 (D.2.1 v0 25) (0 : Int32).toNatClampNeg) D) fun D53 => ob_lt (ob_pI D53 v0 26 ((D53.1 v0 26) - (1 : Int32))) fun D55 => f_Model_tick_L116 S (fun a0 d => f_Model_tick_L82 S n a0 d) ob_FU v0 (0 : Int32) D55 else none else none else none)
theorem v_Model_tick_L82 {l : Launch} {E : ob_E} {S : ob_S} {r : Int32} {D' : ob_D} : ∀ (n : Nat), ∀ (v0 : Nat) (D : ob_D), S.1 v0 = 13 → f_Model_tick_L82 S n v0 D = some (r, D') → ob_V l E k_Model_tick 82 [(0, .ref v0)] [] S D (some (.int r)) S D' := by
  intro n
  induction n with
  | zero =>
    intro v0 D hp_v0 h
    have h : none = some (r, D') := h
    cases h
  | succ n ih =>
    intro v0 D hp_v0 h
    rw [f_Model_tick_L82] at h
    refine ob_aload d_Model_tick_82 rfl ?_
    refine ob_getI d_Model_tick_83 F_12_26 l_Model_229 hp_v0 ?_
    refine ob_if_le d_Model_tick_86 (fun hc => ?_) (fun hc => ?_)
    · replace h := ob_ift hc h
      refine ob_aload d_Model_tick_180 rfl ?_
      refine ob_push d_Model_tick_181 ?_
      replace h := ob_lt_e h
      refine ob_putZ d_Model_tick_182 F_12_22 l_Model_248 hp_v0 (Or.inl rfl) ?_
      refine ob_aload d_Model_tick_185 rfl ?_
      refine ob_getI d_Model_tick_186 F_12_19 l_Model_23 hp_v0 ?_
      refine ob_push d_Model_tick_189 ?_
      refine ob_icmp_ne d_Model_tick_190 (fun hc => ?_) (fun hc => ?_)
      · replace h := ob_iff hc h
        refine ob_push d_Model_tick_198 ?_
        refine ob_istore (lo2 := [(0, .ref v0), (1, .int (0 : Int32))]) d_Model_tick_199 rfl ?_
        exact v_Model_tick_L200 ob_FU v0 (0 : Int32) (ob_pI D v0 22 (0 : Int32)) hp_v0 h
      · replace h := ob_ift hc h
        refine ob_aload d_Model_tick_193 rfl ?_
        refine ob_push d_Model_tick_194 ?_
        replace h := ob_lt_e h
        refine ob_putI d_Model_tick_195 F_12_19 l_Model_23 hp_v0 ?_
        refine ob_push d_Model_tick_198 ?_
        refine ob_istore (lo2 := [(0, .ref v0), (1, .int (0 : Int32))]) d_Model_tick_199 rfl ?_
        exact v_Model_tick_L200 ob_FU v0 (0 : Int32) (ob_pI (ob_pI D v0 22 (0 : Int32)) v0 19 (1 : Int32)) hp_v0 h
    · replace h := ob_iff hc h
      refine ob_aload d_Model_tick_89 rfl ?_
      refine ob_aload d_Model_tick_90 rfl ?_
      obtain ⟨hg49, h⟩ := ob_gd h
      refine ob_getR d_Model_tick_91 F_12_24 l_Model_27 hp_v0 hg49 (fun hk48 => ?_)
      refine ob_push d_Model_tick_94 ?_
      refine ob_aload d_Model_tick_95 rfl ?_
      obtain ⟨hg51, h⟩ := ob_gd h
      refine ob_getR d_Model_tick_96 F_12_25 l_Model_30 hp_v0 hg51 (fun hk50 => ?_)
      refine ob_push d_Model_tick_99 ?_
      obtain ⟨hg52, h⟩ := ob_gd h
      refine ob_iald d_Model_tick_100 hk50 hg52 ?_
      obtain ⟨D53, h54, h⟩ := ob_bv_e h
      refine ob_callVv (As := [.ref (D.2.1 v0 24), .int (0 : Int32), .int (D.1 (D.2.1 v0 25) (0 : Int32).toNatClampNeg)]) (rest := []) d_Model_tick_101 c_Model_tick_407 hp_v0 rfl rfl (Nat.le_of_ble_eq_true rfl) (c_Model_take hp_v0 hk48 h54) ⟨Nat.le_refl _, Nat.le_refl _⟩ ⟨Nat.le_refl _, Nat.le_refl _⟩ ?_
      refine ob_aload d_Model_tick_104 rfl ?_
      refine ob_dup d_Model_tick_105 rfl ?_
      refine ob_getI d_Model_tick_106 F_12_26 l_Model_229 hp_v0 ?_
      refine ob_push d_Model_tick_109 ?_
      refine ob_isub d_Model_tick_110 ?_
      replace h := ob_lt_e h
      refine ob_putI d_Model_tick_111 F_12_26 l_Model_229 hp_v0 ?_
      refine ob_push d_Model_tick_114 ?_
      refine ob_istore (lo2 := [(0, .ref v0), (1, .int (0 : Int32))]) d_Model_tick_115 rfl ?_
      exact v_Model_tick_L116 ih ob_FU v0 (0 : Int32) (ob_pI D53 v0 26 ((D53.1 v0 26) - (1 : Int32))) hp_v0 h
def f_Model_tick_L21 (S : ob_S) : Nat → Nat → Int32 → ob_D → Option (Int32 × ob_D)
  | 0, _, _, _ => none
  | n + 1, v0, v1, D => (if v1 < 0 then f_Model_tick_L82 S ob_FU v0 D else if D.2.1 v0 42 ≠ 0 then if ob_in v1 (S.2.1 (D.2.1 v0 42)) then (if (D.1 v0 41) < (D.1 (D.2.1 v0 42) v1.toNatClampNeg) then f_Model_tick_L82 S ob_FU v0 D else if D.2.1 v0 44 ≠ 0 then if D.2.1 v0 43 ≠ 0 then if ob_in v1 (S.2.1 (D.2.1 v0 43)) then ob_bv (f_Model_take S v0 (D.2.1 v0 44) ((260 : Int32) * v1) (D.1 (D.2.1 v0 43) v1.toNatClampNeg) D) fun D82 => ob_bv (f_Model_dropEntry S v0 v1 D82) fun D84 => (if (D84.1 v0 46) = 0 then ob_bd (f_Model_due S v0 (0 : Int32) D84) fun x88 D86 => f_Model_tick_L21 S n v0 x88 D86 else ob_bv (f_Model_handle S v0 D84) fun D89 => ob_bd (f_Model_due S v0 (0 : Int32) D89) fun x93 D91 => f_Model_tick_L21 S n v0 x93 D91) else none else none else none) else none else none)
theorem v_Model_tick_L21 {l : Launch} {E : ob_E} {S : ob_S} {r : Int32} {D' : ob_D} : ∀ (n : Nat), ∀ (v0 : Nat) (v1 : Int32) (D : ob_D), S.1 v0 = 13 → f_Model_tick_L21 S n v0 v1 D = some (r, D') → ob_V l E k_Model_tick 21 [(0, .ref v0), (1, .int v1)] [] S D (some (.int r)) S D' := by
  intro n
  induction n with
  | zero =>
    intro v0 v1 D hp_v0 h
    have h : none = some (r, D') := h
    cases h
  | succ n ih =>
    intro v0 v1 D hp_v0 h
    rw [f_Model_tick_L21] at h
    refine ob_iload d_Model_tick_21 rfl ?_
    refine ob_if_lt d_Model_tick_22 (fun hc => ?_) (fun hc => ?_)
    · replace h := ob_ift hc h
      refine ob_sub (lo2 := [(0, .ref v0)]) [0] rfl ?_
      exact v_Model_tick_L82 ob_FU v0 D hp_v0 h
    · replace h := ob_iff hc h
      refine ob_aload d_Model_tick_25 rfl ?_
      obtain ⟨hg75, h⟩ := ob_gd h
      refine ob_getR d_Model_tick_26 F_12_42 l_Model_64 hp_v0 hg75 (fun hk74 => ?_)
      refine ob_iload d_Model_tick_29 rfl ?_
      obtain ⟨hg76, h⟩ := ob_gd h
      refine ob_iald d_Model_tick_30 hk74 hg76 ?_
      refine ob_aload d_Model_tick_31 rfl ?_
      refine ob_getI d_Model_tick_32 F_12_41 l_Model_372 hp_v0 ?_
      refine ob_icmp_gt d_Model_tick_35 (fun hc => ?_) (fun hc => ?_)
      · replace h := ob_ift hc h
        refine ob_sub (lo2 := [(0, .ref v0)]) [0] rfl ?_
        exact v_Model_tick_L82 ob_FU v0 D hp_v0 h
      · replace h := ob_iff hc h
        refine ob_aload d_Model_tick_38 rfl ?_
        refine ob_aload d_Model_tick_39 rfl ?_
        obtain ⟨hg78, h⟩ := ob_gd h
        refine ob_getR d_Model_tick_40 F_12_44 l_Model_70 hp_v0 hg78 (fun hk77 => ?_)
        refine ob_push d_Model_tick_43 ?_
        refine ob_iload d_Model_tick_46 rfl ?_
        refine ob_imul d_Model_tick_47 ?_
        refine ob_aload d_Model_tick_48 rfl ?_
        obtain ⟨hg80, h⟩ := ob_gd h
        refine ob_getR d_Model_tick_49 F_12_43 l_Model_67 hp_v0 hg80 (fun hk79 => ?_)
        refine ob_iload d_Model_tick_52 rfl ?_
        obtain ⟨hg81, h⟩ := ob_gd h
        refine ob_iald d_Model_tick_53 hk79 hg81 ?_
        obtain ⟨D82, h83, h⟩ := ob_bv_e h
        refine ob_callVv (As := [.ref (D.2.1 v0 44), .int ((260 : Int32) * v1), .int (D.1 (D.2.1 v0 43) v1.toNatClampNeg)]) (rest := []) d_Model_tick_54 c_Model_tick_407 hp_v0 rfl rfl (Nat.le_of_ble_eq_true rfl) (c_Model_take hp_v0 hk77 h83) ⟨Nat.le_refl _, Nat.le_refl _⟩ ⟨Nat.le_refl _, Nat.le_refl _⟩ ?_
        refine ob_aload d_Model_tick_57 rfl ?_
        refine ob_iload d_Model_tick_58 rfl ?_
        obtain ⟨D84, h85, h⟩ := ob_bv_e h
        refine ob_callVv (As := [.int v1]) (rest := []) d_Model_tick_59 c_Model_tick_383 hp_v0 rfl rfl (Nat.le_of_ble_eq_true rfl) (c_Model_dropEntry hp_v0 h85) ⟨Nat.le_refl _, Nat.le_refl _⟩ ⟨Nat.le_refl _, Nat.le_refl _⟩ ?_
        refine ob_aload d_Model_tick_62 rfl ?_
        refine ob_getI d_Model_tick_63 F_12_46 l_Model_380 hp_v0 ?_
        refine ob_if_eq d_Model_tick_66 (fun hc => ?_) (fun hc => ?_)
        · replace h := ob_ift hc h
          refine ob_aload d_Model_tick_73 rfl ?_
          refine ob_push d_Model_tick_74 ?_
          obtain ⟨x88, D86, h87, h⟩ := ob_bd_e h
          refine ob_callVi (As := [.int (0 : Int32)]) (rest := []) d_Model_tick_75 c_Model_tick_386 hp_v0 rfl rfl (Nat.le_of_ble_eq_true rfl) (c_Model_due hp_v0 h87) ⟨Nat.le_refl _, Nat.le_refl _⟩ ⟨Nat.le_refl _, Nat.le_refl _⟩ ?_
          refine ob_istore (lo2 := [(0, .ref v0), (1, .int x88)]) d_Model_tick_78 rfl ?_
          refine ob_goto d_Model_tick_79 ?_
          exact ih v0 x88 D86 hp_v0 h
        · replace h := ob_iff hc h
          refine ob_aload d_Model_tick_69 rfl ?_
          obtain ⟨D89, h90, h⟩ := ob_bv_e h
          refine ob_callVv (As := []) (rest := []) d_Model_tick_70 c_Model_tick_411 hp_v0 rfl rfl (Nat.le_of_ble_eq_true rfl) (c_Model_handle hp_v0 h90) ⟨Nat.le_refl _, Nat.le_refl _⟩ ⟨Nat.le_refl _, Nat.le_refl _⟩ ?_
          refine ob_aload d_Model_tick_73 rfl ?_
          refine ob_push d_Model_tick_74 ?_
          obtain ⟨x93, D91, h92, h⟩ := ob_bd_e h
          refine ob_callVi (As := [.int (0 : Int32)]) (rest := []) d_Model_tick_75 c_Model_tick_386 hp_v0 rfl rfl (Nat.le_of_ble_eq_true rfl) (c_Model_due hp_v0 h92) ⟨Nat.le_refl _, Nat.le_refl _⟩ ⟨Nat.le_refl _, Nat.le_refl _⟩ ?_
          refine ob_istore (lo2 := [(0, .ref v0), (1, .int x93)]) d_Model_tick_78 rfl ?_
          refine ob_goto d_Model_tick_79 ?_
          exact ih v0 x93 D91 hp_v0 h
def f_Model_tick (S : ob_S) (v0 : Nat) (D : ob_D) : Option (Int32 × ob_D) :=
  ob_lt (ob_pI D v0 5 (0 : Int32)) fun D1 => ob_lt (ob_pI D1 v0 41 ((D1.1 v0 41) + (1 : Int32))) fun D2 => ob_bd (f_Model_due S v0 (0 : Int32) D2) fun x5 D3 => f_Model_tick_L21 S ob_FU v0 x5 D3
theorem c_Model_tick {l : Launch} {E : ob_E} {S : ob_S} {D : ob_D} {v0 : Nat} {r : Int32} {D' : ob_D} (hp_v0 : S.1 v0 = 13) (h : f_Model_tick S v0 D = some (r, D')) : ob_M l E k_Model_tick [.ref v0] S D (some (.int r)) S D' := by
  refine ob_ofV (lo := [(0, .ref v0)]) (by decide) rfl (Nat.le_of_ble_eq_true rfl) rfl (Nat.le_refl _) (Nat.le_refl _) ?_
  rw [f_Model_tick] at h
  refine ob_aload d_Model_tick_0 rfl ?_
  refine ob_push d_Model_tick_1 ?_
  replace h := ob_lt_e h
  refine ob_putI d_Model_tick_2 F_12_5 l_Model_468 hp_v0 ?_
  refine ob_aload d_Model_tick_5 rfl ?_
  refine ob_dup d_Model_tick_6 rfl ?_
  refine ob_getI d_Model_tick_7 F_12_41 l_Model_372 hp_v0 ?_
  refine ob_push d_Model_tick_10 ?_
  refine ob_iadd d_Model_tick_11 ?_
  replace h := ob_lt_e h
  refine ob_putI d_Model_tick_12 F_12_41 l_Model_372 hp_v0 ?_
  refine ob_aload d_Model_tick_15 rfl ?_
  refine ob_push d_Model_tick_16 ?_
  obtain ⟨x5, D3, h4, h⟩ := ob_bd_e h
  refine ob_callVi (As := [.int (0 : Int32)]) (rest := []) d_Model_tick_17 c_Model_tick_386 hp_v0 rfl rfl (Nat.le_of_ble_eq_true rfl) (c_Model_due hp_v0 h4) ⟨Nat.le_refl _, Nat.le_refl _⟩ ⟨Nat.le_refl _, Nat.le_refl _⟩ ?_
  refine ob_istore (lo2 := [(0, .ref v0), (1, .int x5)]) d_Model_tick_20 rfl ?_
  exact v_Model_tick_L21 ob_FU v0 x5 D3 hp_v0 h
-- OrbitBoxModel.down(II)I
theorem d_Model_down_25 : ob_dk k_Model_down 25 26 (1 : Int32) (.iconst 1) 1 := ⟨by decide +kernel, rfl, show Int32.ofInt 1 = (1 : Int32) by decide +kernel⟩
theorem d_Model_down_48 : ob_dk k_Model_down 48 51 (256 : Int32) (.sipush 256) 3 := ⟨by decide +kernel, rfl, show (Int16.ofInt 256).toInt32 = (256 : Int32) by decide +kernel⟩
theorem d_Model_down_56 : ob_dk k_Model_down 56 59 (255 : Int32) (.sipush 255) 3 := ⟨by decide +kernel, rfl, show (Int16.ofInt 255).toInt32 = (255 : Int32) by decide +kernel⟩
theorem d_Model_down_60 : ob_dc k_Model_down 60 (.ireturn) 1 61 := ⟨by decide +kernel, rfl⟩
theorem d_Model_down_59 : ob_dc k_Model_down 59 (.iand) 1 60 := ⟨by decide +kernel, rfl⟩
theorem d_Model_down_55 : ob_dc k_Model_down 55 (.baload) 1 56 := ⟨by decide +kernel, rfl⟩
theorem d_Model_down_54 : ob_dc k_Model_down 54 (.iadd) 1 55 := ⟨by decide +kernel, rfl⟩
theorem d_Model_down_53 : ob_dv ob_lc k_Model_down 53 54 2 (.iload_n 2) 1 := ⟨by decide +kernel, rfl, rfl⟩
theorem d_Model_down_52 : ob_dc k_Model_down 52 (.imul) 1 53 := ⟨by decide +kernel, rfl⟩
theorem d_Model_down_51 : ob_dv ob_lc k_Model_down 51 52 1 (.iload_n 1) 1 := ⟨by decide +kernel, rfl, rfl⟩
theorem d_Model_down_45 : ob_dc k_Model_down 45 (.getfield 152) 3 48 := ⟨by decide +kernel, rfl⟩
theorem d_Model_down_44 : ob_dv ob_ac k_Model_down 44 45 0 (.aload_n 0) 1 := ⟨by decide +kernel, rfl, rfl⟩
theorem d_Model_down_40 : ob_dk k_Model_down 40 41 (0 : Int32) (.iconst 0) 1 := ⟨by decide +kernel, rfl, show Int32.ofInt 0 = (0 : Int32) by decide +kernel⟩
theorem d_Model_down_41 : ob_db k_Model_down 41 (.goto 19) 19 44 60 := ⟨by decide +kernel, rfl, by decide⟩
theorem d_Model_down_37 : ob_db k_Model_down 37 (.ifCond .eq 7) 7 40 44 := ⟨by decide +kernel, rfl, by decide⟩
theorem d_Model_down_34 : ob_dc k_Model_down 34 (.getfield 468) 3 37 := ⟨by decide +kernel, rfl⟩
theorem d_Model_down_33 : ob_dv ob_ac k_Model_down 33 34 0 (.aload_n 0) 1 := ⟨by decide +kernel, rfl, rfl⟩
theorem d_Model_down_30 : ob_dc k_Model_down 30 (.putfield 468) 3 33 := ⟨by decide +kernel, rfl⟩
theorem d_Model_down_26 : ob_db k_Model_down 26 (.goto 4) 4 29 30 := ⟨by decide +kernel, rfl, by decide⟩
theorem d_Model_down_29 : ob_dk k_Model_down 29 30 (0 : Int32) (.iconst 0) 1 := ⟨by decide +kernel, rfl, show Int32.ofInt 0 = (0 : Int32) by decide +kernel⟩
theorem d_Model_down_22 : ob_db k_Model_down 22 (.if_icmp .lt 7) 7 25 29 := ⟨by decide +kernel, rfl, by decide⟩
theorem d_Model_down_19 : ob_dc k_Model_down 19 (.getfield 165) 3 22 := ⟨by decide +kernel, rfl⟩
theorem d_Model_down_18 : ob_dv ob_ac k_Model_down 18 19 0 (.aload_n 0) 1 := ⟨by decide +kernel, rfl, rfl⟩
theorem d_Model_down_17 : ob_dv ob_lc k_Model_down 17 18 2 (.iload_n 2) 1 := ⟨by decide +kernel, rfl, rfl⟩
theorem d_Model_down_14 : ob_db k_Model_down 14 (.ifCond .lt 11) 11 17 25 := ⟨by decide +kernel, rfl, by decide⟩
theorem d_Model_down_13 : ob_dv ob_lc k_Model_down 13 14 2 (.iload_n 2) 1 := ⟨by decide +kernel, rfl, rfl⟩
theorem d_Model_down_10 : ob_db k_Model_down 10 (.if_icmp .ge 15) 15 13 25 := ⟨by decide +kernel, rfl, by decide⟩
theorem d_Model_down_7 : ob_dc k_Model_down 7 (.getfield 487) 3 10 := ⟨by decide +kernel, rfl⟩
theorem d_Model_down_6 : ob_dv ob_ac k_Model_down 6 7 0 (.aload_n 0) 1 := ⟨by decide +kernel, rfl, rfl⟩
theorem d_Model_down_5 : ob_dv ob_lc k_Model_down 5 6 1 (.iload_n 1) 1 := ⟨by decide +kernel, rfl, rfl⟩
theorem d_Model_down_2 : ob_db k_Model_down 2 (.ifCond .lt 23) 23 5 25 := ⟨by decide +kernel, rfl, by decide⟩
theorem d_Model_down_1 : ob_dv ob_lc k_Model_down 1 2 1 (.iload_n 1) 1 := ⟨by decide +kernel, rfl, rfl⟩
theorem d_Model_down_0 : ob_dv ob_ac k_Model_down 0 1 0 (.aload_n 0) 1 := ⟨by decide +kernel, rfl, rfl⟩
def f_Model_down_L30 (S : ob_S) (v0 : Nat) (v1 : Int32) (v2 : Int32) (s0 : Int32) (s1 : Nat) (D : ob_D) : Option (Int32 × ob_D) :=
  ob_lt (ob_pI D s1 5 s0) fun D1 => (if (D1.1 v0 5) = 0 then if D1.2.1 v0 87 ≠ 0 then if ob_in (((256 : Int32) * v1) + v2) (S.2.1 (D1.2.1 v0 87)) then some ((D1.1 (D1.2.1 v0 87) (((256 : Int32) * v1) + v2).toNatClampNeg) &&& (255 : Int32), D1) else none else none else some ((0 : Int32), D1))
theorem v_Model_down_L30 {l : Launch} {E : ob_E} {S : ob_S} {r : Int32} {D' : ob_D} : ∀ (v0 : Nat) (v1 : Int32) (v2 : Int32) (s0 : Int32) (s1 : Nat) (D : ob_D), S.1 v0 = 13 → S.1 s1 = 13 → f_Model_down_L30 S v0 v1 v2 s0 s1 D = some (r, D') → ob_V l E k_Model_down 30 [(0, .ref v0), (1, .int v1), (2, .int v2)] [.int s0, .ref s1] S D (some (.int r)) S D' := by
  intro v0 v1 v2 s0 s1 D hp_v0 hp_s1 h
  rw [f_Model_down_L30] at h
  replace h := ob_lt_e h
  refine ob_putI d_Model_down_30 F_12_5 l_Model_468 hp_s1 ?_
  refine ob_aload d_Model_down_33 rfl ?_
  refine ob_getI d_Model_down_34 F_12_5 l_Model_468 hp_v0 ?_
  refine ob_if_eq d_Model_down_37 (fun hc => ?_) (fun hc => ?_)
  · replace h := ob_ift hc h
    refine ob_aload d_Model_down_44 rfl ?_
    obtain ⟨hg3, h⟩ := ob_gd h
    refine ob_getR d_Model_down_45 F_12_87 l_Model_152 hp_v0 hg3 (fun hk2 => ?_)
    refine ob_push d_Model_down_48 ?_
    refine ob_iload d_Model_down_51 rfl ?_
    refine ob_imul d_Model_down_52 ?_
    refine ob_iload d_Model_down_53 rfl ?_
    refine ob_iadd d_Model_down_54 ?_
    obtain ⟨hg4, h⟩ := ob_gd h
    refine ob_bald d_Model_down_55 hk2 hg4 ?_
    refine ob_push d_Model_down_56 ?_
    refine ob_iand d_Model_down_59 ?_
    exact ob_ie h (ob_iret d_Model_down_60 rfl rfl)
  · replace h := ob_iff hc h
    refine ob_push d_Model_down_40 ?_
    refine ob_goto d_Model_down_41 ?_
    exact ob_ie h (ob_iret d_Model_down_60 rfl rfl)
def f_Model_down (S : ob_S) (v0 : Nat) (v1 : Int32) (v2 : Int32) (D : ob_D) : Option (Int32 × ob_D) :=
  (if v1 < 0 then f_Model_down_L30 S v0 v1 v2 (1 : Int32) v0 D else (if (D.1 v0 88) ≤ v1 then f_Model_down_L30 S v0 v1 v2 (1 : Int32) v0 D else (if v2 < 0 then f_Model_down_L30 S v0 v1 v2 (1 : Int32) v0 D else (if v2 < (D.1 v0 1) then f_Model_down_L30 S v0 v1 v2 (0 : Int32) v0 D else f_Model_down_L30 S v0 v1 v2 (1 : Int32) v0 D))))
theorem c_Model_down {l : Launch} {E : ob_E} {S : ob_S} {D : ob_D} {v0 : Nat} {v1 : Int32} {v2 : Int32} {r : Int32} {D' : ob_D} (hp_v0 : S.1 v0 = 13) (h : f_Model_down S v0 v1 v2 D = some (r, D')) : ob_M l E k_Model_down [.ref v0, .int v1, .int v2] S D (some (.int r)) S D' := by
  refine ob_ofV (lo := [(0, .ref v0), (1, .int v1), (2, .int v2)]) (by decide) rfl (Nat.le_of_ble_eq_true rfl) rfl (Nat.le_refl _) (Nat.le_refl _) ?_
  rw [f_Model_down] at h
  refine ob_aload d_Model_down_0 rfl ?_
  refine ob_iload d_Model_down_1 rfl ?_
  refine ob_if_lt d_Model_down_2 (fun hc => ?_) (fun hc => ?_)
  · replace h := ob_ift hc h
    refine ob_push d_Model_down_25 ?_
    refine ob_goto d_Model_down_26 ?_
    exact v_Model_down_L30 v0 v1 v2 (1 : Int32) v0 D hp_v0 hp_v0 h
  · replace h := ob_iff hc h
    refine ob_iload d_Model_down_5 rfl ?_
    refine ob_aload d_Model_down_6 rfl ?_
    refine ob_getI d_Model_down_7 F_12_88 l_Model_487 hp_v0 ?_
    refine ob_icmp_ge d_Model_down_10 (fun hc => ?_) (fun hc => ?_)
    · replace h := ob_ift hc h
      refine ob_push d_Model_down_25 ?_
      refine ob_goto d_Model_down_26 ?_
      exact v_Model_down_L30 v0 v1 v2 (1 : Int32) v0 D hp_v0 hp_v0 h
    · replace h := ob_iff hc h
      refine ob_iload d_Model_down_13 rfl ?_
      refine ob_if_lt d_Model_down_14 (fun hc => ?_) (fun hc => ?_)
      · replace h := ob_ift hc h
        refine ob_push d_Model_down_25 ?_
        refine ob_goto d_Model_down_26 ?_
        exact v_Model_down_L30 v0 v1 v2 (1 : Int32) v0 D hp_v0 hp_v0 h
      · replace h := ob_iff hc h
        refine ob_iload d_Model_down_17 rfl ?_
        refine ob_aload d_Model_down_18 rfl ?_
        refine ob_getI d_Model_down_19 F_12_1 l_Model_165 hp_v0 ?_
        refine ob_icmp_lt d_Model_down_22 (fun hc => ?_) (fun hc => ?_)
        · replace h := ob_ift hc h
          refine ob_push d_Model_down_29 ?_
          exact v_Model_down_L30 v0 v1 v2 (0 : Int32) v0 D hp_v0 hp_v0 h
        · replace h := ob_iff hc h
          refine ob_push d_Model_down_25 ?_
          refine ob_goto d_Model_down_26 ?_
          exact v_Model_down_L30 v0 v1 v2 (1 : Int32) v0 D hp_v0 hp_v0 h
-- OrbitBoxModel.value(I)I
theorem d_Model_value_11 : ob_dk k_Model_value 11 12 (1 : Int32) (.iconst 1) 1 := ⟨by decide +kernel, rfl, show Int32.ofInt 1 = (1 : Int32) by decide +kernel⟩
theorem d_Model_value_35 : ob_dc k_Model_value 35 (.ireturn) 1 36 := ⟨by decide +kernel, rfl⟩
theorem d_Model_value_32 : ob_dc k_Model_value 32 (.invokevirtual 351) 3 35 := ⟨by decide +kernel, rfl⟩
theorem d_Model_value_31 : ob_dv ob_lc k_Model_value 31 32 1 (.iload_n 1) 1 := ⟨by decide +kernel, rfl, rfl⟩
theorem d_Model_value_30 : ob_dv ob_ac k_Model_value 30 31 0 (.aload_n 0) 1 := ⟨by decide +kernel, rfl, rfl⟩
theorem d_Model_value_26 : ob_dk k_Model_value 26 27 (0 : Int32) (.iconst 0) 1 := ⟨by decide +kernel, rfl, show Int32.ofInt 0 = (0 : Int32) by decide +kernel⟩
theorem d_Model_value_27 : ob_db k_Model_value 27 (.goto 8) 8 30 35 := ⟨by decide +kernel, rfl, by decide⟩
theorem d_Model_value_23 : ob_db k_Model_value 23 (.ifCond .eq 7) 7 26 30 := ⟨by decide +kernel, rfl, by decide⟩
theorem d_Model_value_20 : ob_dc k_Model_value 20 (.getfield 468) 3 23 := ⟨by decide +kernel, rfl⟩
theorem d_Model_value_19 : ob_dv ob_ac k_Model_value 19 20 0 (.aload_n 0) 1 := ⟨by decide +kernel, rfl, rfl⟩
theorem d_Model_value_16 : ob_dc k_Model_value 16 (.putfield 468) 3 19 := ⟨by decide +kernel, rfl⟩
theorem d_Model_value_12 : ob_db k_Model_value 12 (.goto 4) 4 15 16 := ⟨by decide +kernel, rfl, by decide⟩
theorem d_Model_value_6 : ob_dk k_Model_value 6 8 (31 : Int32) (.bipush 31) 2 := ⟨by decide +kernel, rfl, show (Int8.ofInt 31).toInt32 = (31 : Int32) by decide +kernel⟩
theorem d_Model_value_15 : ob_dk k_Model_value 15 16 (0 : Int32) (.iconst 0) 1 := ⟨by decide +kernel, rfl, show Int32.ofInt 0 = (0 : Int32) by decide +kernel⟩
theorem d_Model_value_8 : ob_db k_Model_value 8 (.if_icmp .le 7) 7 11 15 := ⟨by decide +kernel, rfl, by decide⟩
theorem d_Model_value_5 : ob_dv ob_lc k_Model_value 5 6 1 (.iload_n 1) 1 := ⟨by decide +kernel, rfl, rfl⟩
theorem d_Model_value_2 : ob_db k_Model_value 2 (.ifCond .lt 9) 9 5 11 := ⟨by decide +kernel, rfl, by decide⟩
theorem d_Model_value_1 : ob_dv ob_lc k_Model_value 1 2 1 (.iload_n 1) 1 := ⟨by decide +kernel, rfl, rfl⟩
theorem d_Model_value_0 : ob_dv ob_ac k_Model_value 0 1 0 (.aload_n 0) 1 := ⟨by decide +kernel, rfl, rfl⟩
theorem c_Model_value_351 : ob_vd k_Model_value k_Model_parameter 351 1 12 := ⟨cw_Model_parameter, yd_Model_parameter, w_1560, w_1562, wp_85, w_14, ⟨_, _, rfl⟩, by decide, by decide⟩
def f_Model_value_L16 (S : ob_S) (v0 : Nat) (v1 : Int32) (s0 : Int32) (s1 : Nat) (D : ob_D) : Option (Int32 × ob_D) :=
  ob_lt (ob_pI D s1 5 s0) fun D1 => (if (D1.1 v0 5) = 0 then ob_bd (f_Model_parameter S v0 v1 D1) fun x4 D2 => some (x4, D2) else some ((0 : Int32), D1))
theorem v_Model_value_L16 {l : Launch} {E : ob_E} {S : ob_S} {r : Int32} {D' : ob_D} : ∀ (v0 : Nat) (v1 : Int32) (s0 : Int32) (s1 : Nat) (D : ob_D), S.1 v0 = 13 → S.1 s1 = 13 → f_Model_value_L16 S v0 v1 s0 s1 D = some (r, D') → ob_V l E k_Model_value 16 [(0, .ref v0), (1, .int v1)] [.int s0, .ref s1] S D (some (.int r)) S D' := by
  intro v0 v1 s0 s1 D hp_v0 hp_s1 h
  rw [f_Model_value_L16] at h
  replace h := ob_lt_e h
  refine ob_putI d_Model_value_16 F_12_5 l_Model_468 hp_s1 ?_
  refine ob_aload d_Model_value_19 rfl ?_
  refine ob_getI d_Model_value_20 F_12_5 l_Model_468 hp_v0 ?_
  refine ob_if_eq d_Model_value_23 (fun hc => ?_) (fun hc => ?_)
  · replace h := ob_ift hc h
    refine ob_aload d_Model_value_30 rfl ?_
    refine ob_iload d_Model_value_31 rfl ?_
    obtain ⟨x4, D2, h3, h⟩ := ob_bd_e h
    refine ob_callVi (As := [.int v1]) (rest := []) d_Model_value_32 c_Model_value_351 hp_v0 rfl rfl (Nat.le_of_ble_eq_true rfl) (c_Model_parameter hp_v0 h3) ⟨Nat.le_refl _, Nat.le_refl _⟩ ⟨Nat.le_refl _, Nat.le_refl _⟩ ?_
    exact ob_ie h (ob_iret d_Model_value_35 rfl rfl)
  · replace h := ob_iff hc h
    refine ob_push d_Model_value_26 ?_
    refine ob_goto d_Model_value_27 ?_
    exact ob_ie h (ob_iret d_Model_value_35 rfl rfl)
def f_Model_value (S : ob_S) (v0 : Nat) (v1 : Int32) (D : ob_D) : Option (Int32 × ob_D) :=
  (if v1 < 0 then f_Model_value_L16 S v0 v1 (1 : Int32) v0 D else (if v1 ≤ (31 : Int32) then f_Model_value_L16 S v0 v1 (0 : Int32) v0 D else f_Model_value_L16 S v0 v1 (1 : Int32) v0 D))
theorem c_Model_value {l : Launch} {E : ob_E} {S : ob_S} {D : ob_D} {v0 : Nat} {v1 : Int32} {r : Int32} {D' : ob_D} (hp_v0 : S.1 v0 = 13) (h : f_Model_value S v0 v1 D = some (r, D')) : ob_M l E k_Model_value [.ref v0, .int v1] S D (some (.int r)) S D' := by
  refine ob_ofV (lo := [(0, .ref v0), (1, .int v1)]) (by decide) rfl (Nat.le_of_ble_eq_true rfl) rfl (Nat.le_refl _) (Nat.le_refl _) ?_
  rw [f_Model_value] at h
  refine ob_aload d_Model_value_0 rfl ?_
  refine ob_iload d_Model_value_1 rfl ?_
  refine ob_if_lt d_Model_value_2 (fun hc => ?_) (fun hc => ?_)
  · replace h := ob_ift hc h
    refine ob_push d_Model_value_11 ?_
    refine ob_goto d_Model_value_12 ?_
    exact v_Model_value_L16 v0 v1 (1 : Int32) v0 D hp_v0 hp_v0 h
  · replace h := ob_iff hc h
    refine ob_iload d_Model_value_5 rfl ?_
    refine ob_push d_Model_value_6 ?_
    refine ob_icmp_le d_Model_value_8 (fun hc => ?_) (fun hc => ?_)
    · replace h := ob_ift hc h
      refine ob_push d_Model_value_15 ?_
      exact v_Model_value_L16 v0 v1 (0 : Int32) v0 D hp_v0 hp_v0 h
    · replace h := ob_iff hc h
      refine ob_push d_Model_value_11 ?_
      refine ob_goto d_Model_value_12 ?_
      exact v_Model_value_L16 v0 v1 (1 : Int32) v0 D hp_v0 hp_v0 h
-- OrbitBoxModel.word()I
theorem d_Model_word_1 : ob_dk k_Model_word 1 2 (0 : Int32) (.iconst 0) 1 := ⟨by decide +kernel, rfl, show Int32.ofInt 0 = (0 : Int32) by decide +kernel⟩
theorem d_Model_word_9 : ob_dc k_Model_word 9 (.ireturn) 1 10 := ⟨by decide +kernel, rfl⟩
theorem d_Model_word_6 : ob_dc k_Model_word 6 (.invokevirtual 464) 3 9 := ⟨by decide +kernel, rfl⟩
theorem d_Model_word_5 : ob_dv ob_ac k_Model_word 5 6 0 (.aload_n 0) 1 := ⟨by decide +kernel, rfl, rfl⟩
theorem d_Model_word_2 : ob_dc k_Model_word 2 (.putfield 468) 3 5 := ⟨by decide +kernel, rfl⟩
theorem d_Model_word_0 : ob_dv ob_ac k_Model_word 0 1 0 (.aload_n 0) 1 := ⟨by decide +kernel, rfl, rfl⟩
theorem c_Model_word_464 : ob_vd k_Model_word k_Model_theWord 464 0 12 := ⟨cw_Model_theWord, yd_Model_theWord, w_1616, w_1618, wp_99, w_14, ⟨_, _, rfl⟩, by decide, by decide⟩
def f_Model_word (S : ob_S) (v0 : Nat) (D : ob_D) : Option (Int32 × ob_D) :=
  ob_lt (ob_pI D v0 5 (0 : Int32)) fun D1 => ob_bd (f_Model_theWord S v0 D1) fun x4 D2 => some (x4, D2)
theorem c_Model_word {l : Launch} {E : ob_E} {S : ob_S} {D : ob_D} {v0 : Nat} {r : Int32} {D' : ob_D} (hp_v0 : S.1 v0 = 13) (h : f_Model_word S v0 D = some (r, D')) : ob_M l E k_Model_word [.ref v0] S D (some (.int r)) S D' := by
  refine ob_ofV (lo := [(0, .ref v0)]) (by decide) rfl (Nat.le_of_ble_eq_true rfl) rfl (Nat.le_refl _) (Nat.le_refl _) ?_
  rw [f_Model_word] at h
  refine ob_aload d_Model_word_0 rfl ?_
  refine ob_push d_Model_word_1 ?_
  replace h := ob_lt_e h
  refine ob_putI d_Model_word_2 F_12_5 l_Model_468 hp_v0 ?_
  refine ob_aload d_Model_word_5 rfl ?_
  obtain ⟨x4, D2, h3, h⟩ := ob_bd_e h
  refine ob_callVi (As := []) (rest := []) d_Model_word_6 c_Model_word_464 hp_v0 rfl rfl (Nat.le_of_ble_eq_true rfl) (c_Model_theWord hp_v0 h3) ⟨Nat.le_refl _, Nat.le_refl _⟩ ⟨Nat.le_refl _, Nat.le_refl _⟩ ?_
  exact ob_ie h (ob_iret d_Model_word_9 rfl rfl)
-- OrbitBoxModel.memory(I)I
theorem d_Model_memory_1 : ob_dk k_Model_memory 1 2 (0 : Int32) (.iconst 0) 1 := ⟨by decide +kernel, rfl, show Int32.ofInt 0 = (0 : Int32) by decide +kernel⟩
theorem d_Model_memory_16 : ob_dk k_Model_memory 16 17 (-1 : Int32) (.iconst (-1)) 1 := ⟨by decide +kernel, rfl, show Int32.ofInt (-1) = (-1 : Int32) by decide +kernel⟩
theorem d_Model_memory_30 : ob_dc k_Model_memory 30 (.ireturn) 1 31 := ⟨by decide +kernel, rfl⟩
theorem d_Model_memory_17 : ob_db k_Model_memory 17 (.goto 13) 13 20 30 := ⟨by decide +kernel, rfl, by decide⟩
theorem d_Model_memory_10 : ob_dk k_Model_memory 10 13 (4095 : Int32) (.sipush 4095) 3 := ⟨by decide +kernel, rfl, show (Int16.ofInt 4095).toInt32 = (4095 : Int32) by decide +kernel⟩
theorem d_Model_memory_26 : ob_dk k_Model_memory 26 29 (255 : Int32) (.sipush 255) 3 := ⟨by decide +kernel, rfl, show (Int16.ofInt 255).toInt32 = (255 : Int32) by decide +kernel⟩
theorem d_Model_memory_29 : ob_dc k_Model_memory 29 (.iand) 1 30 := ⟨by decide +kernel, rfl⟩
theorem d_Model_memory_25 : ob_dc k_Model_memory 25 (.baload) 1 26 := ⟨by decide +kernel, rfl⟩
theorem d_Model_memory_24 : ob_dv ob_lc k_Model_memory 24 25 1 (.iload_n 1) 1 := ⟨by decide +kernel, rfl, rfl⟩
theorem d_Model_memory_21 : ob_dc k_Model_memory 21 (.getfield 52) 3 24 := ⟨by decide +kernel, rfl⟩
theorem d_Model_memory_20 : ob_dv ob_ac k_Model_memory 20 21 0 (.aload_n 0) 1 := ⟨by decide +kernel, rfl, rfl⟩
theorem d_Model_memory_13 : ob_db k_Model_memory 13 (.if_icmp .le 7) 7 16 20 := ⟨by decide +kernel, rfl, by decide⟩
theorem d_Model_memory_9 : ob_dv ob_lc k_Model_memory 9 10 1 (.iload_n 1) 1 := ⟨by decide +kernel, rfl, rfl⟩
theorem d_Model_memory_6 : ob_db k_Model_memory 6 (.ifCond .lt 10) 10 9 16 := ⟨by decide +kernel, rfl, by decide⟩
theorem d_Model_memory_5 : ob_dv ob_lc k_Model_memory 5 6 1 (.iload_n 1) 1 := ⟨by decide +kernel, rfl, rfl⟩
theorem d_Model_memory_2 : ob_dc k_Model_memory 2 (.putfield 468) 3 5 := ⟨by decide +kernel, rfl⟩
theorem d_Model_memory_0 : ob_dv ob_ac k_Model_memory 0 1 0 (.aload_n 0) 1 := ⟨by decide +kernel, rfl, rfl⟩
def f_Model_memory (S : ob_S) (v0 : Nat) (v1 : Int32) (D : ob_D) : Option (Int32 × ob_D) :=
  ob_lt (ob_pI D v0 5 (0 : Int32)) fun D1 => (if v1 < 0 then some ((-1 : Int32), D1) else (if v1 ≤ (4095 : Int32) then if D1.2.1 v0 37 ≠ 0 then if ob_in v1 (S.2.1 (D1.2.1 v0 37)) then some ((D1.1 (D1.2.1 v0 37) v1.toNatClampNeg) &&& (255 : Int32), D1) else none else none else some ((-1 : Int32), D1)))
theorem c_Model_memory {l : Launch} {E : ob_E} {S : ob_S} {D : ob_D} {v0 : Nat} {v1 : Int32} {r : Int32} {D' : ob_D} (hp_v0 : S.1 v0 = 13) (h : f_Model_memory S v0 v1 D = some (r, D')) : ob_M l E k_Model_memory [.ref v0, .int v1] S D (some (.int r)) S D' := by
  refine ob_ofV (lo := [(0, .ref v0), (1, .int v1)]) (by decide) rfl (Nat.le_of_ble_eq_true rfl) rfl (Nat.le_refl _) (Nat.le_refl _) ?_
  rw [f_Model_memory] at h
  refine ob_aload d_Model_memory_0 rfl ?_
  refine ob_push d_Model_memory_1 ?_
  replace h := ob_lt_e h
  refine ob_putI d_Model_memory_2 F_12_5 l_Model_468 hp_v0 ?_
  refine ob_iload d_Model_memory_5 rfl ?_
  refine ob_if_lt d_Model_memory_6 (fun hc => ?_) (fun hc => ?_)
  · replace h := ob_ift hc h
    refine ob_push d_Model_memory_16 ?_
    refine ob_goto d_Model_memory_17 ?_
    exact ob_ie h (ob_iret d_Model_memory_30 rfl rfl)
  · replace h := ob_iff hc h
    refine ob_iload d_Model_memory_9 rfl ?_
    refine ob_push d_Model_memory_10 ?_
    refine ob_icmp_le d_Model_memory_13 (fun hc => ?_) (fun hc => ?_)
    · replace h := ob_ift hc h
      refine ob_aload d_Model_memory_20 rfl ?_
      obtain ⟨hg3, h⟩ := ob_gd h
      refine ob_getR d_Model_memory_21 F_12_37 l_Model_52 hp_v0 hg3 (fun hk2 => ?_)
      refine ob_iload d_Model_memory_24 rfl ?_
      obtain ⟨hg4, h⟩ := ob_gd h
      refine ob_bald d_Model_memory_25 hk2 hg4 ?_
      refine ob_push d_Model_memory_26 ?_
      refine ob_iand d_Model_memory_29 ?_
      exact ob_ie h (ob_iret d_Model_memory_30 rfl rfl)
    · replace h := ob_iff hc h
      refine ob_push d_Model_memory_16 ?_
      refine ob_goto d_Model_memory_17 ?_
      exact ob_ie h (ob_iret d_Model_memory_30 rfl rfl)
-- OrbitBoxModel.entry(II)I
theorem d_Model_entry_22 : ob_dk k_Model_entry 22 23 (1 : Int32) (.iconst 1) 1 := ⟨by decide +kernel, rfl, show Int32.ofInt 1 = (1 : Int32) by decide +kernel⟩
theorem d_Model_entry_59 : ob_dk k_Model_entry 59 60 (1 : Int32) (.iconst 1) 1 := ⟨by decide +kernel, rfl, show Int32.ofInt 1 = (1 : Int32) by decide +kernel⟩
theorem d_Model_entry_75 : ob_dk k_Model_entry 75 78 (260 : Int32) (.sipush 260) 3 := ⟨by decide +kernel, rfl, show (Int16.ofInt 260).toInt32 = (260 : Int32) by decide +kernel⟩
theorem d_Model_entry_80 : ob_dk k_Model_entry 80 82 (7 : Int32) (.bipush 7) 2 := ⟨by decide +kernel, rfl, show (Int8.ofInt 7).toInt32 = (7 : Int32) by decide +kernel⟩
theorem d_Model_entry_86 : ob_dc k_Model_entry 86 (.ireturn) 1 87 := ⟨by decide +kernel, rfl⟩
theorem d_Model_entry_83 : ob_dc k_Model_entry 83 (.invokestatic 180) 3 86 := ⟨by decide +kernel, rfl⟩
theorem d_Model_entry_82 : ob_dc k_Model_entry 82 (.iadd) 1 83 := ⟨by decide +kernel, rfl⟩
theorem d_Model_entry_79 : ob_dc k_Model_entry 79 (.imul) 1 80 := ⟨by decide +kernel, rfl⟩
theorem d_Model_entry_78 : ob_dv ob_lc k_Model_entry 78 79 3 (.iload_n 3) 1 := ⟨by decide +kernel, rfl, rfl⟩
theorem d_Model_entry_72 : ob_dc k_Model_entry 72 (.getfield 70) 3 75 := ⟨by decide +kernel, rfl⟩
theorem d_Model_entry_71 : ob_dv ob_ac k_Model_entry 71 72 0 (.aload_n 0) 1 := ⟨by decide +kernel, rfl, rfl⟩
theorem d_Model_entry_68 : ob_db k_Model_entry 68 (.goto 18) 18 71 86 := ⟨by decide +kernel, rfl, by decide⟩
theorem d_Model_entry_65 : ob_dc k_Model_entry 65 (.invokevirtual 375) 3 68 := ⟨by decide +kernel, rfl⟩
theorem d_Model_entry_64 : ob_dv ob_lc k_Model_entry 64 65 3 (.iload_n 3) 1 := ⟨by decide +kernel, rfl, rfl⟩
theorem d_Model_entry_63 : ob_dv ob_ac k_Model_entry 63 64 0 (.aload_n 0) 1 := ⟨by decide +kernel, rfl, rfl⟩
theorem d_Model_entry_60 : ob_db k_Model_entry 60 (.if_icmp .ne 11) 11 63 71 := ⟨by decide +kernel, rfl, by decide⟩
theorem d_Model_entry_58 : ob_dv ob_lc k_Model_entry 58 59 2 (.iload_n 2) 1 := ⟨by decide +kernel, rfl, rfl⟩
theorem d_Model_entry_55 : ob_db k_Model_entry 55 (.goto 31) 31 58 86 := ⟨by decide +kernel, rfl, by decide⟩
theorem d_Model_entry_54 : ob_dc k_Model_entry 54 (.iaload) 1 55 := ⟨by decide +kernel, rfl⟩
theorem d_Model_entry_53 : ob_dv ob_lc k_Model_entry 53 54 3 (.iload_n 3) 1 := ⟨by decide +kernel, rfl, rfl⟩
theorem d_Model_entry_50 : ob_dc k_Model_entry 50 (.getfield 64) 3 53 := ⟨by decide +kernel, rfl⟩
theorem d_Model_entry_49 : ob_dv ob_ac k_Model_entry 49 50 0 (.aload_n 0) 1 := ⟨by decide +kernel, rfl, rfl⟩
theorem d_Model_entry_46 : ob_db k_Model_entry 46 (.ifCond .ne 12) 12 49 58 := ⟨by decide +kernel, rfl, by decide⟩
theorem d_Model_entry_45 : ob_dv ob_lc k_Model_entry 45 46 2 (.iload_n 2) 1 := ⟨by decide +kernel, rfl, rfl⟩
theorem d_Model_entry_44 : ob_dv (ob_sc k_Model_entry.2.2.2.1) k_Model_entry 44 45 3 (.istore_n 3) 1 := ⟨by decide +kernel, rfl, ⟨rfl, by decide +kernel⟩⟩
theorem d_Model_entry_41 : ob_dc k_Model_entry 41 (.invokevirtual 386) 3 44 := ⟨by decide +kernel, rfl⟩
theorem d_Model_entry_40 : ob_dv ob_lc k_Model_entry 40 41 1 (.iload_n 1) 1 := ⟨by decide +kernel, rfl, rfl⟩
theorem d_Model_entry_39 : ob_dv ob_ac k_Model_entry 39 40 0 (.aload_n 0) 1 := ⟨by decide +kernel, rfl, rfl⟩
theorem d_Model_entry_37 : ob_dk k_Model_entry 37 38 (0 : Int32) (.iconst 0) 1 := ⟨by decide +kernel, rfl, show Int32.ofInt 0 = (0 : Int32) by decide +kernel⟩
theorem d_Model_entry_38 : ob_dc k_Model_entry 38 (.ireturn) 1 39 := ⟨by decide +kernel, rfl⟩
theorem d_Model_entry_34 : ob_db k_Model_entry 34 (.ifCond .eq 5) 5 37 39 := ⟨by decide +kernel, rfl, by decide⟩
theorem d_Model_entry_31 : ob_dc k_Model_entry 31 (.getfield 468) 3 34 := ⟨by decide +kernel, rfl⟩
theorem d_Model_entry_30 : ob_dv ob_ac k_Model_entry 30 31 0 (.aload_n 0) 1 := ⟨by decide +kernel, rfl, rfl⟩
theorem d_Model_entry_27 : ob_dc k_Model_entry 27 (.putfield 468) 3 30 := ⟨by decide +kernel, rfl⟩
theorem d_Model_entry_23 : ob_db k_Model_entry 23 (.goto 4) 4 26 27 := ⟨by decide +kernel, rfl, by decide⟩
theorem d_Model_entry_18 : ob_dk k_Model_entry 18 19 (2 : Int32) (.iconst 2) 1 := ⟨by decide +kernel, rfl, show Int32.ofInt 2 = (2 : Int32) by decide +kernel⟩
theorem d_Model_entry_26 : ob_dk k_Model_entry 26 27 (0 : Int32) (.iconst 0) 1 := ⟨by decide +kernel, rfl, show Int32.ofInt 0 = (0 : Int32) by decide +kernel⟩
theorem d_Model_entry_19 : ob_db k_Model_entry 19 (.if_icmp .le 7) 7 22 26 := ⟨by decide +kernel, rfl, by decide⟩
theorem d_Model_entry_17 : ob_dv ob_lc k_Model_entry 17 18 2 (.iload_n 2) 1 := ⟨by decide +kernel, rfl, rfl⟩
theorem d_Model_entry_14 : ob_db k_Model_entry 14 (.ifCond .lt 8) 8 17 22 := ⟨by decide +kernel, rfl, by decide⟩
theorem d_Model_entry_13 : ob_dv ob_lc k_Model_entry 13 14 2 (.iload_n 2) 1 := ⟨by decide +kernel, rfl, rfl⟩
theorem d_Model_entry_10 : ob_db k_Model_entry 10 (.if_icmp .ge 12) 12 13 22 := ⟨by decide +kernel, rfl, by decide⟩
theorem d_Model_entry_7 : ob_dc k_Model_entry 7 (.getfield 369) 3 10 := ⟨by decide +kernel, rfl⟩
theorem d_Model_entry_6 : ob_dv ob_ac k_Model_entry 6 7 0 (.aload_n 0) 1 := ⟨by decide +kernel, rfl, rfl⟩
theorem d_Model_entry_5 : ob_dv ob_lc k_Model_entry 5 6 1 (.iload_n 1) 1 := ⟨by decide +kernel, rfl, rfl⟩
theorem d_Model_entry_2 : ob_db k_Model_entry 2 (.ifCond .lt 20) 20 5 22 := ⟨by decide +kernel, rfl, by decide⟩
theorem d_Model_entry_1 : ob_dv ob_lc k_Model_entry 1 2 1 (.iload_n 1) 1 := ⟨by decide +kernel, rfl, rfl⟩
theorem d_Model_entry_0 : ob_dv ob_ac k_Model_entry 0 1 0 (.aload_n 0) 1 := ⟨by decide +kernel, rfl, rfl⟩
theorem c_Model_entry_180 : ob_sd k_Model_entry k_Model_two 180 2 := ⟨cw_Model_two, yd_Model_two, w_1400, w_1401, w_14, by decide, by decide⟩
theorem c_Model_entry_375 : ob_vd k_Model_entry k_Model_entryNumber 375 1 12 := ⟨cw_Model_entryNumber, yd_Model_entryNumber, w_1531, w_1533, wp_78, w_14, ⟨_, _, rfl⟩, by decide, by decide⟩
theorem c_Model_entry_386 : ob_vd k_Model_entry k_Model_due 386 1 12 := ⟨cw_Model_due, yd_Model_due, w_1430, w_1432, wp_56, w_14, ⟨_, _, rfl⟩, by decide, by decide⟩
def f_Model_entry_L27 (S : ob_S) (v0 : Nat) (v1 : Int32) (v2 : Int32) (s0 : Int32) (s1 : Nat) (D : ob_D) : Option (Int32 × ob_D) :=
  ob_lt (ob_pI D s1 5 s0) fun D1 => (if (D1.1 v0 5) = 0 then ob_bd (f_Model_due S v0 v1 D1) fun x4 D2 => (if v2 = 0 then if D2.2.1 v0 42 ≠ 0 then if ob_in x4 (S.2.1 (D2.2.1 v0 42)) then some (D2.1 (D2.2.1 v0 42) x4.toNatClampNeg, D2) else none else none else (if v2 = (1 : Int32) then ob_bd (f_Model_entryNumber S v0 x4 D2) fun x12 D10 => some (x12, D10) else if D2.2.1 v0 44 ≠ 0 then ob_bd (f_Model_two S (D2.2.1 v0 44) (((260 : Int32) * x4) + (7 : Int32)) D2) fun x9 D7 => some (x9, D7) else none)) else some ((0 : Int32), D1))
theorem v_Model_entry_L27 {l : Launch} {E : ob_E} {S : ob_S} {r : Int32} {D' : ob_D} : ∀ (v0 : Nat) (v1 : Int32) (v2 : Int32) (s0 : Int32) (s1 : Nat) (D : ob_D), S.1 v0 = 13 → S.1 s1 = 13 → f_Model_entry_L27 S v0 v1 v2 s0 s1 D = some (r, D') → ob_V l E k_Model_entry 27 [(0, .ref v0), (1, .int v1), (2, .int v2)] [.int s0, .ref s1] S D (some (.int r)) S D' := by
  intro v0 v1 v2 s0 s1 D hp_v0 hp_s1 h
  rw [f_Model_entry_L27] at h
  replace h := ob_lt_e h
  refine ob_putI d_Model_entry_27 F_12_5 l_Model_468 hp_s1 ?_
  refine ob_aload d_Model_entry_30 rfl ?_
  refine ob_getI d_Model_entry_31 F_12_5 l_Model_468 hp_v0 ?_
  refine ob_if_eq d_Model_entry_34 (fun hc => ?_) (fun hc => ?_)
  · replace h := ob_ift hc h
    refine ob_aload d_Model_entry_39 rfl ?_
    refine ob_iload d_Model_entry_40 rfl ?_
    obtain ⟨x4, D2, h3, h⟩ := ob_bd_e h
    refine ob_callVi (As := [.int v1]) (rest := []) d_Model_entry_41 c_Model_entry_386 hp_v0 rfl rfl (Nat.le_of_ble_eq_true rfl) (c_Model_due hp_v0 h3) ⟨Nat.le_refl _, Nat.le_refl _⟩ ⟨Nat.le_refl _, Nat.le_refl _⟩ ?_
    refine ob_istore (lo2 := [(0, .ref v0), (1, .int v1), (2, .int v2), (3, .int x4)]) d_Model_entry_44 rfl ?_
    refine ob_iload d_Model_entry_45 rfl ?_
    refine ob_if_ne d_Model_entry_46 (fun hc => ?_) (fun hc => ?_)
    · replace h := ob_iff hc h
      refine ob_iload d_Model_entry_58 rfl ?_
      refine ob_push d_Model_entry_59 ?_
      refine ob_icmp_ne d_Model_entry_60 (fun hc => ?_) (fun hc => ?_)
      · replace h := ob_iff hc h
        refine ob_aload d_Model_entry_71 rfl ?_
        obtain ⟨hg6, h⟩ := ob_gd h
        refine ob_getR d_Model_entry_72 F_12_44 l_Model_70 hp_v0 hg6 (fun hk5 => ?_)
        refine ob_push d_Model_entry_75 ?_
        refine ob_iload d_Model_entry_78 rfl ?_
        refine ob_imul d_Model_entry_79 ?_
        refine ob_push d_Model_entry_80 ?_
        refine ob_iadd d_Model_entry_82 ?_
        obtain ⟨x9, D7, h8, h⟩ := ob_bd_e h
        refine ob_callSi (As := [.ref (D2.2.1 v0 44), .int (((260 : Int32) * x4) + (7 : Int32))]) (rest := []) d_Model_entry_83 c_Model_entry_180 rfl rfl (Nat.le_of_ble_eq_true rfl) (c_Model_two hk5 h8) ⟨Nat.le_refl _, Nat.le_refl _⟩ ⟨Nat.le_refl _, Nat.le_refl _⟩ ?_
        exact ob_ie h (ob_iret d_Model_entry_86 rfl rfl)
      · replace h := ob_ift hc h
        refine ob_aload d_Model_entry_63 rfl ?_
        refine ob_iload d_Model_entry_64 rfl ?_
        obtain ⟨x12, D10, h11, h⟩ := ob_bd_e h
        refine ob_callVi (As := [.int x4]) (rest := []) d_Model_entry_65 c_Model_entry_375 hp_v0 rfl rfl (Nat.le_of_ble_eq_true rfl) (c_Model_entryNumber hp_v0 h11) ⟨Nat.le_refl _, Nat.le_refl _⟩ ⟨Nat.le_refl _, Nat.le_refl _⟩ ?_
        refine ob_goto d_Model_entry_68 ?_
        exact ob_ie h (ob_iret d_Model_entry_86 rfl rfl)
    · replace h := ob_ift hc h
      refine ob_aload d_Model_entry_49 rfl ?_
      obtain ⟨hg14, h⟩ := ob_gd h
      refine ob_getR d_Model_entry_50 F_12_42 l_Model_64 hp_v0 hg14 (fun hk13 => ?_)
      refine ob_iload d_Model_entry_53 rfl ?_
      obtain ⟨hg15, h⟩ := ob_gd h
      refine ob_iald d_Model_entry_54 hk13 hg15 ?_
      refine ob_goto d_Model_entry_55 ?_
      exact ob_ie h (ob_iret d_Model_entry_86 rfl rfl)
  · replace h := ob_iff hc h
    refine ob_push d_Model_entry_37 ?_
    exact ob_ie h (ob_iret d_Model_entry_38 rfl rfl)
def f_Model_entry (S : ob_S) (v0 : Nat) (v1 : Int32) (v2 : Int32) (D : ob_D) : Option (Int32 × ob_D) :=
  (if v1 < 0 then f_Model_entry_L27 S v0 v1 v2 (1 : Int32) v0 D else (if (D.1 v0 45) ≤ v1 then f_Model_entry_L27 S v0 v1 v2 (1 : Int32) v0 D else (if v2 < 0 then f_Model_entry_L27 S v0 v1 v2 (1 : Int32) v0 D else (if v2 ≤ (2 : Int32) then f_Model_entry_L27 S v0 v1 v2 (0 : Int32) v0 D else f_Model_entry_L27 S v0 v1 v2 (1 : Int32) v0 D))))
theorem c_Model_entry {l : Launch} {E : ob_E} {S : ob_S} {D : ob_D} {v0 : Nat} {v1 : Int32} {v2 : Int32} {r : Int32} {D' : ob_D} (hp_v0 : S.1 v0 = 13) (h : f_Model_entry S v0 v1 v2 D = some (r, D')) : ob_M l E k_Model_entry [.ref v0, .int v1, .int v2] S D (some (.int r)) S D' := by
  refine ob_ofV (lo := [(0, .ref v0), (1, .int v1), (2, .int v2)]) (by decide) rfl (Nat.le_of_ble_eq_true rfl) rfl (Nat.le_refl _) (Nat.le_refl _) ?_
  rw [f_Model_entry] at h
  refine ob_aload d_Model_entry_0 rfl ?_
  refine ob_iload d_Model_entry_1 rfl ?_
  refine ob_if_lt d_Model_entry_2 (fun hc => ?_) (fun hc => ?_)
  · replace h := ob_ift hc h
    refine ob_push d_Model_entry_22 ?_
    refine ob_goto d_Model_entry_23 ?_
    exact v_Model_entry_L27 v0 v1 v2 (1 : Int32) v0 D hp_v0 hp_v0 h
  · replace h := ob_iff hc h
    refine ob_iload d_Model_entry_5 rfl ?_
    refine ob_aload d_Model_entry_6 rfl ?_
    refine ob_getI d_Model_entry_7 F_12_45 l_Model_369 hp_v0 ?_
    refine ob_icmp_ge d_Model_entry_10 (fun hc => ?_) (fun hc => ?_)
    · replace h := ob_ift hc h
      refine ob_push d_Model_entry_22 ?_
      refine ob_goto d_Model_entry_23 ?_
      exact v_Model_entry_L27 v0 v1 v2 (1 : Int32) v0 D hp_v0 hp_v0 h
    · replace h := ob_iff hc h
      refine ob_iload d_Model_entry_13 rfl ?_
      refine ob_if_lt d_Model_entry_14 (fun hc => ?_) (fun hc => ?_)
      · replace h := ob_ift hc h
        refine ob_push d_Model_entry_22 ?_
        refine ob_goto d_Model_entry_23 ?_
        exact v_Model_entry_L27 v0 v1 v2 (1 : Int32) v0 D hp_v0 hp_v0 h
      · replace h := ob_iff hc h
        refine ob_iload d_Model_entry_17 rfl ?_
        refine ob_push d_Model_entry_18 ?_
        refine ob_icmp_le d_Model_entry_19 (fun hc => ?_) (fun hc => ?_)
        · replace h := ob_ift hc h
          refine ob_push d_Model_entry_26 ?_
          exact v_Model_entry_L27 v0 v1 v2 (0 : Int32) v0 D hp_v0 hp_v0 h
        · replace h := ob_iff hc h
          refine ob_push d_Model_entry_22 ?_
          refine ob_goto d_Model_entry_23 ?_
          exact v_Model_entry_L27 v0 v1 v2 (1 : Int32) v0 D hp_v0 hp_v0 h
-- OrbitBoxModel.limit(II)I
theorem d_Model_limit_1 : ob_dk k_Model_limit 1 2 (0 : Int32) (.iconst 0) 1 := ⟨by decide +kernel, rfl, show Int32.ofInt 0 = (0 : Int32) by decide +kernel⟩
theorem d_Model_limit_34 : ob_dk k_Model_limit 34 35 (-1 : Int32) (.iconst (-1)) 1 := ⟨by decide +kernel, rfl, show Int32.ofInt (-1) = (-1 : Int32) by decide +kernel⟩
theorem d_Model_limit_35 : ob_dc k_Model_limit 35 (.ireturn) 1 36 := ⟨by decide +kernel, rfl⟩
theorem d_Model_limit_10 : ob_dk k_Model_limit 10 13 (255 : Int32) (.sipush 255) 3 := ⟨by decide +kernel, rfl, show (Int16.ofInt 255).toInt32 = (255 : Int32) by decide +kernel⟩
theorem d_Model_limit_30 : ob_dk k_Model_limit 30 31 (1 : Int32) (.iconst 1) 1 := ⟨by decide +kernel, rfl, show Int32.ofInt 1 = (1 : Int32) by decide +kernel⟩
theorem d_Model_limit_37 : ob_dk k_Model_limit 37 38 (1 : Int32) (.iconst 1) 1 := ⟨by decide +kernel, rfl, show Int32.ofInt 1 = (1 : Int32) by decide +kernel⟩
theorem d_Model_limit_63 : ob_dk k_Model_limit 63 64 (0 : Int32) (.iconst 0) 1 := ⟨by decide +kernel, rfl, show Int32.ofInt 0 = (0 : Int32) by decide +kernel⟩
theorem d_Model_limit_64 : ob_dc k_Model_limit 64 (.ireturn) 1 65 := ⟨by decide +kernel, rfl⟩
theorem d_Model_limit_59 : ob_dk k_Model_limit 59 60 (1 : Int32) (.iconst 1) 1 := ⟨by decide +kernel, rfl, show Int32.ofInt 1 = (1 : Int32) by decide +kernel⟩
theorem d_Model_limit_60 : ob_db k_Model_limit 60 (.goto 4) 4 63 64 := ⟨by decide +kernel, rfl, by decide⟩
theorem d_Model_limit_56 : ob_db k_Model_limit 56 (.ifCond .eq 7) 7 59 63 := ⟨by decide +kernel, rfl, by decide⟩
theorem d_Model_limit_55 : ob_dc k_Model_limit 55 (.baload) 1 56 := ⟨by decide +kernel, rfl⟩
theorem d_Model_limit_54 : ob_dv ob_lc k_Model_limit 54 55 1 (.iload_n 1) 1 := ⟨by decide +kernel, rfl, rfl⟩
theorem d_Model_limit_51 : ob_dc k_Model_limit 51 (.getfield 76) 3 54 := ⟨by decide +kernel, rfl⟩
theorem d_Model_limit_50 : ob_dv ob_ac k_Model_limit 50 51 0 (.aload_n 0) 1 := ⟨by decide +kernel, rfl, rfl⟩
theorem d_Model_limit_47 : ob_db k_Model_limit 47 (.goto 17) 17 50 64 := ⟨by decide +kernel, rfl, by decide⟩
theorem d_Model_limit_46 : ob_dc k_Model_limit 46 (.iaload) 1 47 := ⟨by decide +kernel, rfl⟩
theorem d_Model_limit_45 : ob_dv ob_lc k_Model_limit 45 46 1 (.iload_n 1) 1 := ⟨by decide +kernel, rfl, rfl⟩
theorem d_Model_limit_42 : ob_dc k_Model_limit 42 (.getfield 97) 3 45 := ⟨by decide +kernel, rfl⟩
theorem d_Model_limit_41 : ob_dv ob_ac k_Model_limit 41 42 0 (.aload_n 0) 1 := ⟨by decide +kernel, rfl, rfl⟩
theorem d_Model_limit_38 : ob_db k_Model_limit 38 (.if_icmp .ne 12) 12 41 50 := ⟨by decide +kernel, rfl, by decide⟩
theorem d_Model_limit_36 : ob_dv ob_lc k_Model_limit 36 37 2 (.iload_n 2) 1 := ⟨by decide +kernel, rfl, rfl⟩
theorem d_Model_limit_31 : ob_db k_Model_limit 31 (.if_icmp .le 5) 5 34 36 := ⟨by decide +kernel, rfl, by decide⟩
theorem d_Model_limit_29 : ob_dv ob_lc k_Model_limit 29 30 2 (.iload_n 2) 1 := ⟨by decide +kernel, rfl, rfl⟩
theorem d_Model_limit_26 : ob_db k_Model_limit 26 (.ifCond .lt 8) 8 29 34 := ⟨by decide +kernel, rfl, by decide⟩
theorem d_Model_limit_25 : ob_dv ob_lc k_Model_limit 25 26 2 (.iload_n 2) 1 := ⟨by decide +kernel, rfl, rfl⟩
theorem d_Model_limit_22 : ob_db k_Model_limit 22 (.ifCond .eq 12) 12 25 34 := ⟨by decide +kernel, rfl, by decide⟩
theorem d_Model_limit_21 : ob_dc k_Model_limit 21 (.baload) 1 22 := ⟨by decide +kernel, rfl⟩
theorem d_Model_limit_20 : ob_dv ob_lc k_Model_limit 20 21 1 (.iload_n 1) 1 := ⟨by decide +kernel, rfl, rfl⟩
theorem d_Model_limit_17 : ob_dc k_Model_limit 17 (.getfield 73) 3 20 := ⟨by decide +kernel, rfl⟩
theorem d_Model_limit_16 : ob_dv ob_ac k_Model_limit 16 17 0 (.aload_n 0) 1 := ⟨by decide +kernel, rfl, rfl⟩
theorem d_Model_limit_13 : ob_db k_Model_limit 13 (.if_icmp .gt 21) 21 16 34 := ⟨by decide +kernel, rfl, by decide⟩
theorem d_Model_limit_9 : ob_dv ob_lc k_Model_limit 9 10 1 (.iload_n 1) 1 := ⟨by decide +kernel, rfl, rfl⟩
theorem d_Model_limit_6 : ob_db k_Model_limit 6 (.ifCond .lt 28) 28 9 34 := ⟨by decide +kernel, rfl, by decide⟩
theorem d_Model_limit_5 : ob_dv ob_lc k_Model_limit 5 6 1 (.iload_n 1) 1 := ⟨by decide +kernel, rfl, rfl⟩
theorem d_Model_limit_2 : ob_dc k_Model_limit 2 (.putfield 468) 3 5 := ⟨by decide +kernel, rfl⟩
theorem d_Model_limit_0 : ob_dv ob_ac k_Model_limit 0 1 0 (.aload_n 0) 1 := ⟨by decide +kernel, rfl, rfl⟩
def f_Model_limit (S : ob_S) (v0 : Nat) (v1 : Int32) (v2 : Int32) (D : ob_D) : Option (Int32 × ob_D) :=
  ob_lt (ob_pI D v0 5 (0 : Int32)) fun D1 => (if v1 < 0 then some ((-1 : Int32), D1) else (if (255 : Int32) < v1 then some ((-1 : Int32), D1) else if D1.2.1 v0 47 ≠ 0 then if ob_in v1 (S.2.1 (D1.2.1 v0 47)) then (if (D1.1 (D1.2.1 v0 47) v1.toNatClampNeg) = 0 then some ((-1 : Int32), D1) else (if v2 < 0 then some ((-1 : Int32), D1) else (if v2 ≤ (1 : Int32) then (if v2 = (1 : Int32) then if D1.2.1 v0 55 ≠ 0 then if ob_in v1 (S.2.1 (D1.2.1 v0 55)) then some (D1.1 (D1.2.1 v0 55) v1.toNatClampNeg, D1) else none else none else if D1.2.1 v0 48 ≠ 0 then if ob_in v1 (S.2.1 (D1.2.1 v0 48)) then (if (D1.1 (D1.2.1 v0 48) v1.toNatClampNeg) = 0 then some ((0 : Int32), D1) else some ((1 : Int32), D1)) else none else none) else some ((-1 : Int32), D1)))) else none else none))
theorem c_Model_limit {l : Launch} {E : ob_E} {S : ob_S} {D : ob_D} {v0 : Nat} {v1 : Int32} {v2 : Int32} {r : Int32} {D' : ob_D} (hp_v0 : S.1 v0 = 13) (h : f_Model_limit S v0 v1 v2 D = some (r, D')) : ob_M l E k_Model_limit [.ref v0, .int v1, .int v2] S D (some (.int r)) S D' := by
  refine ob_ofV (lo := [(0, .ref v0), (1, .int v1), (2, .int v2)]) (by decide) rfl (Nat.le_of_ble_eq_true rfl) rfl (Nat.le_refl _) (Nat.le_refl _) ?_
  rw [f_Model_limit] at h
  refine ob_aload d_Model_limit_0 rfl ?_
  refine ob_push d_Model_limit_1 ?_
  replace h := ob_lt_e h
  refine ob_putI d_Model_limit_2 F_12_5 l_Model_468 hp_v0 ?_
  refine ob_iload d_Model_limit_5 rfl ?_
  refine ob_if_lt d_Model_limit_6 (fun hc => ?_) (fun hc => ?_)
  · replace h := ob_ift hc h
    refine ob_push d_Model_limit_34 ?_
    exact ob_ie h (ob_iret d_Model_limit_35 rfl rfl)
  · replace h := ob_iff hc h
    refine ob_iload d_Model_limit_9 rfl ?_
    refine ob_push d_Model_limit_10 ?_
    refine ob_icmp_gt d_Model_limit_13 (fun hc => ?_) (fun hc => ?_)
    · replace h := ob_ift hc h
      refine ob_push d_Model_limit_34 ?_
      exact ob_ie h (ob_iret d_Model_limit_35 rfl rfl)
    · replace h := ob_iff hc h
      refine ob_aload d_Model_limit_16 rfl ?_
      obtain ⟨hg3, h⟩ := ob_gd h
      refine ob_getR d_Model_limit_17 F_12_47 l_Model_73 hp_v0 hg3 (fun hk2 => ?_)
      refine ob_iload d_Model_limit_20 rfl ?_
      obtain ⟨hg4, h⟩ := ob_gd h
      refine ob_zald d_Model_limit_21 hk2 hg4 ?_
      refine ob_if_eq d_Model_limit_22 (fun hc => ?_) (fun hc => ?_)
      · replace h := ob_ift hc h
        refine ob_push d_Model_limit_34 ?_
        exact ob_ie h (ob_iret d_Model_limit_35 rfl rfl)
      · replace h := ob_iff hc h
        refine ob_iload d_Model_limit_25 rfl ?_
        refine ob_if_lt d_Model_limit_26 (fun hc => ?_) (fun hc => ?_)
        · replace h := ob_ift hc h
          refine ob_push d_Model_limit_34 ?_
          exact ob_ie h (ob_iret d_Model_limit_35 rfl rfl)
        · replace h := ob_iff hc h
          refine ob_iload d_Model_limit_29 rfl ?_
          refine ob_push d_Model_limit_30 ?_
          refine ob_icmp_le d_Model_limit_31 (fun hc => ?_) (fun hc => ?_)
          · replace h := ob_ift hc h
            refine ob_iload d_Model_limit_36 rfl ?_
            refine ob_push d_Model_limit_37 ?_
            refine ob_icmp_ne d_Model_limit_38 (fun hc => ?_) (fun hc => ?_)
            · replace h := ob_iff hc h
              refine ob_aload d_Model_limit_50 rfl ?_
              obtain ⟨hg6, h⟩ := ob_gd h
              refine ob_getR d_Model_limit_51 F_12_48 l_Model_76 hp_v0 hg6 (fun hk5 => ?_)
              refine ob_iload d_Model_limit_54 rfl ?_
              obtain ⟨hg7, h⟩ := ob_gd h
              refine ob_zald d_Model_limit_55 hk5 hg7 ?_
              refine ob_if_eq d_Model_limit_56 (fun hc => ?_) (fun hc => ?_)
              · replace h := ob_ift hc h
                refine ob_push d_Model_limit_63 ?_
                exact ob_ie h (ob_iret d_Model_limit_64 rfl rfl)
              · replace h := ob_iff hc h
                refine ob_push d_Model_limit_59 ?_
                refine ob_goto d_Model_limit_60 ?_
                exact ob_ie h (ob_iret d_Model_limit_64 rfl rfl)
            · replace h := ob_ift hc h
              refine ob_aload d_Model_limit_41 rfl ?_
              obtain ⟨hg9, h⟩ := ob_gd h
              refine ob_getR d_Model_limit_42 F_12_55 l_Model_97 hp_v0 hg9 (fun hk8 => ?_)
              refine ob_iload d_Model_limit_45 rfl ?_
              obtain ⟨hg10, h⟩ := ob_gd h
              refine ob_iald d_Model_limit_46 hk8 hg10 ?_
              refine ob_goto d_Model_limit_47 ?_
              exact ob_ie h (ob_iret d_Model_limit_64 rfl rfl)
          · replace h := ob_iff hc h
            refine ob_push d_Model_limit_34 ?_
            exact ob_ie h (ob_iret d_Model_limit_35 rfl rfl)
-- OrbitBoxModel.state(I)I
theorem d_Model_state_1 : ob_dk k_Model_state 1 2 (0 : Int32) (.iconst 0) 1 := ⟨by decide +kernel, rfl, show Int32.ofInt 0 = (0 : Int32) by decide +kernel⟩
theorem d_Model_state_6 : decode k_Model_state.2.2.1 6 = .ok (.tableswitch 97 0 5 #[38, 45, 61, 74, 79, 84], 38) := by decide +kernel
theorem d_Model_state_48 : ob_dk k_Model_state 48 49 (1 : Int32) (.iconst 1) 1 := ⟨by decide +kernel, rfl, show Int32.ofInt 1 = (1 : Int32) by decide +kernel⟩
theorem d_Model_state_50 : ob_dc k_Model_state 50 (.ireturn) 1 51 := ⟨by decide +kernel, rfl⟩
theorem d_Model_state_49 : ob_dc k_Model_state 49 (.iaload) 1 50 := ⟨by decide +kernel, rfl⟩
theorem d_Model_state_45 : ob_dc k_Model_state 45 (.getfield 149) 3 48 := ⟨by decide +kernel, rfl⟩
theorem d_Model_state_44 : ob_dv ob_ac k_Model_state 44 45 0 (.aload_n 0) 1 := ⟨by decide +kernel, rfl, rfl⟩
theorem d_Model_state_65 : ob_dk k_Model_state 65 66 (-1 : Int32) (.iconst (-1)) 1 := ⟨by decide +kernel, rfl, show Int32.ofInt (-1) = (-1 : Int32) by decide +kernel⟩
theorem d_Model_state_66 : ob_dc k_Model_state 66 (.ireturn) 1 67 := ⟨by decide +kernel, rfl⟩
theorem d_Model_state_62 : ob_db k_Model_state 62 (.goto 4) 4 65 66 := ⟨by decide +kernel, rfl, by decide⟩
theorem d_Model_state_59 : ob_dc k_Model_state 59 (.getfield 398) 3 62 := ⟨by decide +kernel, rfl⟩
theorem d_Model_state_58 : ob_dv ob_ac k_Model_state 58 59 0 (.aload_n 0) 1 := ⟨by decide +kernel, rfl, rfl⟩
theorem d_Model_state_55 : ob_db k_Model_state 55 (.ifCond .eq 10) 10 58 65 := ⟨by decide +kernel, rfl, by decide⟩
theorem d_Model_state_52 : ob_dc k_Model_state 52 (.getfield 395) 3 55 := ⟨by decide +kernel, rfl⟩
theorem d_Model_state_51 : ob_dv ob_ac k_Model_state 51 52 0 (.aload_n 0) 1 := ⟨by decide +kernel, rfl, rfl⟩
theorem d_Model_state_78 : ob_dk k_Model_state 78 79 (0 : Int32) (.iconst 0) 1 := ⟨by decide +kernel, rfl, show Int32.ofInt 0 = (0 : Int32) by decide +kernel⟩
theorem d_Model_state_79 : ob_dc k_Model_state 79 (.ireturn) 1 80 := ⟨by decide +kernel, rfl⟩
theorem d_Model_state_74 : ob_dk k_Model_state 74 75 (1 : Int32) (.iconst 1) 1 := ⟨by decide +kernel, rfl, show Int32.ofInt 1 = (1 : Int32) by decide +kernel⟩
theorem d_Model_state_75 : ob_db k_Model_state 75 (.goto 4) 4 78 79 := ⟨by decide +kernel, rfl, by decide⟩
theorem d_Model_state_71 : ob_db k_Model_state 71 (.ifCond .eq 7) 7 74 78 := ⟨by decide +kernel, rfl, by decide⟩
theorem d_Model_state_68 : ob_dc k_Model_state 68 (.getfield 449) 3 71 := ⟨by decide +kernel, rfl⟩
theorem d_Model_state_67 : ob_dv ob_ac k_Model_state 67 68 0 (.aload_n 0) 1 := ⟨by decide +kernel, rfl, rfl⟩
theorem d_Model_state_84 : ob_dc k_Model_state 84 (.ireturn) 1 85 := ⟨by decide +kernel, rfl⟩
theorem d_Model_state_81 : ob_dc k_Model_state 81 (.getfield 431) 3 84 := ⟨by decide +kernel, rfl⟩
theorem d_Model_state_80 : ob_dv ob_ac k_Model_state 80 81 0 (.aload_n 0) 1 := ⟨by decide +kernel, rfl, rfl⟩
theorem d_Model_state_89 : ob_dc k_Model_state 89 (.ireturn) 1 90 := ⟨by decide +kernel, rfl⟩
theorem d_Model_state_86 : ob_dc k_Model_state 86 (.getfield 401) 3 89 := ⟨by decide +kernel, rfl⟩
theorem d_Model_state_85 : ob_dv ob_ac k_Model_state 85 86 0 (.aload_n 0) 1 := ⟨by decide +kernel, rfl, rfl⟩
theorem d_Model_state_101 : ob_dk k_Model_state 101 102 (0 : Int32) (.iconst 0) 1 := ⟨by decide +kernel, rfl, show Int32.ofInt 0 = (0 : Int32) by decide +kernel⟩
theorem d_Model_state_102 : ob_dc k_Model_state 102 (.ireturn) 1 103 := ⟨by decide +kernel, rfl⟩
theorem d_Model_state_97 : ob_dk k_Model_state 97 98 (1 : Int32) (.iconst 1) 1 := ⟨by decide +kernel, rfl, show Int32.ofInt 1 = (1 : Int32) by decide +kernel⟩
theorem d_Model_state_98 : ob_db k_Model_state 98 (.goto 4) 4 101 102 := ⟨by decide +kernel, rfl, by decide⟩
theorem d_Model_state_94 : ob_db k_Model_state 94 (.ifCond .eq 7) 7 97 101 := ⟨by decide +kernel, rfl, by decide⟩
theorem d_Model_state_91 : ob_dc k_Model_state 91 (.getfield 184) 3 94 := ⟨by decide +kernel, rfl⟩
theorem d_Model_state_90 : ob_dv ob_ac k_Model_state 90 91 0 (.aload_n 0) 1 := ⟨by decide +kernel, rfl, rfl⟩
theorem d_Model_state_103 : ob_dk k_Model_state 103 104 (-1 : Int32) (.iconst (-1)) 1 := ⟨by decide +kernel, rfl, show Int32.ofInt (-1) = (-1 : Int32) by decide +kernel⟩
theorem d_Model_state_104 : ob_dc k_Model_state 104 (.ireturn) 1 105 := ⟨by decide +kernel, rfl⟩
theorem d_Model_state_5 : ob_dv ob_lc k_Model_state 5 6 1 (.iload_n 1) 1 := ⟨by decide +kernel, rfl, rfl⟩
theorem d_Model_state_2 : ob_dc k_Model_state 2 (.putfield 468) 3 5 := ⟨by decide +kernel, rfl⟩
theorem d_Model_state_0 : ob_dv ob_ac k_Model_state 0 1 0 (.aload_n 0) 1 := ⟨by decide +kernel, rfl, rfl⟩
def f_Model_state (S : ob_S) (v0 : Nat) (v1 : Int32) (D : ob_D) : Option (Int32 × ob_D) :=
  ob_lt (ob_pI D v0 5 (0 : Int32)) fun D1 => (if v1 = (0 : Int32) then if D1.2.1 v0 86 ≠ 0 then if ob_in (1 : Int32) (S.2.1 (D1.2.1 v0 86)) then some (D1.1 (D1.2.1 v0 86) (1 : Int32).toNatClampNeg, D1) else none else none else if v1 = (1 : Int32) then (if (D1.1 v0 59) = 0 then some ((-1 : Int32), D1) else some (D1.1 v0 58, D1)) else if v1 = (2 : Int32) then (if (D1.1 v0 80) = 0 then some ((0 : Int32), D1) else some ((1 : Int32), D1)) else if v1 = (3 : Int32) then some (D1.1 v0 79, D1) else if v1 = (4 : Int32) then some (D1.1 v0 67, D1) else if v1 = (5 : Int32) then (if (D1.1 v0 8) = 0 then some ((0 : Int32), D1) else some ((1 : Int32), D1)) else some ((-1 : Int32), D1))
theorem c_Model_state {l : Launch} {E : ob_E} {S : ob_S} {D : ob_D} {v0 : Nat} {v1 : Int32} {r : Int32} {D' : ob_D} (hp_v0 : S.1 v0 = 13) (h : f_Model_state S v0 v1 D = some (r, D')) : ob_M l E k_Model_state [.ref v0, .int v1] S D (some (.int r)) S D' := by
  refine ob_ofV (lo := [(0, .ref v0), (1, .int v1)]) (by decide) rfl (Nat.le_of_ble_eq_true rfl) rfl (Nat.le_refl _) (Nat.le_refl _) ?_
  rw [f_Model_state] at h
  refine ob_aload d_Model_state_0 rfl ?_
  refine ob_push d_Model_state_1 ?_
  replace h := ob_lt_e h
  refine ob_putI d_Model_state_2 F_12_5 l_Model_468 hp_v0 ?_
  refine ob_iload d_Model_state_5 rfl ?_
  by_cases hs5 : v1 = (0 : Int32)
  · replace h := ob_ift hs5 h
    refine ob_tabI (off := 38) (t := 44) d_Model_state_6 hs5 (by decide +kernel) ?_
    refine ob_aload d_Model_state_44 rfl ?_
    obtain ⟨hg3, h⟩ := ob_gd h
    refine ob_getR d_Model_state_45 F_12_86 l_Model_149 hp_v0 hg3 (fun hk2 => ?_)
    refine ob_push d_Model_state_48 ?_
    obtain ⟨hg4, h⟩ := ob_gd h
    refine ob_iald d_Model_state_49 hk2 hg4 ?_
    exact ob_ie h (ob_iret d_Model_state_50 rfl rfl)
  replace h := ob_iff hs5 h
  by_cases hs6 : v1 = (1 : Int32)
  · replace h := ob_ift hs6 h
    refine ob_tabI (off := 45) (t := 51) d_Model_state_6 hs6 (by decide +kernel) ?_
    refine ob_aload d_Model_state_51 rfl ?_
    refine ob_getI d_Model_state_52 F_12_59 l_Model_395 hp_v0 ?_
    refine ob_if_eq d_Model_state_55 (fun hc => ?_) (fun hc => ?_)
    · replace h := ob_ift hc h
      refine ob_push d_Model_state_65 ?_
      exact ob_ie h (ob_iret d_Model_state_66 rfl rfl)
    · replace h := ob_iff hc h
      refine ob_aload d_Model_state_58 rfl ?_
      refine ob_getI d_Model_state_59 F_12_58 l_Model_398 hp_v0 ?_
      refine ob_goto d_Model_state_62 ?_
      exact ob_ie h (ob_iret d_Model_state_66 rfl rfl)
  replace h := ob_iff hs6 h
  by_cases hs7 : v1 = (2 : Int32)
  · replace h := ob_ift hs7 h
    refine ob_tabI (off := 61) (t := 67) d_Model_state_6 hs7 (by decide +kernel) ?_
    refine ob_aload d_Model_state_67 rfl ?_
    refine ob_getI d_Model_state_68 F_12_80 l_Model_449 hp_v0 ?_
    refine ob_if_eq d_Model_state_71 (fun hc => ?_) (fun hc => ?_)
    · replace h := ob_ift hc h
      refine ob_push d_Model_state_78 ?_
      exact ob_ie h (ob_iret d_Model_state_79 rfl rfl)
    · replace h := ob_iff hc h
      refine ob_push d_Model_state_74 ?_
      refine ob_goto d_Model_state_75 ?_
      exact ob_ie h (ob_iret d_Model_state_79 rfl rfl)
  replace h := ob_iff hs7 h
  by_cases hs8 : v1 = (3 : Int32)
  · replace h := ob_ift hs8 h
    refine ob_tabI (off := 74) (t := 80) d_Model_state_6 hs8 (by decide +kernel) ?_
    refine ob_aload d_Model_state_80 rfl ?_
    refine ob_getI d_Model_state_81 F_12_79 l_Model_431 hp_v0 ?_
    exact ob_ie h (ob_iret d_Model_state_84 rfl rfl)
  replace h := ob_iff hs8 h
  by_cases hs9 : v1 = (4 : Int32)
  · replace h := ob_ift hs9 h
    refine ob_tabI (off := 79) (t := 85) d_Model_state_6 hs9 (by decide +kernel) ?_
    refine ob_aload d_Model_state_85 rfl ?_
    refine ob_getI d_Model_state_86 F_12_67 l_Model_401 hp_v0 ?_
    exact ob_ie h (ob_iret d_Model_state_89 rfl rfl)
  replace h := ob_iff hs9 h
  by_cases hs10 : v1 = (5 : Int32)
  · replace h := ob_ift hs10 h
    refine ob_tabI (off := 84) (t := 90) d_Model_state_6 hs10 (by decide +kernel) ?_
    refine ob_aload d_Model_state_90 rfl ?_
    refine ob_getI d_Model_state_91 F_12_8 l_Model_184 hp_v0 ?_
    refine ob_if_eq d_Model_state_94 (fun hc => ?_) (fun hc => ?_)
    · replace h := ob_ift hc h
      refine ob_push d_Model_state_101 ?_
      exact ob_ie h (ob_iret d_Model_state_102 rfl rfl)
    · replace h := ob_iff hc h
      refine ob_push d_Model_state_97 ?_
      refine ob_goto d_Model_state_98 ?_
      exact ob_ie h (ob_iret d_Model_state_102 rfl rfl)
  replace h := ob_iff hs10 h
  refine ob_tabO (t := 103) d_Model_state_6 (by decide) (ob_out _ _ _ (fun k h1 h2 hk => ?_)) ?_
  · have hh : k = 0 ∨ k = 1 ∨ k = 2 ∨ k = 3 ∨ k = 4 ∨ k = 5 := by omega
    rcases hh with rfl | rfl | rfl | rfl | rfl | rfl
    · exact hs5 (Int32.toInt_inj.mp hk)
    · exact hs6 (Int32.toInt_inj.mp hk)
    · exact hs7 (Int32.toInt_inj.mp hk)
    · exact hs8 (Int32.toInt_inj.mp hk)
    · exact hs9 (Int32.toInt_inj.mp hk)
    · exact hs10 (Int32.toInt_inj.mp hk)
  · skip
    refine ob_push d_Model_state_103 ?_
    exact ob_ie h (ob_iret d_Model_state_104 rfl rfl)
