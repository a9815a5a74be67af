-- OrbitBoxModel.firstFour()V
theorem d_Model_firstFour_0 : ob_dk k_Model_firstFour 0 1 (0 : Int32) (.iconst 0) 1 := ⟨by decide +kernel, rfl, show Int32.ofInt 0 = (0 : Int32) by decide +kernel⟩
theorem d_Model_firstFour_3 : ob_dk k_Model_firstFour 3 4 (4 : Int32) (.iconst 4) 1 := ⟨by decide +kernel, rfl, show Int32.ofInt 4 = (4 : Int32) by decide +kernel⟩
theorem d_Model_firstFour_35 : ob_dc k_Model_firstFour 35 (.return_) 1 36 := ⟨by decide +kernel, rfl⟩
theorem d_Model_firstFour_25 : ob_dk k_Model_firstFour 25 26 (0 : Int32) (.iconst 0) 1 := ⟨by decide +kernel, rfl, show Int32.ofInt 0 = (0 : Int32) by decide +kernel⟩
theorem d_Model_firstFour_29 : ob_di k_Model_firstFour 29 32 1 1 (1 : Int32) := ⟨by decide +kernel, rfl, by decide +kernel, by decide +kernel⟩
theorem d_Model_firstFour_32 : ob_db k_Model_firstFour 32 (.goto (-30)) (-30) 35 2 := ⟨by decide +kernel, rfl, by decide⟩
theorem d_Model_firstFour_26 : ob_dc k_Model_firstFour 26 (.invokevirtual 264) 3 29 := ⟨by decide +kernel, rfl⟩
theorem d_Model_firstFour_22 : ob_db k_Model_firstFour 22 (.goto 4) 4 25 26 := ⟨by decide +kernel, rfl, by decide⟩
theorem d_Model_firstFour_21 : ob_dc k_Model_firstFour 21 (.baload) 1 22 := ⟨by decide +kernel, rfl⟩
theorem d_Model_firstFour_20 : ob_dv ob_lc k_Model_firstFour 20 21 1 (.iload_n 1) 1 := ⟨by decide +kernel, rfl, rfl⟩
theorem d_Model_firstFour_17 : ob_dc k_Model_firstFour 17 (.getfield 34) 3 20 := ⟨by decide +kernel, rfl⟩
theorem d_Model_firstFour_16 : ob_dv ob_ac k_Model_firstFour 16 17 0 (.aload_n 0) 1 := ⟨by decide +kernel, rfl, rfl⟩
theorem d_Model_firstFour_13 : ob_db k_Model_firstFour 13 (.if_icmp .ge 12) 12 16 25 := ⟨by decide +kernel, rfl, by decide⟩
theorem d_Model_firstFour_10 : ob_dc k_Model_firstFour 10 (.getfield 258) 3 13 := ⟨by decide +kernel, rfl⟩
theorem d_Model_firstFour_9 : ob_dv ob_ac k_Model_firstFour 9 10 0 (.aload_n 0) 1 := ⟨by decide +kernel, rfl, rfl⟩
theorem d_Model_firstFour_8 : ob_dv ob_lc k_Model_firstFour 8 9 1 (.iload_n 1) 1 := ⟨by decide +kernel, rfl, rfl⟩
theorem d_Model_firstFour_7 : ob_dv ob_ac k_Model_firstFour 7 8 0 (.aload_n 0) 1 := ⟨by decide +kernel, rfl, rfl⟩
theorem d_Model_firstFour_4 : ob_db k_Model_firstFour 4 (.if_icmp .ge 31) 31 7 35 := ⟨by decide +kernel, rfl, by decide⟩
theorem d_Model_firstFour_2 : ob_dv ob_lc k_Model_firstFour 2 3 1 (.iload_n 1) 1 := ⟨by decide +kernel, rfl, rfl⟩
theorem d_Model_firstFour_1 : ob_dv (ob_sc k_Model_firstFour.2.2.2.1) k_Model_firstFour 1 2 1 (.istore_n 1) 1 := ⟨by decide +kernel, rfl, ⟨rfl, by decide +kernel⟩⟩
theorem c_Model_firstFour_264 : ob_vd k_Model_firstFour k_Model_say 264 1 12 := ⟨cw_Model_say, yd_Model_say, w_1464, w_1466, wp_63, w_14, ⟨_, _, rfl⟩, by decide, by decide⟩
def f_Model_firstFour_L2 (S : ob_S) : Nat → Nat → Int32 → ob_D → Option (ob_D)
  | 0, _, _, _ => none
  | n + 1, v0, v1, D => (if (4 : Int32) ≤ v1 then some D else (if (D.1 v0 28) ≤ v1 then ob_bv (f_Model_say S v0 (0 : Int32) D) fun D1 => f_Model_firstFour_L2 S n v0 (v1 + (1 : Int32)) D1 else if D.2.1 v0 27 ≠ 0 then if ob_in v1 (S.2.1 (D.2.1 v0 27)) then ob_bv (f_Model_say S v0 (D.1 (D.2.1 v0 27) v1.toNatClampNeg) D) fun D6 => f_Model_firstFour_L2 S n v0 (v1 + (1 : Int32)) D6 else none else none))
theorem v_Model_firstFour_L2 {l : Launch} {E : ob_E} {S : ob_S} {D' : ob_D} : ∀ (n : Nat), ∀ (v0 : Nat) (v1 : Int32) (D : ob_D), S.1 v0 = 13 → f_Model_firstFour_L2 S n v0 v1 D = some D' → ob_V l E k_Model_firstFour 2 [(0, .ref v0), (1, .int v1)] [] S D none S D' := by
  intro n
  induction n with
  | zero =>
    intro v0 v1 D hp_v0 h
    have h : none = some D' := h
    cases h
  | succ n ih =>
    intro v0 v1 D hp_v0 h
    rw [f_Model_firstFour_L2] at h
    refine ob_iload d_Model_firstFour_2 rfl ?_
    refine ob_push d_Model_firstFour_3 ?_
    refine ob_icmp_ge d_Model_firstFour_4 (fun hc => ?_) (fun hc => ?_)
    · replace h := ob_ift hc h
      exact ob_ve h (ob_vret d_Model_firstFour_35 rfl)
    · replace h := ob_iff hc h
      refine ob_aload d_Model_firstFour_7 rfl ?_
      refine ob_iload d_Model_firstFour_8 rfl ?_
      refine ob_aload d_Model_firstFour_9 rfl ?_
      refine ob_getI d_Model_firstFour_10 F_12_28 l_Model_258 hp_v0 ?_
      refine ob_icmp_ge d_Model_firstFour_13 (fun hc => ?_) (fun hc => ?_)
      · replace h := ob_ift hc h
        refine ob_push d_Model_firstFour_25 ?_
        obtain ⟨D1, h2, h⟩ := ob_bv_e h
        refine ob_callVv (As := [.int (0 : Int32)]) (rest := []) d_Model_firstFour_26 c_Model_firstFour_264 hp_v0 rfl rfl (Nat.le_of_ble_eq_true rfl) (c_Model_say hp_v0 h2) ⟨Nat.le_refl _, Nat.le_refl _⟩ ⟨Nat.le_refl _, Nat.le_refl _⟩ ?_
        refine ob_iinc (lo2 := [(0, .ref v0), (1, .int (v1 + (1 : Int32)))]) d_Model_firstFour_29 rfl rfl ?_
        refine ob_goto d_Model_firstFour_32 ?_
        exact ih v0 (v1 + (1 : Int32)) D1 hp_v0 h
      · replace h := ob_iff hc h
        refine ob_aload d_Model_firstFour_16 rfl ?_
        obtain ⟨hg4, h⟩ := ob_gd h
        refine ob_getR d_Model_firstFour_17 F_12_27 l_Model_34 hp_v0 hg4 (fun hk3 => ?_)
        refine ob_iload d_Model_firstFour_20 rfl ?_
        obtain ⟨hg5, h⟩ := ob_gd h
        refine ob_bald d_Model_firstFour_21 hk3 hg5 ?_
        refine ob_goto d_Model_firstFour_22 ?_
        obtain ⟨D6, h7, h⟩ := ob_bv_e h
        refine ob_callVv (As := [.int (D.1 (D.2.1 v0 27) v1.toNatClampNeg)]) (rest := []) d_Model_firstFour_26 c_Model_firstFour_264 hp_v0 rfl rfl (Nat.le_of_ble_eq_true rfl) (c_Model_say hp_v0 h7) ⟨Nat.le_refl _, Nat.le_refl _⟩ ⟨Nat.le_refl _, Nat.le_refl _⟩ ?_
        refine ob_iinc (lo2 := [(0, .ref v0), (1, .int (v1 + (1 : Int32)))]) d_Model_firstFour_29 rfl rfl ?_
        refine ob_goto d_Model_firstFour_32 ?_
        exact ih v0 (v1 + (1 : Int32)) D6 hp_v0 h
def f_Model_firstFour (S : ob_S) (v0 : Nat) (D : ob_D) : Option (ob_D) :=
  f_Model_firstFour_L2 S ob_FU v0 (0 : Int32) D
theorem c_Model_firstFour {l : Launch} {E : ob_E} {S : ob_S} {D : ob_D} {v0 : Nat} {D' : ob_D} (hp_v0 : S.1 v0 = 13) (h : f_Model_firstFour S v0 D = some D') : ob_M l E k_Model_firstFour [.ref v0] S D none S D' := by
  refine ob_ofV (lo := [(0, .ref v0)]) (by decide) rfl (Nat.le_of_ble_eq_true rfl) rfl (Nat.le_refl _) (Nat.le_refl _) ?_
  rw [f_Model_firstFour] at h
  refine ob_push d_Model_firstFour_0 ?_
  refine ob_istore (lo2 := [(0, .ref v0), (1, .int (0 : Int32))]) d_Model_firstFour_1 rfl ?_
  exact v_Model_firstFour_L2 ob_FU v0 (0 : Int32) D hp_v0 h
-- OrbitBoxModel.joins(I[BII)Z
theorem d_Model_joins_9 : ob_dk k_Model_joins 9 12 (4096 : Int32) (.sipush 4096) 3 := ⟨by decide +kernel, rfl, show (Int16.ofInt 4096).toInt32 = (4096 : Int32) by decide +kernel⟩
theorem d_Model_joins_36 : ob_dk k_Model_joins 36 37 (0 : Int32) (.iconst 0) 1 := ⟨by decide +kernel, rfl, show Int32.ofInt 0 = (0 : Int32) by decide +kernel⟩
theorem d_Model_joins_89 : ob_dk k_Model_joins 89 90 (1 : Int32) (.iconst 1) 1 := ⟨by decide +kernel, rfl, show Int32.ofInt 1 = (1 : Int32) by decide +kernel⟩
theorem d_Model_joins_90 : ob_dc k_Model_joins 90 (.ireturn) 1 91 := ⟨by decide +kernel, rfl⟩
theorem d_Model_joins_88 : ob_dc k_Model_joins 88 (.iastore) 1 89 := ⟨by decide +kernel, rfl⟩
theorem d_Model_joins_87 : ob_dc k_Model_joins 87 (.iadd) 1 88 := ⟨by decide +kernel, rfl⟩
theorem d_Model_joins_85 : ob_dv ob_lc k_Model_joins 85 87 4 (.iload 4) 2 := ⟨by decide +kernel, rfl, rfl⟩
theorem d_Model_joins_84 : ob_dc k_Model_joins 84 (.iaload) 1 85 := ⟨by decide +kernel, rfl⟩
theorem d_Model_joins_83 : ob_dc k_Model_joins 83 (.dup2) 1 84 := ⟨by decide +kernel, rfl⟩
theorem d_Model_joins_82 : ob_dv ob_lc k_Model_joins 82 83 1 (.iload_n 1) 1 := ⟨by decide +kernel, rfl, rfl⟩
theorem d_Model_joins_79 : ob_dc k_Model_joins 79 (.getfield 149) 3 82 := ⟨by decide +kernel, rfl⟩
theorem d_Model_joins_78 : ob_dv ob_ac k_Model_joins 78 79 0 (.aload_n 0) 1 := ⟨by decide +kernel, rfl, rfl⟩
theorem d_Model_joins_70 : ob_dk k_Model_joins 70 71 (0 : Int32) (.iconst 0) 1 := ⟨by decide +kernel, rfl, show Int32.ofInt 0 = (0 : Int32) by decide +kernel⟩
theorem d_Model_joins_72 : ob_di k_Model_joins 72 75 5 1 (1 : Int32) := ⟨by decide +kernel, rfl, by decide +kernel, by decide +kernel⟩
theorem d_Model_joins_75 : ob_db k_Model_joins 75 (.goto (-36)) (-36) 78 39 := ⟨by decide +kernel, rfl, by decide⟩
theorem d_Model_joins_71 : ob_dc k_Model_joins 71 (.bastore) 1 72 := ⟨by decide +kernel, rfl⟩
theorem d_Model_joins_66 : ob_dk k_Model_joins 66 67 (1 : Int32) (.iconst 1) 1 := ⟨by decide +kernel, rfl, show Int32.ofInt 1 = (1 : Int32) by decide +kernel⟩
theorem d_Model_joins_67 : ob_db k_Model_joins 67 (.goto 4) 4 70 71 := ⟨by decide +kernel, rfl, by decide⟩
theorem d_Model_joins_63 : ob_db k_Model_joins 63 (.ifCond .ne 7) 7 66 70 := ⟨by decide +kernel, rfl, by decide⟩
theorem d_Model_joins_61 : ob_dv ob_lc k_Model_joins 61 63 5 (.iload 5) 2 := ⟨by decide +kernel, rfl, rfl⟩
theorem d_Model_joins_60 : ob_dc k_Model_joins 60 (.iadd) 1 61 := ⟨by decide +kernel, rfl⟩
theorem d_Model_joins_58 : ob_dv ob_lc k_Model_joins 58 60 5 (.iload 5) 2 := ⟨by decide +kernel, rfl, rfl⟩
theorem d_Model_joins_57 : ob_dc k_Model_joins 57 (.iaload) 1 58 := ⟨by decide +kernel, rfl⟩
theorem d_Model_joins_56 : ob_dv ob_lc k_Model_joins 56 57 1 (.iload_n 1) 1 := ⟨by decide +kernel, rfl, rfl⟩
theorem d_Model_joins_53 : ob_dc k_Model_joins 53 (.getfield 149) 3 56 := ⟨by decide +kernel, rfl⟩
theorem d_Model_joins_52 : ob_dv ob_ac k_Model_joins 52 53 0 (.aload_n 0) 1 := ⟨by decide +kernel, rfl, rfl⟩
theorem d_Model_joins_51 : ob_dc k_Model_joins 51 (.aaload) 1 52 := ⟨by decide +kernel, rfl⟩
theorem d_Model_joins_50 : ob_dv ob_lc k_Model_joins 50 51 1 (.iload_n 1) 1 := ⟨by decide +kernel, rfl, rfl⟩
theorem d_Model_joins_47 : ob_dc k_Model_joins 47 (.getfield 146) 3 50 := ⟨by decide +kernel, rfl⟩
theorem d_Model_joins_46 : ob_dv ob_ac k_Model_joins 46 47 0 (.aload_n 0) 1 := ⟨by decide +kernel, rfl, rfl⟩
theorem d_Model_joins_43 : ob_db k_Model_joins 43 (.if_icmp .ge 35) 35 46 78 := ⟨by decide +kernel, rfl, by decide⟩
theorem d_Model_joins_41 : ob_dv ob_lc k_Model_joins 41 43 4 (.iload 4) 2 := ⟨by decide +kernel, rfl, rfl⟩
theorem d_Model_joins_39 : ob_dv ob_lc k_Model_joins 39 41 5 (.iload 5) 2 := ⟨by decide +kernel, rfl, rfl⟩
theorem d_Model_joins_37 : ob_dv (ob_sc k_Model_joins.2.2.2.1) k_Model_joins 37 39 5 (.istore 5) 2 := ⟨by decide +kernel, rfl, ⟨rfl, by decide +kernel⟩⟩
theorem d_Model_joins_33 : ob_dc k_Model_joins 33 (.invokestatic 437) 3 36 := ⟨by decide +kernel, rfl⟩
theorem d_Model_joins_31 : ob_dv ob_lc k_Model_joins 31 33 4 (.iload 4) 2 := ⟨by decide +kernel, rfl, rfl⟩
theorem d_Model_joins_30 : ob_dc k_Model_joins 30 (.iaload) 1 31 := ⟨by decide +kernel, rfl⟩
theorem d_Model_joins_29 : ob_dv ob_lc k_Model_joins 29 30 1 (.iload_n 1) 1 := ⟨by decide +kernel, rfl, rfl⟩
theorem d_Model_joins_26 : ob_dc k_Model_joins 26 (.getfield 149) 3 29 := ⟨by decide +kernel, rfl⟩
theorem d_Model_joins_25 : ob_dv ob_ac k_Model_joins 25 26 0 (.aload_n 0) 1 := ⟨by decide +kernel, rfl, rfl⟩
theorem d_Model_joins_24 : ob_dc k_Model_joins 24 (.aaload) 1 25 := ⟨by decide +kernel, rfl⟩
theorem d_Model_joins_23 : ob_dv ob_lc k_Model_joins 23 24 1 (.iload_n 1) 1 := ⟨by decide +kernel, rfl, rfl⟩
theorem d_Model_joins_20 : ob_dc k_Model_joins 20 (.getfield 141) 3 23 := ⟨by decide +kernel, rfl⟩
theorem d_Model_joins_19 : ob_dv ob_ac k_Model_joins 19 20 0 (.aload_n 0) 1 := ⟨by decide +kernel, rfl, rfl⟩
theorem d_Model_joins_18 : ob_dv ob_lc k_Model_joins 18 19 3 (.iload_n 3) 1 := ⟨by decide +kernel, rfl, rfl⟩
theorem d_Model_joins_17 : ob_dv ob_ac k_Model_joins 17 18 2 (.aload_n 2) 1 := ⟨by decide +kernel, rfl, rfl⟩
theorem d_Model_joins_15 : ob_dk k_Model_joins 15 16 (0 : Int32) (.iconst 0) 1 := ⟨by decide +kernel, rfl, show Int32.ofInt 0 = (0 : Int32) by decide +kernel⟩
theorem d_Model_joins_16 : ob_dc k_Model_joins 16 (.ireturn) 1 17 := ⟨by decide +kernel, rfl⟩
theorem d_Model_joins_12 : ob_db k_Model_joins 12 (.if_icmp .le 5) 5 15 17 := ⟨by decide +kernel, rfl, by decide⟩
theorem d_Model_joins_8 : ob_dc k_Model_joins 8 (.iadd) 1 9 := ⟨by decide +kernel, rfl⟩
theorem d_Model_joins_6 : ob_dv ob_lc k_Model_joins 6 8 4 (.iload 4) 2 := ⟨by decide +kernel, rfl, rfl⟩
theorem d_Model_joins_5 : ob_dc k_Model_joins 5 (.iaload) 1 6 := ⟨by decide +kernel, rfl⟩
theorem d_Model_joins_4 : ob_dv ob_lc k_Model_joins 4 5 1 (.iload_n 1) 1 := ⟨by decide +kernel, rfl, rfl⟩
theorem d_Model_joins_1 : ob_dc k_Model_joins 1 (.getfield 149) 3 4 := ⟨by decide +kernel, rfl⟩
theorem d_Model_joins_0 : ob_dv ob_ac k_Model_joins 0 1 0 (.aload_n 0) 1 := ⟨by decide +kernel, rfl, rfl⟩
def f_Model_joins_L39 (S : ob_S) : Nat → Nat → Int32 → Int32 → Int32 → ob_D → Option (Int32 × ob_D)
  | 0, _, _, _, _, _ => none
  | n + 1, v0, v1, v4, v5, D => (if v4 ≤ v5 then if D.2.1 v0 86 ≠ 0 then if ob_in v1 (S.2.1 (D.2.1 v0 86)) then if ob_in v1 (S.2.1 (D.2.1 v0 86)) then ob_lt (ob_pI D (D.2.1 v0 86) v1.toNatClampNeg ((D.1 (D.2.1 v0 86) v1.toNatClampNeg) + v4)) fun D18 => some ((1 : Int32), D18) else none else none else none else if D.2.1 v0 85 ≠ 0 then if ob_in v1 (S.2.1 (D.2.1 v0 85)) then if D.2.1 (D.2.1 v0 85) v1.toNatClampNeg ≠ 0 then if D.2.1 v0 86 ≠ 0 then if ob_in v1 (S.2.1 (D.2.1 v0 86)) then (if v5 = 0 then if ob_in ((D.1 (D.2.1 v0 86) v1.toNatClampNeg) + v5) (S.2.1 (D.2.1 (D.2.1 v0 85) v1.toNatClampNeg)) then ob_lt (ob_pI D (D.2.1 (D.2.1 v0 85) v1.toNatClampNeg) ((D.1 (D.2.1 v0 86) v1.toNatClampNeg) + v5).toNatClampNeg ((1 : Int32) &&& 1)) fun D30 => f_Model_joins_L39 S n v0 v1 v4 (v5 + (1 : Int32)) D30 else none else if ob_in ((D.1 (D.2.1 v0 86) v1.toNatClampNeg) + v5) (S.2.1 (D.2.1 (D.2.1 v0 85) v1.toNatClampNeg)) then ob_lt (ob_pI D (D.2.1 (D.2.1 v0 85) v1.toNatClampNeg) ((D.1 (D.2.1 v0 86) v1.toNatClampNeg) + v5).toNatClampNeg ((0 : Int32) &&& 1)) fun D28 => f_Model_joins_L39 S n v0 v1 v4 (v5 + (1 : Int32)) D28 else none) else none else none else none else none else none)
theorem v_Model_joins_L39 {l : Launch} {E : ob_E} {S : ob_S} {r : Int32} {D' : ob_D} : ∀ (n : Nat), ∀ (v0 : Nat) (v1 : Int32) (v4 : Int32) (v5 : Int32) (D : ob_D), S.1 v0 = 13 → f_Model_joins_L39 S n v0 v1 v4 v5 D = some (r, D') → ob_V l E k_Model_joins 39 [(0, .ref v0), (1, .int v1), (4, .int v4), (5, .int v5)] [] S D (some (.int r)) S D' := by
  intro n
  induction n with
  | zero =>
    intro v0 v1 v4 v5 D hp_v0 h
    have h : none = some (r, D') := h
    cases h
  | succ n ih =>
    intro v0 v1 v4 v5 D hp_v0 h
    rw [f_Model_joins_L39] at h
    refine ob_iload d_Model_joins_39 rfl ?_
    refine ob_iload d_Model_joins_41 rfl ?_
    refine ob_icmp_ge d_Model_joins_43 (fun hc => ?_) (fun hc => ?_)
    · replace h := ob_ift hc h
      refine ob_aload d_Model_joins_78 rfl ?_
      obtain ⟨hg15, h⟩ := ob_gd h
      refine ob_getR d_Model_joins_79 F_12_86 l_Model_149 hp_v0 hg15 (fun hk14 => ?_)
      refine ob_iload d_Model_joins_82 rfl ?_
      refine ob_dup2 d_Model_joins_83 rfl rfl ?_
      obtain ⟨hg16, h⟩ := ob_gd h
      refine ob_iald d_Model_joins_84 hk14 hg16 ?_
      refine ob_iload d_Model_joins_85 rfl ?_
      refine ob_iadd d_Model_joins_87 ?_
      obtain ⟨hg17, h⟩ := ob_gd h
      replace h := ob_lt_e h
      refine ob_iast d_Model_joins_88 hk14 hg17 ?_
      refine ob_push d_Model_joins_89 ?_
      exact ob_ie h (ob_iret d_Model_joins_90 rfl rfl)
    · replace h := ob_iff hc h
      refine ob_aload d_Model_joins_46 rfl ?_
      obtain ⟨hg20, h⟩ := ob_gd h
      refine ob_getR d_Model_joins_47 F_12_85 l_Model_146 hp_v0 hg20 (fun hk19 => ?_)
      refine ob_iload d_Model_joins_50 rfl ?_
      obtain ⟨hg21, h⟩ := ob_gd h
      obtain ⟨hz22, h⟩ := ob_gd h
      refine ob_aald (j := 6) (t := 21) d_Model_joins_51 hk19 (by decide) rfl rfl rfl hg21 hz22 rfl (fun hk23 => ?_)
      refine ob_aload d_Model_joins_52 rfl ?_
      obtain ⟨hg25, h⟩ := ob_gd h
      refine ob_getR d_Model_joins_53 F_12_86 l_Model_149 hp_v0 hg25 (fun hk24 => ?_)
      refine ob_iload d_Model_joins_56 rfl ?_
      obtain ⟨hg26, h⟩ := ob_gd h
      refine ob_iald d_Model_joins_57 hk24 hg26 ?_
      refine ob_iload d_Model_joins_58 rfl ?_
      refine ob_iadd d_Model_joins_60 ?_
      refine ob_iload d_Model_joins_61 rfl ?_
      refine ob_if_ne d_Model_joins_63 (fun hc => ?_) (fun hc => ?_)
      · replace h := ob_iff hc h
        refine ob_push d_Model_joins_70 ?_
        obtain ⟨hg27, h⟩ := ob_gd h
        replace h := ob_lt_e h
        refine ob_zast d_Model_joins_71 hk23 hg27 ?_
        refine ob_iinc (lo2 := [(0, .ref v0), (1, .int v1), (4, .int v4), (5, .int (v5 + (1 : Int32)))]) d_Model_joins_72 rfl rfl ?_
        refine ob_goto d_Model_joins_75 ?_
        exact ih v0 v1 v4 (v5 + (1 : Int32)) (ob_pI D (D.2.1 (D.2.1 v0 85) v1.toNatClampNeg) ((D.1 (D.2.1 v0 86) v1.toNatClampNeg) + v5).toNatClampNeg ((0 : Int32) &&& 1)) hp_v0 h
      · replace h := ob_ift hc h
        refine ob_push d_Model_joins_66 ?_
        refine ob_goto d_Model_joins_67 ?_
        obtain ⟨hg29, h⟩ := ob_gd h
        replace h := ob_lt_e h
        refine ob_zast d_Model_joins_71 hk23 hg29 ?_
        refine ob_iinc (lo2 := [(0, .ref v0), (1, .int v1), (4, .int v4), (5, .int (v5 + (1 : Int32)))]) d_Model_joins_72 rfl rfl ?_
        refine ob_goto d_Model_joins_75 ?_
        exact ih v0 v1 v4 (v5 + (1 : Int32)) (ob_pI D (D.2.1 (D.2.1 v0 85) v1.toNatClampNeg) ((D.1 (D.2.1 v0 86) v1.toNatClampNeg) + v5).toNatClampNeg ((1 : Int32) &&& 1)) hp_v0 h
def f_Model_joins (S : ob_S) (v0 : Nat) (v1 : Int32) (v2 : Nat) (v3 : Int32) (v4 : Int32) (D : ob_D) : Option (Int32 × ob_D) :=
  if D.2.1 v0 86 ≠ 0 then if ob_in v1 (S.2.1 (D.2.1 v0 86)) then (if ((D.1 (D.2.1 v0 86) v1.toNatClampNeg) + v4) ≤ (4096 : Int32) then if D.2.1 v0 84 ≠ 0 then if ob_in v1 (S.2.1 (D.2.1 v0 84)) then if D.2.1 (D.2.1 v0 84) v1.toNatClampNeg ≠ 0 then if D.2.1 v0 86 ≠ 0 then if ob_in v1 (S.2.1 (D.2.1 v0 86)) then if ob_cg v3 (D.1 (D.2.1 v0 86) v1.toNatClampNeg) v4 (S.2.1 v2) (S.2.1 (D.2.1 (D.2.1 v0 84) v1.toNatClampNeg)) then ob_lt (ob_cp D v2 (D.2.1 (D.2.1 v0 84) v1.toNatClampNeg) v3.toNatClampNeg (D.1 (D.2.1 v0 86) v1.toNatClampNeg).toNatClampNeg v4.toNatClampNeg) fun D13 => f_Model_joins_L39 S ob_FU v0 v1 v4 (0 : Int32) D13 else none else none else none else none else none else none else some ((0 : Int32), D)) else none else none
theorem c_Model_joins {l : Launch} {E : ob_E} {S : ob_S} {D : ob_D} {v0 : Nat} {v1 : Int32} {v2 : Nat} {v3 : Int32} {v4 : Int32} {r : Int32} {D' : ob_D} (hp_v0 : S.1 v0 = 13) (hp_v2 : S.1 v2 = 21) (h : f_Model_joins S v0 v1 v2 v3 v4 D = some (r, D')) : ob_M l E k_Model_joins [.ref v0, .int v1, .ref v2, .int v3, .int v4] S D (some (.int r)) S D' := by
  refine ob_ofV (lo := [(0, .ref v0), (1, .int v1), (2, .ref v2), (3, .int v3), (4, .int v4)]) (by decide) rfl (Nat.le_of_ble_eq_true rfl) rfl (Nat.le_refl _) (Nat.le_refl _) ?_
  rw [f_Model_joins] at h
  refine ob_aload d_Model_joins_0 rfl ?_
  obtain ⟨hg2, h⟩ := ob_gd h
  refine ob_getR d_Model_joins_1 F_12_86 l_Model_149 hp_v0 hg2 (fun hk1 => ?_)
  refine ob_iload d_Model_joins_4 rfl ?_
  obtain ⟨hg3, h⟩ := ob_gd h
  refine ob_iald d_Model_joins_5 hk1 hg3 ?_
  refine ob_iload d_Model_joins_6 rfl ?_
  refine ob_iadd d_Model_joins_8 ?_
  refine ob_push d_Model_joins_9 ?_
  refine ob_icmp_le d_Model_joins_12 (fun hc => ?_) (fun hc => ?_)
  · replace h := ob_ift hc h
    refine ob_aload d_Model_joins_17 rfl ?_
    refine ob_iload d_Model_joins_18 rfl ?_
    refine ob_aload d_Model_joins_19 rfl ?_
    obtain ⟨hg5, h⟩ := ob_gd h
    refine ob_getR d_Model_joins_20 F_12_84 l_Model_141 hp_v0 hg5 (fun hk4 => ?_)
    refine ob_iload d_Model_joins_23 rfl ?_
    obtain ⟨hg6, h⟩ := ob_gd h
    obtain ⟨hz7, h⟩ := ob_gd h
    refine ob_aald (j := 5) (t := 20) d_Model_joins_24 hk4 (by decide) rfl rfl rfl hg6 hz7 rfl (fun hk8 => ?_)
    refine ob_aload d_Model_joins_25 rfl ?_
    obtain ⟨hg10, h⟩ := ob_gd h
    refine ob_getR d_Model_joins_26 F_12_86 l_Model_149 hp_v0 hg10 (fun hk9 => ?_)
    refine ob_iload d_Model_joins_29 rfl ?_
    obtain ⟨hg11, h⟩ := ob_gd h
    refine ob_iald d_Model_joins_30 hk9 hg11 ?_
    refine ob_iload d_Model_joins_31 rfl ?_
    obtain ⟨hg12, h⟩ := ob_gd h
    replace h := ob_lt_e h
    refine ob_copy (i := 1) d_Model_joins_33 w_1485 w_1487 w_1486 w_16 hp_v2 hk8 (by decide) rfl (Or.inr (Or.inl ⟨rfl, rfl⟩)) hg12 (by decide) (Nat.le_of_ble_eq_true rfl) ?_
    refine ob_push d_Model_joins_36 ?_
    refine ob_istore (lo2 := [(0, .ref v0), (1, .int v1), (2, .ref v2), (3, .int v3), (4, .int v4), (5, .int (0 : Int32))]) d_Model_joins_37 rfl ?_
    refine ob_sub (lo2 := [(0, .ref v0), (1, .int v1), (4, .int v4), (5, .int (0 : Int32))]) [0, 1, 4, 5] rfl ?_
    exact v_Model_joins_L39 ob_FU v0 v1 v4 (0 : Int32) (ob_cp D v2 (D.2.1 (D.2.1 v0 84) v1.toNatClampNeg) v3.toNatClampNeg (D.1 (D.2.1 v0 86) v1.toNatClampNeg).toNatClampNeg v4.toNatClampNeg) hp_v0 h
  · replace h := ob_iff hc h
    refine ob_push d_Model_joins_15 ?_
    exact ob_ie h (ob_iret d_Model_joins_16 rfl rfl)
-- OrbitBoxModel.dropOldest()V
theorem d_Model_dropOldest_4 : ob_dk k_Model_dropOldest 4 5 (0 : Int32) (.iconst 0) 1 := ⟨by decide +kernel, rfl, show Int32.ofInt 0 = (0 : Int32) by decide +kernel⟩
theorem d_Model_dropOldest_22 : ob_dk k_Model_dropOldest 22 23 (1 : Int32) (.iconst 1) 1 := ⟨by decide +kernel, rfl, show Int32.ofInt 1 = (1 : Int32) by decide +kernel⟩
theorem d_Model_dropOldest_36 : ob_dk k_Model_dropOldest 36 37 (0 : Int32) (.iconst 0) 1 := ⟨by decide +kernel, rfl, show Int32.ofInt 0 = (0 : Int32) by decide +kernel⟩
theorem d_Model_dropOldest_48 : ob_dk k_Model_dropOldest 48 49 (1 : Int32) (.iconst 1) 1 := ⟨by decide +kernel, rfl, show Int32.ofInt 1 = (1 : Int32) by decide +kernel⟩
theorem d_Model_dropOldest_53 : ob_dk k_Model_dropOldest 53 54 (0 : Int32) (.iconst 0) 1 := ⟨by decide +kernel, rfl, show Int32.ofInt 0 = (0 : Int32) by decide +kernel⟩
theorem d_Model_dropOldest_65 : ob_dk k_Model_dropOldest 65 66 (1 : Int32) (.iconst 1) 1 := ⟨by decide +kernel, rfl, show Int32.ofInt 1 = (1 : Int32) by decide +kernel⟩
theorem d_Model_dropOldest_70 : ob_dk k_Model_dropOldest 70 71 (0 : Int32) (.iconst 0) 1 := ⟨by decide +kernel, rfl, show Int32.ofInt 0 = (0 : Int32) by decide +kernel⟩
theorem d_Model_dropOldest_95 : ob_dc k_Model_dropOldest 95 (.return_) 1 96 := ⟨by decide +kernel, rfl⟩
theorem d_Model_dropOldest_90 : ob_dk k_Model_dropOldest 90 91 (1 : Int32) (.iconst 1) 1 := ⟨by decide +kernel, rfl, show Int32.ofInt 1 = (1 : Int32) by decide +kernel⟩
theorem d_Model_dropOldest_92 : ob_dc k_Model_dropOldest 92 (.putfield 446) 3 95 := ⟨by decide +kernel, rfl⟩
theorem d_Model_dropOldest_91 : ob_dc k_Model_dropOldest 91 (.isub) 1 92 := ⟨by decide +kernel, rfl⟩
theorem d_Model_dropOldest_87 : ob_dc k_Model_dropOldest 87 (.getfield 446) 3 90 := ⟨by decide +kernel, rfl⟩
theorem d_Model_dropOldest_86 : ob_dc k_Model_dropOldest 86 (.dup) 1 87 := ⟨by decide +kernel, rfl⟩
theorem d_Model_dropOldest_85 : ob_dv ob_ac k_Model_dropOldest 85 86 0 (.aload_n 0) 1 := ⟨by decide +kernel, rfl, rfl⟩
theorem d_Model_dropOldest_82 : ob_db k_Model_dropOldest 82 (.ifCond .le 13) 13 85 95 := ⟨by decide +kernel, rfl, by decide⟩
theorem d_Model_dropOldest_79 : ob_dc k_Model_dropOldest 79 (.getfield 446) 3 82 := ⟨by decide +kernel, rfl⟩
theorem d_Model_dropOldest_78 : ob_dv ob_ac k_Model_dropOldest 78 79 0 (.aload_n 0) 1 := ⟨by decide +kernel, rfl, rfl⟩
theorem d_Model_dropOldest_75 : ob_dc k_Model_dropOldest 75 (.invokestatic 437) 3 78 := ⟨by decide +kernel, rfl⟩
theorem d_Model_dropOldest_72 : ob_dc k_Model_dropOldest 72 (.getfield 443) 3 75 := ⟨by decide +kernel, rfl⟩
theorem d_Model_dropOldest_71 : ob_dv ob_ac k_Model_dropOldest 71 72 0 (.aload_n 0) 1 := ⟨by decide +kernel, rfl, rfl⟩
theorem d_Model_dropOldest_67 : ob_dc k_Model_dropOldest 67 (.getfield 136) 3 70 := ⟨by decide +kernel, rfl⟩
theorem d_Model_dropOldest_66 : ob_dv ob_ac k_Model_dropOldest 66 67 0 (.aload_n 0) 1 := ⟨by decide +kernel, rfl, rfl⟩
theorem d_Model_dropOldest_62 : ob_dc k_Model_dropOldest 62 (.getfield 136) 3 65 := ⟨by decide +kernel, rfl⟩
theorem d_Model_dropOldest_61 : ob_dv ob_ac k_Model_dropOldest 61 62 0 (.aload_n 0) 1 := ⟨by decide +kernel, rfl, rfl⟩
theorem d_Model_dropOldest_58 : ob_dc k_Model_dropOldest 58 (.invokestatic 437) 3 61 := ⟨by decide +kernel, rfl⟩
theorem d_Model_dropOldest_55 : ob_dc k_Model_dropOldest 55 (.getfield 443) 3 58 := ⟨by decide +kernel, rfl⟩
theorem d_Model_dropOldest_54 : ob_dv ob_ac k_Model_dropOldest 54 55 0 (.aload_n 0) 1 := ⟨by decide +kernel, rfl, rfl⟩
theorem d_Model_dropOldest_50 : ob_dc k_Model_dropOldest 50 (.getfield 133) 3 53 := ⟨by decide +kernel, rfl⟩
theorem d_Model_dropOldest_49 : ob_dv ob_ac k_Model_dropOldest 49 50 0 (.aload_n 0) 1 := ⟨by decide +kernel, rfl, rfl⟩
theorem d_Model_dropOldest_45 : ob_dc k_Model_dropOldest 45 (.getfield 133) 3 48 := ⟨by decide +kernel, rfl⟩
theorem d_Model_dropOldest_44 : ob_dv ob_ac k_Model_dropOldest 44 45 0 (.aload_n 0) 1 := ⟨by decide +kernel, rfl, rfl⟩
theorem d_Model_dropOldest_41 : ob_dc k_Model_dropOldest 41 (.invokestatic 437) 3 44 := ⟨by decide +kernel, rfl⟩
theorem d_Model_dropOldest_38 : ob_dc k_Model_dropOldest 38 (.getfield 431) 3 41 := ⟨by decide +kernel, rfl⟩
theorem d_Model_dropOldest_37 : ob_dv ob_ac k_Model_dropOldest 37 38 0 (.aload_n 0) 1 := ⟨by decide +kernel, rfl, rfl⟩
theorem d_Model_dropOldest_33 : ob_dc k_Model_dropOldest 33 (.getfield 130) 3 36 := ⟨by decide +kernel, rfl⟩
theorem d_Model_dropOldest_32 : ob_dv ob_ac k_Model_dropOldest 32 33 0 (.aload_n 0) 1 := ⟨by decide +kernel, rfl, rfl⟩
theorem d_Model_dropOldest_31 : ob_dv ob_lc k_Model_dropOldest 31 32 1 (.iload_n 1) 1 := ⟨by decide +kernel, rfl, rfl⟩
theorem d_Model_dropOldest_28 : ob_dc k_Model_dropOldest 28 (.getfield 130) 3 31 := ⟨by decide +kernel, rfl⟩
theorem d_Model_dropOldest_27 : ob_dv ob_ac k_Model_dropOldest 27 28 0 (.aload_n 0) 1 := ⟨by decide +kernel, rfl, rfl⟩
theorem d_Model_dropOldest_24 : ob_dc k_Model_dropOldest 24 (.putfield 443) 3 27 := ⟨by decide +kernel, rfl⟩
theorem d_Model_dropOldest_23 : ob_dc k_Model_dropOldest 23 (.isub) 1 24 := ⟨by decide +kernel, rfl⟩
theorem d_Model_dropOldest_19 : ob_dc k_Model_dropOldest 19 (.getfield 443) 3 22 := ⟨by decide +kernel, rfl⟩
theorem d_Model_dropOldest_18 : ob_dc k_Model_dropOldest 18 (.dup) 1 19 := ⟨by decide +kernel, rfl⟩
theorem d_Model_dropOldest_17 : ob_dv ob_ac k_Model_dropOldest 17 18 0 (.aload_n 0) 1 := ⟨by decide +kernel, rfl, rfl⟩
theorem d_Model_dropOldest_14 : ob_dc k_Model_dropOldest 14 (.putfield 431) 3 17 := ⟨by decide +kernel, rfl⟩
theorem d_Model_dropOldest_13 : ob_dc k_Model_dropOldest 13 (.isub) 1 14 := ⟨by decide +kernel, rfl⟩
theorem d_Model_dropOldest_12 : ob_dv ob_lc k_Model_dropOldest 12 13 1 (.iload_n 1) 1 := ⟨by decide +kernel, rfl, rfl⟩
theorem d_Model_dropOldest_9 : ob_dc k_Model_dropOldest 9 (.getfield 431) 3 12 := ⟨by decide +kernel, rfl⟩
theorem d_Model_dropOldest_8 : ob_dc k_Model_dropOldest 8 (.dup) 1 9 := ⟨by decide +kernel, rfl⟩
theorem d_Model_dropOldest_7 : ob_dv ob_ac k_Model_dropOldest 7 8 0 (.aload_n 0) 1 := ⟨by decide +kernel, rfl, rfl⟩
theorem d_Model_dropOldest_6 : ob_dv (ob_sc k_Model_dropOldest.2.2.2.1) k_Model_dropOldest 6 7 1 (.istore_n 1) 1 := ⟨by decide +kernel, rfl, ⟨rfl, by decide +kernel⟩⟩
theorem d_Model_dropOldest_5 : ob_dc k_Model_dropOldest 5 (.iaload) 1 6 := ⟨by decide +kernel, rfl⟩
theorem d_Model_dropOldest_1 : ob_dc k_Model_dropOldest 1 (.getfield 133) 3 4 := ⟨by decide +kernel, rfl⟩
theorem d_Model_dropOldest_0 : ob_dv ob_ac k_Model_dropOldest 0 1 0 (.aload_n 0) 1 := ⟨by decide +kernel, rfl, rfl⟩
def f_Model_dropOldest (S : ob_S) (v0 : Nat) (D : ob_D) : Option (ob_D) :=
  if D.2.1 v0 76 ≠ 0 then if ob_in (0 : Int32) (S.2.1 (D.2.1 v0 76)) then ob_lt (ob_pI D v0 79 ((D.1 v0 79) - (D.1 (D.2.1 v0 76) (0 : Int32).toNatClampNeg))) fun D4 => ob_lt (ob_pI D4 v0 78 ((D4.1 v0 78) - (1 : Int32))) fun D5 => if D5.2.1 v0 75 ≠ 0 then if D5.2.1 v0 75 ≠ 0 then if ob_cg (D.1 (D.2.1 v0 76) (0 : Int32).toNatClampNeg) (0 : Int32) (D5.1 v0 79) (S.2.1 (D5.2.1 v0 75)) (S.2.1 (D5.2.1 v0 75)) then ob_lt (ob_cp D5 (D5.2.1 v0 75) (D5.2.1 v0 75) (D.1 (D.2.1 v0 76) (0 : Int32).toNatClampNeg).toNatClampNeg (0 : Int32).toNatClampNeg (D5.1 v0 79).toNatClampNeg) fun D11 => if D11.2.1 v0 76 ≠ 0 then if D11.2.1 v0 76 ≠ 0 then if ob_cg (1 : Int32) (0 : Int32) (D11.1 v0 78) (S.2.1 (D11.2.1 v0 76)) (S.2.1 (D11.2.1 v0 76)) then ob_lt (ob_cp D11 (D11.2.1 v0 76) (D11.2.1 v0 76) (1 : Int32).toNatClampNeg (0 : Int32).toNatClampNeg (D11.1 v0 78).toNatClampNeg) fun D17 => if D17.2.1 v0 77 ≠ 0 then if D17.2.1 v0 77 ≠ 0 then if ob_cg (1 : Int32) (0 : Int32) (D17.1 v0 78) (S.2.1 (D17.2.1 v0 77)) (S.2.1 (D17.2.1 v0 77)) then ob_lt (ob_cp D17 (D17.2.1 v0 77) (D17.2.1 v0 77) (1 : Int32).toNatClampNeg (0 : Int32).toNatClampNeg (D17.1 v0 78).toNatClampNeg) fun D23 => (if (D23.1 v0 83) ≤ 0 then some D23 else ob_lt (ob_pI D23 v0 83 ((D23.1 v0 83) - (1 : Int32))) fun D24 => some D24) else none else none else none else none else none else none else none else none else none else none else none
theorem c_Model_dropOldest {l : Launch} {E : ob_E} {S : ob_S} {D : ob_D} {v0 : Nat} {D' : ob_D} (hp_v0 : S.1 v0 = 13) (h : f_Model_dropOldest S v0 D = some D') : ob_M l E k_Model_dropOldest [.ref v0] S D none S D' := by
  refine ob_ofV (lo := [(0, .ref v0)]) (by decide) rfl (Nat.le_of_ble_eq_true rfl) rfl (Nat.le_refl _) (Nat.le_refl _) ?_
  rw [f_Model_dropOldest] at h
  refine ob_aload d_Model_dropOldest_0 rfl ?_
  obtain ⟨hg2, h⟩ := ob_gd h
  refine ob_getR d_Model_dropOldest_1 F_12_76 l_Model_133 hp_v0 hg2 (fun hk1 => ?_)
  refine ob_push d_Model_dropOldest_4 ?_
  obtain ⟨hg3, h⟩ := ob_gd h
  refine ob_iald d_Model_dropOldest_5 hk1 hg3 ?_
  refine ob_istore (lo2 := [(0, .ref v0), (1, .int (D.1 (D.2.1 v0 76) (0 : Int32).toNatClampNeg))]) d_Model_dropOldest_6 rfl ?_
  refine ob_aload d_Model_dropOldest_7 rfl ?_
  refine ob_dup d_Model_dropOldest_8 rfl ?_
  refine ob_getI d_Model_dropOldest_9 F_12_79 l_Model_431 hp_v0 ?_
  refine ob_iload d_Model_dropOldest_12 rfl ?_
  refine ob_isub d_Model_dropOldest_13 ?_
  replace h := ob_lt_e h
  refine ob_putI d_Model_dropOldest_14 F_12_79 l_Model_431 hp_v0 ?_
  refine ob_aload d_Model_dropOldest_17 rfl ?_
  refine ob_dup d_Model_dropOldest_18 rfl ?_
  refine ob_getI d_Model_dropOldest_19 F_12_78 l_Model_443 hp_v0 ?_
  refine ob_push d_Model_dropOldest_22 ?_
  refine ob_isub d_Model_dropOldest_23 ?_
  replace h := ob_lt_e h
  refine ob_putI d_Model_dropOldest_24 F_12_78 l_Model_443 hp_v0 ?_
  refine ob_aload d_Model_dropOldest_27 rfl ?_
  obtain ⟨hg7, h⟩ := ob_gd h
  refine ob_getR d_Model_dropOldest_28 F_12_75 l_Model_130 hp_v0 hg7 (fun hk6 => ?_)
  refine ob_iload d_Model_dropOldest_31 rfl ?_
  refine ob_aload d_Model_dropOldest_32 rfl ?_
  obtain ⟨hg9, h⟩ := ob_gd h
  refine ob_getR d_Model_dropOldest_33 F_12_75 l_Model_130 hp_v0 hg9 (fun hk8 => ?_)
  refine ob_push d_Model_dropOldest_36 ?_
  refine ob_aload d_Model_dropOldest_37 rfl ?_
  refine ob_getI d_Model_dropOldest_38 F_12_79 l_Model_431 hp_v0 ?_
  obtain ⟨hg10, h⟩ := ob_gd h
  replace h := ob_lt_e h
  refine ob_copy (i := 1) d_Model_dropOldest_41 w_1485 w_1487 w_1486 w_16 hk6 hk8 (by decide) rfl (Or.inr (Or.inl ⟨rfl, rfl⟩)) hg10 (by decide) (Nat.le_of_ble_eq_true rfl) ?_
  refine ob_aload d_Model_dropOldest_44 rfl ?_
  obtain ⟨hg13, h⟩ := ob_gd h
  refine ob_getR d_Model_dropOldest_45 F_12_76 l_Model_133 hp_v0 hg13 (fun hk12 => ?_)
  refine ob_push d_Model_dropOldest_48 ?_
  refine ob_aload d_Model_dropOldest_49 rfl ?_
  obtain ⟨hg15, h⟩ := ob_gd h
  refine ob_getR d_Model_dropOldest_50 F_12_76 l_Model_133 hp_v0 hg15 (fun hk14 => ?_)
  refine ob_push d_Model_dropOldest_53 ?_
  refine ob_aload d_Model_dropOldest_54 rfl ?_
  refine ob_getI d_Model_dropOldest_55 F_12_78 l_Model_443 hp_v0 ?_
  obtain ⟨hg16, h⟩ := ob_gd h
  replace h := ob_lt_e h
  refine ob_copy (i := 0) d_Model_dropOldest_58 w_1485 w_1487 w_1486 w_16 hk12 hk14 (by decide) rfl (Or.inl ⟨rfl, rfl⟩) hg16 (by decide) (Nat.le_of_ble_eq_true rfl) ?_
  refine ob_aload d_Model_dropOldest_61 rfl ?_
  obtain ⟨hg19, h⟩ := ob_gd h
  refine ob_getR d_Model_dropOldest_62 F_12_77 l_Model_136 hp_v0 hg19 (fun hk18 => ?_)
  refine ob_push d_Model_dropOldest_65 ?_
  refine ob_aload d_Model_dropOldest_66 rfl ?_
  obtain ⟨hg21, h⟩ := ob_gd h
  refine ob_getR d_Model_dropOldest_67 F_12_77 l_Model_136 hp_v0 hg21 (fun hk20 => ?_)
  refine ob_push d_Model_dropOldest_70 ?_
  refine ob_aload d_Model_dropOldest_71 rfl ?_
  refine ob_getI d_Model_dropOldest_72 F_12_78 l_Model_443 hp_v0 ?_
  obtain ⟨hg22, h⟩ := ob_gd h
  replace h := ob_lt_e h
  refine ob_copy (i := 0) d_Model_dropOldest_75 w_1485 w_1487 w_1486 w_16 hk18 hk20 (by decide) rfl (Or.inl ⟨rfl, rfl⟩) hg22 (by decide) (Nat.le_of_ble_eq_true rfl) ?_
  refine ob_aload d_Model_dropOldest_78 rfl ?_
  refine ob_getI d_Model_dropOldest_79 F_12_83 l_Model_446 hp_v0 ?_
  refine ob_if_le d_Model_dropOldest_82 (fun hc => ?_) (fun hc => ?_)
  · replace h := ob_ift hc h
    exact ob_ve h (ob_vret d_Model_dropOldest_95 rfl)
  · replace h := ob_iff hc h
    refine ob_aload d_Model_dropOldest_85 rfl ?_
    refine ob_dup d_Model_dropOldest_86 rfl ?_
    refine ob_getI d_Model_dropOldest_87 F_12_83 l_Model_446 hp_v0 ?_
    refine ob_push d_Model_dropOldest_90 ?_
    refine ob_isub d_Model_dropOldest_91 ?_
    replace h := ob_lt_e h
    refine ob_putI d_Model_dropOldest_92 F_12_83 l_Model_446 hp_v0 ?_
    exact ob_ve h (ob_vret d_Model_dropOldest_95 rfl)
-- OrbitBoxModel.keep()V
theorem d_Model_keep_39 : ob_dk k_Model_keep 39 40 (0 : Int32) (.iconst 0) 1 := ⟨by decide +kernel, rfl, show Int32.ofInt 0 = (0 : Int32) by decide +kernel⟩
theorem d_Model_keep_91 : ob_dk k_Model_keep 91 92 (1 : Int32) (.iconst 1) 1 := ⟨by decide +kernel, rfl, show Int32.ofInt 1 = (1 : Int32) by decide +kernel⟩
theorem d_Model_keep_101 : ob_dc k_Model_keep 101 (.return_) 1 102 := ⟨by decide +kernel, rfl⟩
theorem d_Model_keep_100 : ob_dc k_Model_keep 100 (.iastore) 1 101 := ⟨by decide +kernel, rfl⟩
theorem d_Model_keep_97 : ob_dc k_Model_keep 97 (.getfield 372) 3 100 := ⟨by decide +kernel, rfl⟩
theorem d_Model_keep_96 : ob_dv ob_ac k_Model_keep 96 97 0 (.aload_n 0) 1 := ⟨by decide +kernel, rfl, rfl⟩
theorem d_Model_keep_93 : ob_dc k_Model_keep 93 (.putfield 443) 3 96 := ⟨by decide +kernel, rfl⟩
theorem d_Model_keep_92 : ob_dc k_Model_keep 92 (.iadd) 1 93 := ⟨by decide +kernel, rfl⟩
theorem d_Model_keep_90 : ob_dc k_Model_keep 90 (.dup_x1) 1 91 := ⟨by decide +kernel, rfl⟩
theorem d_Model_keep_87 : ob_dc k_Model_keep 87 (.getfield 443) 3 90 := ⟨by decide +kernel, rfl⟩
theorem d_Model_keep_86 : ob_dc k_Model_keep 86 (.dup) 1 87 := ⟨by decide +kernel, rfl⟩
theorem d_Model_keep_85 : ob_dv ob_ac k_Model_keep 85 86 0 (.aload_n 0) 1 := ⟨by decide +kernel, rfl, rfl⟩
theorem d_Model_keep_82 : ob_dc k_Model_keep 82 (.getfield 136) 3 85 := ⟨by decide +kernel, rfl⟩
theorem d_Model_keep_81 : ob_dv ob_ac k_Model_keep 81 82 0 (.aload_n 0) 1 := ⟨by decide +kernel, rfl, rfl⟩
theorem d_Model_keep_80 : ob_dc k_Model_keep 80 (.iastore) 1 81 := ⟨by decide +kernel, rfl⟩
theorem d_Model_keep_77 : ob_dc k_Model_keep 77 (.getfield 414) 3 80 := ⟨by decide +kernel, rfl⟩
theorem d_Model_keep_76 : ob_dv ob_ac k_Model_keep 76 77 0 (.aload_n 0) 1 := ⟨by decide +kernel, rfl, rfl⟩
theorem d_Model_keep_73 : ob_dc k_Model_keep 73 (.getfield 443) 3 76 := ⟨by decide +kernel, rfl⟩
theorem d_Model_keep_72 : ob_dv ob_ac k_Model_keep 72 73 0 (.aload_n 0) 1 := ⟨by decide +kernel, rfl, rfl⟩
theorem d_Model_keep_69 : ob_dc k_Model_keep 69 (.getfield 133) 3 72 := ⟨by decide +kernel, rfl⟩
theorem d_Model_keep_68 : ob_dv ob_ac k_Model_keep 68 69 0 (.aload_n 0) 1 := ⟨by decide +kernel, rfl, rfl⟩
theorem d_Model_keep_65 : ob_dc k_Model_keep 65 (.putfield 431) 3 68 := ⟨by decide +kernel, rfl⟩
theorem d_Model_keep_64 : ob_dc k_Model_keep 64 (.iadd) 1 65 := ⟨by decide +kernel, rfl⟩
theorem d_Model_keep_61 : ob_dc k_Model_keep 61 (.getfield 414) 3 64 := ⟨by decide +kernel, rfl⟩
theorem d_Model_keep_60 : ob_dv ob_ac k_Model_keep 60 61 0 (.aload_n 0) 1 := ⟨by decide +kernel, rfl, rfl⟩
theorem d_Model_keep_57 : ob_dc k_Model_keep 57 (.getfield 431) 3 60 := ⟨by decide +kernel, rfl⟩
theorem d_Model_keep_56 : ob_dc k_Model_keep 56 (.dup) 1 57 := ⟨by decide +kernel, rfl⟩
theorem d_Model_keep_55 : ob_dv ob_ac k_Model_keep 55 56 0 (.aload_n 0) 1 := ⟨by decide +kernel, rfl, rfl⟩
theorem d_Model_keep_52 : ob_dc k_Model_keep 52 (.invokestatic 437) 3 55 := ⟨by decide +kernel, rfl⟩
theorem d_Model_keep_49 : ob_dc k_Model_keep 49 (.getfield 414) 3 52 := ⟨by decide +kernel, rfl⟩
theorem d_Model_keep_48 : ob_dv ob_ac k_Model_keep 48 49 0 (.aload_n 0) 1 := ⟨by decide +kernel, rfl, rfl⟩
theorem d_Model_keep_45 : ob_dc k_Model_keep 45 (.getfield 431) 3 48 := ⟨by decide +kernel, rfl⟩
theorem d_Model_keep_44 : ob_dv ob_ac k_Model_keep 44 45 0 (.aload_n 0) 1 := ⟨by decide +kernel, rfl, rfl⟩
theorem d_Model_keep_41 : ob_dc k_Model_keep 41 (.getfield 130) 3 44 := ⟨by decide +kernel, rfl⟩
theorem d_Model_keep_40 : ob_dv ob_ac k_Model_keep 40 41 0 (.aload_n 0) 1 := ⟨by decide +kernel, rfl, rfl⟩
theorem d_Model_keep_36 : ob_dc k_Model_keep 36 (.getfield 121) 3 39 := ⟨by decide +kernel, rfl⟩
theorem d_Model_keep_35 : ob_dv ob_ac k_Model_keep 35 36 0 (.aload_n 0) 1 := ⟨by decide +kernel, rfl, rfl⟩
theorem d_Model_keep_32 : ob_db k_Model_keep 32 (.goto (-20)) (-20) 35 12 := ⟨by decide +kernel, rfl, by decide⟩
theorem d_Model_keep_29 : ob_dc k_Model_keep 29 (.invokevirtual 434) 3 32 := ⟨by decide +kernel, rfl⟩
theorem d_Model_keep_28 : ob_dv ob_ac k_Model_keep 28 29 0 (.aload_n 0) 1 := ⟨by decide +kernel, rfl, rfl⟩
theorem d_Model_keep_25 : ob_db k_Model_keep 25 (.if_icmp .le 10) 10 28 35 := ⟨by decide +kernel, rfl, by decide⟩
theorem d_Model_keep_22 : ob_dc k_Model_keep 22 (.getfield 174) 3 25 := ⟨by decide +kernel, rfl⟩
theorem d_Model_keep_21 : ob_dv ob_ac k_Model_keep 21 22 0 (.aload_n 0) 1 := ⟨by decide +kernel, rfl, rfl⟩
theorem d_Model_keep_20 : ob_dc k_Model_keep 20 (.iadd) 1 21 := ⟨by decide +kernel, rfl⟩
theorem d_Model_keep_17 : ob_dc k_Model_keep 17 (.getfield 414) 3 20 := ⟨by decide +kernel, rfl⟩
theorem d_Model_keep_16 : ob_dv ob_ac k_Model_keep 16 17 0 (.aload_n 0) 1 := ⟨by decide +kernel, rfl, rfl⟩
theorem d_Model_keep_13 : ob_dc k_Model_keep 13 (.getfield 431) 3 16 := ⟨by decide +kernel, rfl⟩
theorem d_Model_keep_12 : ob_dv ob_ac k_Model_keep 12 13 0 (.aload_n 0) 1 := ⟨by decide +kernel, rfl, rfl⟩
theorem d_Model_keep_11 : ob_dc k_Model_keep 11 (.return_) 1 12 := ⟨by decide +kernel, rfl⟩
theorem d_Model_keep_8 : ob_db k_Model_keep 8 (.if_icmp .le 4) 4 11 12 := ⟨by decide +kernel, rfl, by decide⟩
theorem d_Model_keep_5 : ob_dc k_Model_keep 5 (.getfield 174) 3 8 := ⟨by decide +kernel, rfl⟩
theorem d_Model_keep_4 : ob_dv ob_ac k_Model_keep 4 5 0 (.aload_n 0) 1 := ⟨by decide +kernel, rfl, rfl⟩
theorem d_Model_keep_1 : ob_dc k_Model_keep 1 (.getfield 414) 3 4 := ⟨by decide +kernel, rfl⟩
theorem d_Model_keep_0 : ob_dv ob_ac k_Model_keep 0 1 0 (.aload_n 0) 1 := ⟨by decide +kernel, rfl, rfl⟩
theorem c_Model_keep_434 : ob_vd k_Model_keep k_Model_dropOldest 434 0 12 := ⟨cw_Model_dropOldest, yd_Model_dropOldest, w_1492, w_1494, wp_69, w_14, ⟨_, _, rfl⟩, by decide, by decide⟩
def f_Model_keep_L12 (S : ob_S) : Nat → Nat → ob_D → Option (ob_D)
  | 0, _, _ => none
  | n + 1, v0, D => (if ((D.1 v0 79) + (D.1 v0 70)) ≤ (D.1 v0 4) then if D.2.1 v0 69 ≠ 0 then if D.2.1 v0 75 ≠ 0 then if ob_cg (0 : Int32) (D.1 v0 79) (D.1 v0 70) (S.2.1 (D.2.1 v0 69)) (S.2.1 (D.2.1 v0 75)) then ob_lt (ob_cp D (D.2.1 v0 69) (D.2.1 v0 75) (0 : Int32).toNatClampNeg (D.1 v0 79).toNatClampNeg (D.1 v0 70).toNatClampNeg) fun D6 => ob_lt (ob_pI D6 v0 79 ((D6.1 v0 79) + (D6.1 v0 70))) fun D7 => if D7.2.1 v0 76 ≠ 0 then if ob_in (D7.1 v0 78) (S.2.1 (D7.2.1 v0 76)) then ob_lt (ob_pI D7 (D7.2.1 v0 76) (D7.1 v0 78).toNatClampNeg (D7.1 v0 70)) fun D11 => if D11.2.1 v0 77 ≠ 0 then ob_lt (ob_pI D11 v0 78 ((D11.1 v0 78) + (1 : Int32))) fun D14 => if ob_in (D11.1 v0 78) (S.2.1 (D11.2.1 v0 77)) then ob_lt (ob_pI D14 (D11.2.1 v0 77) (D11.1 v0 78).toNatClampNeg (D14.1 v0 41)) fun D16 => some D16 else none else none else none else none else none else none else none else ob_bv (f_Model_dropOldest S v0 D) fun D17 => f_Model_keep_L12 S n v0 D17)
theorem v_Model_keep_L12 {l : Launch} {E : ob_E} {S : ob_S} {D' : ob_D} : ∀ (n : Nat), ∀ (v0 : Nat) (D : ob_D), S.1 v0 = 13 → f_Model_keep_L12 S n v0 D = some D' → ob_V l E k_Model_keep 12 [(0, .ref v0)] [] S D none S D' := by
  intro n
  induction n with
  | zero =>
    intro v0 D hp_v0 h
    have h : none = some D' := h
    cases h
  | succ n ih =>
    intro v0 D hp_v0 h
    rw [f_Model_keep_L12] at h
    refine ob_aload d_Model_keep_12 rfl ?_
    refine ob_getI d_Model_keep_13 F_12_79 l_Model_431 hp_v0 ?_
    refine ob_aload d_Model_keep_16 rfl ?_
    refine ob_getI d_Model_keep_17 F_12_70 l_Model_414 hp_v0 ?_
    refine ob_iadd d_Model_keep_20 ?_
    refine ob_aload d_Model_keep_21 rfl ?_
    refine ob_getI d_Model_keep_22 F_12_4 l_Model_174 hp_v0 ?_
    refine ob_icmp_le d_Model_keep_25 (fun hc => ?_) (fun hc => ?_)
    · replace h := ob_ift hc h
      refine ob_aload d_Model_keep_35 rfl ?_
      obtain ⟨hg2, h⟩ := ob_gd h
      refine ob_getR d_Model_keep_36 F_12_69 l_Model_121 hp_v0 hg2 (fun hk1 => ?_)
      refine ob_push d_Model_keep_39 ?_
      refine ob_aload d_Model_keep_40 rfl ?_
      obtain ⟨hg4, h⟩ := ob_gd h
      refine ob_getR d_Model_keep_41 F_12_75 l_Model_130 hp_v0 hg4 (fun hk3 => ?_)
      refine ob_aload d_Model_keep_44 rfl ?_
      refine ob_getI d_Model_keep_45 F_12_79 l_Model_431 hp_v0 ?_
      refine ob_aload d_Model_keep_48 rfl ?_
      refine ob_getI d_Model_keep_49 F_12_70 l_Model_414 hp_v0 ?_
      obtain ⟨hg5, h⟩ := ob_gd h
      replace h := ob_lt_e h
      refine ob_copy (i := 1) d_Model_keep_52 w_1485 w_1487 w_1486 w_16 hk1 hk3 (by decide) rfl (Or.inr (Or.inl ⟨rfl, rfl⟩)) hg5 (by decide) (Nat.le_of_ble_eq_true rfl) ?_
      refine ob_aload d_Model_keep_55 rfl ?_
      refine ob_dup d_Model_keep_56 rfl ?_
      refine ob_getI d_Model_keep_57 F_12_79 l_Model_431 hp_v0 ?_
      refine ob_aload d_Model_keep_60 rfl ?_
      refine ob_getI d_Model_keep_61 F_12_70 l_Model_414 hp_v0 ?_
      refine ob_iadd d_Model_keep_64 ?_
      replace h := ob_lt_e h
      refine ob_putI d_Model_keep_65 F_12_79 l_Model_431 hp_v0 ?_
      refine ob_aload d_Model_keep_68 rfl ?_
      obtain ⟨hg9, h⟩ := ob_gd h
      refine ob_getR d_Model_keep_69 F_12_76 l_Model_133 hp_v0 hg9 (fun hk8 => ?_)
      refine ob_aload d_Model_keep_72 rfl ?_
      refine ob_getI d_Model_keep_73 F_12_78 l_Model_443 hp_v0 ?_
      refine ob_aload d_Model_keep_76 rfl ?_
      refine ob_getI d_Model_keep_77 F_12_70 l_Model_414 hp_v0 ?_
      obtain ⟨hg10, h⟩ := ob_gd h
      replace h := ob_lt_e h
      refine ob_iast d_Model_keep_80 hk8 hg10 ?_
      refine ob_aload d_Model_keep_81 rfl ?_
      obtain ⟨hg13, h⟩ := ob_gd h
      refine ob_getR d_Model_keep_82 F_12_77 l_Model_136 hp_v0 hg13 (fun hk12 => ?_)
      refine ob_aload d_Model_keep_85 rfl ?_
      refine ob_dup d_Model_keep_86 rfl ?_
      refine ob_getI d_Model_keep_87 F_12_78 l_Model_443 hp_v0 ?_
      refine ob_dup_x1 d_Model_keep_90 rfl rfl ?_
      refine ob_push d_Model_keep_91 ?_
      refine ob_iadd d_Model_keep_92 ?_
      replace h := ob_lt_e h
      refine ob_putI d_Model_keep_93 F_12_78 l_Model_443 hp_v0 ?_
      refine ob_aload d_Model_keep_96 rfl ?_
      refine ob_getI d_Model_keep_97 F_12_41 l_Model_372 hp_v0 ?_
      obtain ⟨hg15, h⟩ := ob_gd h
      replace h := ob_lt_e h
      refine ob_iast d_Model_keep_100 hk12 hg15 ?_
      exact ob_ve h (ob_vret d_Model_keep_101 rfl)
    · replace h := ob_iff hc h
      refine ob_aload d_Model_keep_28 rfl ?_
      obtain ⟨D17, h18, h⟩ := ob_bv_e h
      refine ob_callVv (As := []) (rest := []) d_Model_keep_29 c_Model_keep_434 hp_v0 rfl rfl (Nat.le_of_ble_eq_true rfl) (c_Model_dropOldest hp_v0 h18) ⟨Nat.le_refl _, Nat.le_refl _⟩ ⟨Nat.le_refl _, Nat.le_refl _⟩ ?_
      refine ob_goto d_Model_keep_32 ?_
      exact ih v0 D17 hp_v0 h
def f_Model_keep (S : ob_S) (v0 : Nat) (D : ob_D) : Option (ob_D) :=
  (if (D.1 v0 70) ≤ (D.1 v0 4) then f_Model_keep_L12 S ob_FU v0 D else some D)
theorem c_Model_keep {l : Launch} {E : ob_E} {S : ob_S} {D : ob_D} {v0 : Nat} {D' : ob_D} (hp_v0 : S.1 v0 = 13) (h : f_Model_keep S v0 D = some D') : ob_M l E k_Model_keep [.ref v0] S D none S D' := by
  refine ob_ofV (lo := [(0, .ref v0)]) (by decide) rfl (Nat.le_of_ble_eq_true rfl) rfl (Nat.le_refl _) (Nat.le_refl _) ?_
  rw [f_Model_keep] at h
  refine ob_aload d_Model_keep_0 rfl ?_
  refine ob_getI d_Model_keep_1 F_12_70 l_Model_414 hp_v0 ?_
  refine ob_aload d_Model_keep_4 rfl ?_
  refine ob_getI d_Model_keep_5 F_12_4 l_Model_174 hp_v0 ?_
  refine ob_icmp_le d_Model_keep_8 (fun hc => ?_) (fun hc => ?_)
  · replace h := ob_ift hc h
    exact v_Model_keep_L12 ob_FU v0 D hp_v0 h
  · replace h := ob_iff hc h
    exact ob_ve h (ob_vret d_Model_keep_11 rfl)
-- OrbitBoxModel.made()V
theorem d_Model_made_4 : ob_dk k_Model_made 4 5 (2 : Int32) (.iconst 2) 1 := ⟨by decide +kernel, rfl, show Int32.ofInt 2 = (2 : Int32) by decide +kernel⟩
theorem d_Model_made_6 : ob_dk k_Model_made 6 8 (6 : Int32) (.bipush 6) 2 := ⟨by decide +kernel, rfl, show (Int8.ofInt 6).toInt32 = (6 : Int32) by decide +kernel⟩
theorem d_Model_made_9 : ob_dk k_Model_made 9 10 (1 : Int32) (.iconst 1) 1 := ⟨by decide +kernel, rfl, show Int32.ofInt 1 = (1 : Int32) by decide +kernel⟩
theorem d_Model_made_16 : ob_dk k_Model_made 16 17 (4 : Int32) (.iconst 4) 1 := ⟨by decide +kernel, rfl, show Int32.ofInt 4 = (4 : Int32) by decide +kernel⟩
theorem d_Model_made_18 : ob_dk k_Model_made 18 20 (8 : Int32) (.bipush 8) 2 := ⟨by decide +kernel, rfl, show (Int8.ofInt 8).toInt32 = (8 : Int32) by decide +kernel⟩
theorem d_Model_made_27 : ob_dk k_Model_made 27 28 (5 : Int32) (.iconst 5) 1 := ⟨by decide +kernel, rfl, show Int32.ofInt 5 = (5 : Int32) by decide +kernel⟩
theorem d_Model_made_36 : ob_dk k_Model_made 36 37 (0 : Int32) (.iconst 0) 1 := ⟨by decide +kernel, rfl, show Int32.ofInt 0 = (0 : Int32) by decide +kernel⟩
theorem d_Model_made_48 : ob_dk k_Model_made 48 49 (0 : Int32) (.iconst 0) 1 := ⟨by decide +kernel, rfl, show Int32.ofInt 0 = (0 : Int32) by decide +kernel⟩
theorem d_Model_made_53 : ob_dk k_Model_made 53 54 (0 : Int32) (.iconst 0) 1 := ⟨by decide +kernel, rfl, show Int32.ofInt 0 = (0 : Int32) by decide +kernel⟩
theorem d_Model_made_82 : ob_dk k_Model_made 82 84 (7 : Int32) (.bipush 7) 2 := ⟨by decide +kernel, rfl, show (Int8.ofInt 7).toInt32 = (7 : Int32) by decide +kernel⟩
theorem d_Model_made_93 : ob_dc k_Model_made 93 (.return_) 1 94 := ⟨by decide +kernel, rfl⟩
theorem d_Model_made_90 : ob_dc k_Model_made 90 (.invokevirtual 428) 3 93 := ⟨by decide +kernel, rfl⟩
theorem d_Model_made_89 : ob_dv ob_ac k_Model_made 89 90 0 (.aload_n 0) 1 := ⟨by decide +kernel, rfl, rfl⟩
theorem d_Model_made_86 : ob_db k_Model_made 86 (.ifCond .eq 7) 7 89 93 := ⟨by decide +kernel, rfl, by decide⟩
theorem d_Model_made_85 : ob_dc k_Model_made 85 (.baload) 1 86 := ⟨by decide +kernel, rfl⟩
theorem d_Model_made_84 : ob_dc k_Model_made 84 (.baload) 1 85 := ⟨by decide +kernel, rfl⟩
theorem d_Model_made_79 : ob_dc k_Model_made 79 (.getfield 121) 3 82 := ⟨by decide +kernel, rfl⟩
theorem d_Model_made_78 : ob_dv ob_ac k_Model_made 78 79 0 (.aload_n 0) 1 := ⟨by decide +kernel, rfl, rfl⟩
theorem d_Model_made_75 : ob_dc k_Model_made 75 (.getfield 127) 3 78 := ⟨by decide +kernel, rfl⟩
theorem d_Model_made_74 : ob_dv ob_ac k_Model_made 74 75 0 (.aload_n 0) 1 := ⟨by decide +kernel, rfl, rfl⟩
theorem d_Model_made_69 : ob_dk k_Model_made 69 70 (1 : Int32) (.iconst 1) 1 := ⟨by decide +kernel, rfl, show Int32.ofInt 1 = (1 : Int32) by decide +kernel⟩
theorem d_Model_made_71 : ob_dc k_Model_made 71 (.putfield 425) 3 74 := ⟨by decide +kernel, rfl⟩
theorem d_Model_made_70 : ob_dc k_Model_made 70 (.iadd) 1 71 := ⟨by decide +kernel, rfl⟩
theorem d_Model_made_66 : ob_dc k_Model_made 66 (.getfield 425) 3 69 := ⟨by decide +kernel, rfl⟩
theorem d_Model_made_65 : ob_dc k_Model_made 65 (.dup) 1 66 := ⟨by decide +kernel, rfl⟩
theorem d_Model_made_64 : ob_dv ob_ac k_Model_made 64 65 0 (.aload_n 0) 1 := ⟨by decide +kernel, rfl, rfl⟩
theorem d_Model_made_61 : ob_db k_Model_made 61 (.ifCond .ne 13) 13 64 74 := ⟨by decide +kernel, rfl, by decide⟩
theorem d_Model_made_58 : ob_dc k_Model_made 58 (.invokevirtual 421) 3 61 := ⟨by decide +kernel, rfl⟩
theorem d_Model_made_55 : ob_dc k_Model_made 55 (.getfield 414) 3 58 := ⟨by decide +kernel, rfl⟩
theorem d_Model_made_54 : ob_dv ob_ac k_Model_made 54 55 0 (.aload_n 0) 1 := ⟨by decide +kernel, rfl, rfl⟩
theorem d_Model_made_50 : ob_dc k_Model_made 50 (.getfield 121) 3 53 := ⟨by decide +kernel, rfl⟩
theorem d_Model_made_49 : ob_dv ob_ac k_Model_made 49 50 0 (.aload_n 0) 1 := ⟨by decide +kernel, rfl, rfl⟩
theorem d_Model_made_47 : ob_dv ob_ac k_Model_made 47 48 0 (.aload_n 0) 1 := ⟨by decide +kernel, rfl, rfl⟩
theorem d_Model_made_44 : ob_dc k_Model_made 44 (.invokevirtual 273) 3 47 := ⟨by decide +kernel, rfl⟩
theorem d_Model_made_41 : ob_dc k_Model_made 41 (.invokestatic 214) 3 44 := ⟨by decide +kernel, rfl⟩
theorem d_Model_made_38 : ob_dc k_Model_made 38 (.getfield 414) 3 41 := ⟨by decide +kernel, rfl⟩
theorem d_Model_made_37 : ob_dv ob_ac k_Model_made 37 38 0 (.aload_n 0) 1 := ⟨by decide +kernel, rfl, rfl⟩
theorem d_Model_made_33 : ob_dc k_Model_made 33 (.getfield 121) 3 36 := ⟨by decide +kernel, rfl⟩
theorem d_Model_made_32 : ob_dv ob_ac k_Model_made 32 33 0 (.aload_n 0) 1 := ⟨by decide +kernel, rfl, rfl⟩
theorem d_Model_made_31 : ob_dv ob_ac k_Model_made 31 32 0 (.aload_n 0) 1 := ⟨by decide +kernel, rfl, rfl⟩
theorem d_Model_made_30 : ob_dc k_Model_made 30 (.bastore) 1 31 := ⟨by decide +kernel, rfl⟩
theorem d_Model_made_29 : ob_dc k_Model_made 29 (.i2b) 1 30 := ⟨by decide +kernel, rfl⟩
theorem d_Model_made_28 : ob_dv ob_lc k_Model_made 28 29 1 (.iload_n 1) 1 := ⟨by decide +kernel, rfl, rfl⟩
theorem d_Model_made_24 : ob_dc k_Model_made 24 (.getfield 121) 3 27 := ⟨by decide +kernel, rfl⟩
theorem d_Model_made_23 : ob_dv ob_ac k_Model_made 23 24 0 (.aload_n 0) 1 := ⟨by decide +kernel, rfl, rfl⟩
theorem d_Model_made_22 : ob_dc k_Model_made 22 (.bastore) 1 23 := ⟨by decide +kernel, rfl⟩
theorem d_Model_made_21 : ob_dc k_Model_made 21 (.i2b) 1 22 := ⟨by decide +kernel, rfl⟩
theorem d_Model_made_20 : ob_dc k_Model_made 20 (.ishr) 1 21 := ⟨by decide +kernel, rfl⟩
theorem d_Model_made_17 : ob_dv ob_lc k_Model_made 17 18 1 (.iload_n 1) 1 := ⟨by decide +kernel, rfl, rfl⟩
theorem d_Model_made_13 : ob_dc k_Model_made 13 (.getfield 121) 3 16 := ⟨by decide +kernel, rfl⟩
theorem d_Model_made_12 : ob_dv ob_ac k_Model_made 12 13 0 (.aload_n 0) 1 := ⟨by decide +kernel, rfl, rfl⟩
theorem d_Model_made_11 : ob_dv (ob_sc k_Model_made.2.2.2.1) k_Model_made 11 12 1 (.istore_n 1) 1 := ⟨by decide +kernel, rfl, ⟨rfl, by decide +kernel⟩⟩
theorem d_Model_made_10 : ob_dc k_Model_made 10 (.isub) 1 11 := ⟨by decide +kernel, rfl⟩
theorem d_Model_made_8 : ob_dc k_Model_made 8 (.isub) 1 9 := ⟨by decide +kernel, rfl⟩
theorem d_Model_made_5 : ob_dc k_Model_made 5 (.iadd) 1 6 := ⟨by decide +kernel, rfl⟩
theorem d_Model_made_1 : ob_dc k_Model_made 1 (.getfield 414) 3 4 := ⟨by decide +kernel, rfl⟩
theorem d_Model_made_0 : ob_dv ob_ac k_Model_made 0 1 0 (.aload_n 0) 1 := ⟨by decide +kernel, rfl, rfl⟩
theorem c_Model_made_428 : ob_vd k_Model_made k_Model_keep 428 0 12 := ⟨cw_Model_keep, yd_Model_keep, w_1488, w_1490, wp_68, w_14, ⟨_, _, rfl⟩, by decide, by decide⟩
theorem c_Model_made_421 : ob_vd k_Model_made k_Model_joins 421 4 12 := ⟨cw_Model_joins, yd_Model_joins, w_1481, w_1483, wp_67, w_14, ⟨_, _, rfl⟩, by decide, by decide⟩
theorem c_Model_made_273 : ob_vd k_Model_made k_Model_sayTwo 273 1 12 := ⟨cw_Model_sayTwo, yd_Model_sayTwo, w_1460, w_1462, wp_62, w_14, ⟨_, _, rfl⟩, by decide, by decide⟩
theorem c_Model_made_214 : ob_sd k_Model_made k_Model_check 214 3 := ⟨cw_Model_check, yd_Model_check, w_1403, w_1404, w_14, by decide, by decide⟩
def f_Model_made_L74 (S : ob_S) (v0 : Nat) (D : ob_D) : Option (ob_D) :=
  if D.2.1 v0 74 ≠ 0 then if D.2.1 v0 69 ≠ 0 then if ob_in (7 : Int32) (S.2.1 (D.2.1 v0 69)) then if ob_in (D.1 (D.2.1 v0 69) (7 : Int32).toNatClampNeg) (S.2.1 (D.2.1 v0 74)) then (if (D.1 (D.2.1 v0 74) (D.1 (D.2.1 v0 69) (7 : Int32).toNatClampNeg).toNatClampNeg) = 0 then some D else ob_bv (f_Model_keep S v0 D) fun D27 => some D27) else none else none else none else none
theorem v_Model_made_L74 {l : Launch} {E : ob_E} {S : ob_S} {D' : ob_D} : ∀ (v0 : Nat) (D : ob_D), S.1 v0 = 13 → f_Model_made_L74 S v0 D = some D' → ob_V l E k_Model_made 74 [(0, .ref v0)] [] S D none S D' := by
  intro v0 D hp_v0 h
  rw [f_Model_made_L74] at h
  refine ob_aload d_Model_made_74 rfl ?_
  obtain ⟨hg22, h⟩ := ob_gd h
  refine ob_getR d_Model_made_75 F_12_74 l_Model_127 hp_v0 hg22 (fun hk21 => ?_)
  refine ob_aload d_Model_made_78 rfl ?_
  obtain ⟨hg24, h⟩ := ob_gd h
  refine ob_getR d_Model_made_79 F_12_69 l_Model_121 hp_v0 hg24 (fun hk23 => ?_)
  refine ob_push d_Model_made_82 ?_
  obtain ⟨hg25, h⟩ := ob_gd h
  refine ob_bald d_Model_made_84 hk23 hg25 ?_
  obtain ⟨hg26, h⟩ := ob_gd h
  refine ob_zald d_Model_made_85 hk21 hg26 ?_
  refine ob_if_eq d_Model_made_86 (fun hc => ?_) (fun hc => ?_)
  · replace h := ob_ift hc h
    exact ob_ve h (ob_vret d_Model_made_93 rfl)
  · replace h := ob_iff hc h
    refine ob_aload d_Model_made_89 rfl ?_
    obtain ⟨D27, h28, h⟩ := ob_bv_e h
    refine ob_callVv (As := []) (rest := []) d_Model_made_90 c_Model_made_428 hp_v0 rfl rfl (Nat.le_of_ble_eq_true rfl) (c_Model_keep hp_v0 h28) ⟨Nat.le_refl _, Nat.le_refl _⟩ ⟨Nat.le_refl _, Nat.le_refl _⟩ ?_
    exact ob_ve h (ob_vret d_Model_made_93 rfl)
def f_Model_made (S : ob_S) (v0 : Nat) (D : ob_D) : Option (ob_D) :=
  if D.2.1 v0 69 ≠ 0 then if ob_in (4 : Int32) (S.2.1 (D.2.1 v0 69)) then ob_lt (ob_pI D (D.2.1 v0 69) (4 : Int32).toNatClampNeg (((((((D.1 v0 70) + (2 : Int32)) - (6 : Int32)) - (1 : Int32)) >>> ((8 : Int32) &&& 31)).toInt8.toInt32).toInt8.toInt32)) fun D4 => if D4.2.1 v0 69 ≠ 0 then if ob_in (5 : Int32) (S.2.1 (D4.2.1 v0 69)) then ob_lt (ob_pI D4 (D4.2.1 v0 69) (5 : Int32).toNatClampNeg ((((((D.1 v0 70) + (2 : Int32)) - (6 : Int32)) - (1 : Int32)).toInt8.toInt32).toInt8.toInt32)) fun D8 => if D8.2.1 v0 69 ≠ 0 then ob_bd (f_Model_check S (D8.2.1 v0 69) (0 : Int32) (D8.1 v0 70) D8) fun x13 D11 => ob_bv (f_Model_sayTwo S v0 x13 D11) fun D14 => if D14.2.1 v0 69 ≠ 0 then ob_bd (f_Model_joins S v0 (0 : Int32) (D14.2.1 v0 69) (0 : Int32) (D14.1 v0 70) D14) fun x20 D18 => (if x20 = 0 then ob_lt (ob_pI D18 v0 72 ((D18.1 v0 72) + (1 : Int32))) fun D29 => f_Model_made_L74 S v0 D29 else f_Model_made_L74 S v0 D18) else none else none else none else none else none else none
theorem c_Model_made {l : Launch} {E : ob_E} {S : ob_S} {D : ob_D} {v0 : Nat} {D' : ob_D} (hp_v0 : S.1 v0 = 13) (h : f_Model_made S v0 D = some D') : ob_M l E k_Model_made [.ref v0] S D none S D' := by
  refine ob_ofV (lo := [(0, .ref v0)]) (by decide) rfl (Nat.le_of_ble_eq_true rfl) rfl (Nat.le_refl _) (Nat.le_refl _) ?_
  rw [f_Model_made] at h
  refine ob_aload d_Model_made_0 rfl ?_
  refine ob_getI d_Model_made_1 F_12_70 l_Model_414 hp_v0 ?_
  refine ob_push d_Model_made_4 ?_
  refine ob_iadd d_Model_made_5 ?_
  refine ob_push d_Model_made_6 ?_
  refine ob_isub d_Model_made_8 ?_
  refine ob_push d_Model_made_9 ?_
  refine ob_isub d_Model_made_10 ?_
  refine ob_istore (lo2 := [(0, .ref v0), (1, .int ((((D.1 v0 70) + (2 : Int32)) - (6 : Int32)) - (1 : Int32)))]) d_Model_made_11 rfl ?_
  refine ob_aload d_Model_made_12 rfl ?_
  obtain ⟨hg2, h⟩ := ob_gd h
  refine ob_getR d_Model_made_13 F_12_69 l_Model_121 hp_v0 hg2 (fun hk1 => ?_)
  refine ob_push d_Model_made_16 ?_
  refine ob_iload d_Model_made_17 rfl ?_
  refine ob_push d_Model_made_18 ?_
  refine ob_ishr d_Model_made_20 ?_
  refine ob_i2b d_Model_made_21 ?_
  obtain ⟨hg3, h⟩ := ob_gd h
  replace h := ob_lt_e h
  refine ob_bast d_Model_made_22 hk1 hg3 ?_
  refine ob_aload d_Model_made_23 rfl ?_
  obtain ⟨hg6, h⟩ := ob_gd h
  refine ob_getR d_Model_made_24 F_12_69 l_Model_121 hp_v0 hg6 (fun hk5 => ?_)
  refine ob_push d_Model_made_27 ?_
  refine ob_iload d_Model_made_28 rfl ?_
  refine ob_i2b d_Model_made_29 ?_
  obtain ⟨hg7, h⟩ := ob_gd h
  replace h := ob_lt_e h
  refine ob_bast d_Model_made_30 hk5 hg7 ?_
  refine ob_aload d_Model_made_31 rfl ?_
  refine ob_aload d_Model_made_32 rfl ?_
  obtain ⟨hg10, h⟩ := ob_gd h
  refine ob_getR d_Model_made_33 F_12_69 l_Model_121 hp_v0 hg10 (fun hk9 => ?_)
  refine ob_push d_Model_made_36 ?_
  refine ob_aload d_Model_made_37 rfl ?_
  refine ob_getI d_Model_made_38 F_12_70 l_Model_414 hp_v0 ?_
  obtain ⟨x13, D11, h12, h⟩ := ob_bd_e h
  refine ob_callSi (As := [.ref ((ob_pI (ob_pI D (D.2.1 v0 69) (4 : Int32).toNatClampNeg (((((((D.1 v0 70) + (2 : Int32)) - (6 : Int32)) - (1 : Int32)) >>> ((8 : Int32) &&& 31)).toInt8.toInt32).toInt8.toInt32)) ((ob_pI D (D.2.1 v0 69) (4 : Int32).toNatClampNeg (((((((D.1 v0 70) + (2 : Int32)) - (6 : Int32)) - (1 : Int32)) >>> ((8 : Int32) &&& 31)).toInt8.toInt32).toInt8.toInt32)).2.1 v0 69) (5 : Int32).toNatClampNeg ((((((D.1 v0 70) + (2 : Int32)) - (6 : Int32)) - (1 : Int32)).toInt8.toInt32).toInt8.toInt32)).2.1 v0 69), .int (0 : Int32), .int ((ob_pI (ob_pI D (D.2.1 v0 69) (4 : Int32).toNatClampNeg (((((((D.1 v0 70) + (2 : Int32)) - (6 : Int32)) - (1 : Int32)) >>> ((8 : Int32) &&& 31)).toInt8.toInt32).toInt8.toInt32)) ((ob_pI D (D.2.1 v0 69) (4 : Int32).toNatClampNeg (((((((D.1 v0 70) + (2 : Int32)) - (6 : Int32)) - (1 : Int32)) >>> ((8 : Int32) &&& 31)).toInt8.toInt32).toInt8.toInt32)).2.1 v0 69) (5 : Int32).toNatClampNeg ((((((D.1 v0 70) + (2 : Int32)) - (6 : Int32)) - (1 : Int32)).toInt8.toInt32).toInt8.toInt32)).1 v0 70)]) (rest := [.ref v0]) d_Model_made_41 c_Model_made_214 rfl rfl (Nat.le_of_ble_eq_true rfl) (c_Model_check hk9 h12) ⟨Nat.le_refl _, Nat.le_refl _⟩ ⟨Nat.le_refl _, Nat.le_refl _⟩ ?_
  obtain ⟨D14, h15, h⟩ := ob_bv_e h
  refine ob_callVv (As := [.int x13]) (rest := []) d_Model_made_44 c_Model_made_273 hp_v0 rfl rfl (Nat.le_of_ble_eq_true rfl) (c_Model_sayTwo hp_v0 h15) ⟨Nat.le_refl _, Nat.le_refl _⟩ ⟨Nat.le_refl _, Nat.le_refl _⟩ ?_
  refine ob_aload d_Model_made_47 rfl ?_
  refine ob_push d_Model_made_48 ?_
  refine ob_aload d_Model_made_49 rfl ?_
  obtain ⟨hg17, h⟩ := ob_gd h
  refine ob_getR d_Model_made_50 F_12_69 l_Model_121 hp_v0 hg17 (fun hk16 => ?_)
  refine ob_push d_Model_made_53 ?_
  refine ob_aload d_Model_made_54 rfl ?_
  refine ob_getI d_Model_made_55 F_12_70 l_Model_414 hp_v0 ?_
  obtain ⟨x20, D18, h19, h⟩ := ob_bd_e h
  refine ob_callVi (As := [.int (0 : Int32), .ref (D14.2.1 v0 69), .int (0 : Int32), .int (D14.1 v0 70)]) (rest := []) d_Model_made_58 c_Model_made_421 hp_v0 rfl rfl (Nat.le_of_ble_eq_true rfl) (c_Model_joins hp_v0 hk16 h19) ⟨Nat.le_refl _, Nat.le_refl _⟩ ⟨Nat.le_refl _, Nat.le_refl _⟩ ?_
  refine ob_if_ne d_Model_made_61 (fun hc => ?_) (fun hc => ?_)
  · replace h := ob_iff hc h
    refine ob_sub (lo2 := [(0, .ref v0)]) [0] rfl ?_
    exact v_Model_made_L74 v0 D18 hp_v0 h
  · replace h := ob_ift hc h
    refine ob_aload d_Model_made_64 rfl ?_
    refine ob_dup d_Model_made_65 rfl ?_
    refine ob_getI d_Model_made_66 F_12_72 l_Model_425 hp_v0 ?_
    refine ob_push d_Model_made_69 ?_
    refine ob_iadd d_Model_made_70 ?_
    replace h := ob_lt_e h
    refine ob_putI d_Model_made_71 F_12_72 l_Model_425 hp_v0 ?_
    refine ob_sub (lo2 := [(0, .ref v0)]) [0] rfl ?_
    exact v_Model_made_L74 v0 (ob_pI D18 v0 72 ((D18.1 v0 72) + (1 : Int32))) hp_v0 h
-- OrbitBoxModel.verified(II)V
theorem d_Model_verified_1 : ob_dk k_Model_verified 1 2 (1 : Int32) (.iconst 1) 1 := ⟨by decide +kernel, rfl, show Int32.ofInt 1 = (1 : Int32) by decide +kernel⟩
theorem d_Model_verified_23 : ob_dc k_Model_verified 23 (.return_) 1 24 := ⟨by decide +kernel, rfl⟩
theorem d_Model_verified_20 : ob_dc k_Model_verified 20 (.invokevirtual 276) 3 23 := ⟨by decide +kernel, rfl⟩
theorem d_Model_verified_19 : ob_dv ob_ac k_Model_verified 19 20 0 (.aload_n 0) 1 := ⟨by decide +kernel, rfl, rfl⟩
theorem d_Model_verified_16 : ob_dc k_Model_verified 16 (.invokevirtual 273) 3 19 := ⟨by decide +kernel, rfl⟩
theorem d_Model_verified_15 : ob_dv ob_lc k_Model_verified 15 16 2 (.iload_n 2) 1 := ⟨by decide +kernel, rfl, rfl⟩
theorem d_Model_verified_14 : ob_dv ob_ac k_Model_verified 14 15 0 (.aload_n 0) 1 := ⟨by decide +kernel, rfl, rfl⟩
theorem d_Model_verified_11 : ob_db k_Model_verified 11 (.ifCond .le 8) 8 14 19 := ⟨by decide +kernel, rfl, by decide⟩
theorem d_Model_verified_10 : ob_dv ob_lc k_Model_verified 10 11 2 (.iload_n 2) 1 := ⟨by decide +kernel, rfl, rfl⟩
theorem d_Model_verified_7 : ob_dc k_Model_verified 7 (.invokevirtual 270) 3 10 := ⟨by decide +kernel, rfl⟩
theorem d_Model_verified_6 : ob_dv ob_ac k_Model_verified 6 7 0 (.aload_n 0) 1 := ⟨by decide +kernel, rfl, rfl⟩
theorem d_Model_verified_3 : ob_dc k_Model_verified 3 (.invokevirtual 267) 3 6 := ⟨by decide +kernel, rfl⟩
theorem d_Model_verified_2 : ob_dv ob_lc k_Model_verified 2 3 1 (.iload_n 1) 1 := ⟨by decide +kernel, rfl, rfl⟩
theorem d_Model_verified_0 : ob_dv ob_ac k_Model_verified 0 1 0 (.aload_n 0) 1 := ⟨by decide +kernel, rfl, rfl⟩
theorem c_Model_verified_276 : ob_vd k_Model_verified k_Model_made 276 0 12 := ⟨cw_Model_made, yd_Model_made, w_1477, w_1479, wp_66, w_14, ⟨_, _, rfl⟩, by decide, by decide⟩
theorem c_Model_verified_273 : ob_vd k_Model_verified k_Model_sayTwo 273 1 12 := ⟨cw_Model_sayTwo, yd_Model_sayTwo, w_1460, w_1462, wp_62, w_14, ⟨_, _, rfl⟩, by decide, by decide⟩
theorem c_Model_verified_270 : ob_vd k_Model_verified k_Model_firstFour 270 0 12 := ⟨cw_Model_firstFour, yd_Model_firstFour, w_1473, w_1475, wp_65, w_14, ⟨_, _, rfl⟩, by decide, by decide⟩
theorem c_Model_verified_267 : ob_vd k_Model_verified k_Model_report 267 2 12 := ⟨cw_Model_report, yd_Model_report, w_1456, w_1458, wp_61, w_14, ⟨_, _, rfl⟩, by decide, by decide⟩
def f_Model_verified (S : ob_S) (v0 : Nat) (v1 : Int32) (v2 : Int32) (D : ob_D) : Option (ob_D) :=
  ob_bv (f_Model_report S v0 (1 : Int32) v1 D) fun D1 => ob_bv (f_Model_firstFour S v0 D1) fun D3 => (if v2 ≤ 0 then ob_bv (f_Model_made S v0 D3) fun D5 => some D5 else ob_bv (f_Model_sayTwo S v0 v2 D3) fun D7 => ob_bv (f_Model_made S v0 D7) fun D9 => some D9)
theorem c_Model_verified {l : Launch} {E : ob_E} {S : ob_S} {D : ob_D} {v0 : Nat} {v1 : Int32} {v2 : Int32} {D' : ob_D} (hp_v0 : S.1 v0 = 13) (h : f_Model_verified S v0 v1 v2 D = some D') : ob_M l E k_Model_verified [.ref v0, .int v1, .int v2] S D none S D' := by
  refine ob_ofV (lo := [(0, .ref v0), (1, .int v1), (2, .int v2)]) (by decide) rfl (Nat.le_of_ble_eq_true rfl) rfl (Nat.le_refl _) (Nat.le_refl _) ?_
  rw [f_Model_verified] at h
  refine ob_aload d_Model_verified_0 rfl ?_
  refine ob_push d_Model_verified_1 ?_
  refine ob_iload d_Model_verified_2 rfl ?_
  obtain ⟨D1, h2, h⟩ := ob_bv_e h
  refine ob_callVv (As := [.int (1 : Int32), .int v1]) (rest := []) d_Model_verified_3 c_Model_verified_267 hp_v0 rfl rfl (Nat.le_of_ble_eq_true rfl) (c_Model_report hp_v0 h2) ⟨Nat.le_refl _, Nat.le_refl _⟩ ⟨Nat.le_refl _, Nat.le_refl _⟩ ?_
  refine ob_aload d_Model_verified_6 rfl ?_
  obtain ⟨D3, h4, h⟩ := ob_bv_e h
  refine ob_callVv (As := []) (rest := []) d_Model_verified_7 c_Model_verified_270 hp_v0 rfl rfl (Nat.le_of_ble_eq_true rfl) (c_Model_firstFour hp_v0 h4) ⟨Nat.le_refl _, Nat.le_refl _⟩ ⟨Nat.le_refl _, Nat.le_refl _⟩ ?_
  refine ob_iload d_Model_verified_10 rfl ?_
  refine ob_if_le d_Model_verified_11 (fun hc => ?_) (fun hc => ?_)
  · replace h := ob_ift hc h
    refine ob_aload d_Model_verified_19 rfl ?_
    obtain ⟨D5, h6, h⟩ := ob_bv_e h
    refine ob_callVv (As := []) (rest := []) d_Model_verified_20 c_Model_verified_276 hp_v0 rfl rfl (Nat.le_of_ble_eq_true rfl) (c_Model_made hp_v0 h6) ⟨Nat.le_refl _, Nat.le_refl _⟩ ⟨Nat.le_refl _, Nat.le_refl _⟩ ?_
    exact ob_ve h (ob_vret d_Model_verified_23 rfl)
  · replace h := ob_iff hc h
    refine ob_aload d_Model_verified_14 rfl ?_
    refine ob_iload d_Model_verified_15 rfl ?_
    obtain ⟨D7, h8, h⟩ := ob_bv_e h
    refine ob_callVv (As := [.int v2]) (rest := []) d_Model_verified_16 c_Model_verified_273 hp_v0 rfl rfl (Nat.le_of_ble_eq_true rfl) (c_Model_sayTwo hp_v0 h8) ⟨Nat.le_refl _, Nat.le_refl _⟩ ⟨Nat.le_refl _, Nat.le_refl _⟩ ?_
    refine ob_aload d_Model_verified_19 rfl ?_
    obtain ⟨D9, h10, h⟩ := ob_bv_e h
    refine ob_callVv (As := []) (rest := []) d_Model_verified_20 c_Model_verified_276 hp_v0 rfl rfl (Nat.le_of_ble_eq_true rfl) (c_Model_made hp_v0 h10) ⟨Nat.le_refl _, Nat.le_refl _⟩ ⟨Nat.le_refl _, Nat.le_refl _⟩ ?_
    exact ob_ve h (ob_vret d_Model_verified_23 rfl)
-- OrbitBoxModel.data(I)I
theorem d_Model_data_4 : ob_dk k_Model_data 4 6 (11 : Int32) (.bipush 11) 2 := ⟨by decide +kernel, rfl, show (Int8.ofInt 11).toInt32 = (11 : Int32) by decide +kernel⟩
theorem d_Model_data_9 : ob_dk k_Model_data 9 12 (255 : Int32) (.sipush 255) 3 := ⟨by decide +kernel, rfl, show (Int16.ofInt 255).toInt32 = (255 : Int32) by decide +kernel⟩
theorem d_Model_data_13 : ob_dc k_Model_data 13 (.ireturn) 1 14 := ⟨by decide +kernel, rfl⟩
theorem d_Model_data_12 : ob_dc k_Model_data 12 (.iand) 1 13 := ⟨by decide +kernel, rfl⟩
theorem d_Model_data_8 : ob_dc k_Model_data 8 (.baload) 1 9 := ⟨by decide +kernel, rfl⟩
theorem d_Model_data_7 : ob_dc k_Model_data 7 (.iadd) 1 8 := ⟨by decide +kernel, rfl⟩
theorem d_Model_data_6 : ob_dv ob_lc k_Model_data 6 7 1 (.iload_n 1) 1 := ⟨by decide +kernel, rfl, rfl⟩
theorem d_Model_data_1 : ob_dc k_Model_data 1 (.getfield 34) 3 4 := ⟨by decide +kernel, rfl⟩
theorem d_Model_data_0 : ob_dv ob_ac k_Model_data 0 1 0 (.aload_n 0) 1 := ⟨by decide +kernel, rfl, rfl⟩
def f_Model_data (S : ob_S) (v0 : Nat) (v1 : Int32) (D : ob_D) : Option (Int32 × ob_D) :=
  if D.2.1 v0 27 ≠ 0 then if ob_in ((11 : Int32) + v1) (S.2.1 (D.2.1 v0 27)) then some ((D.1 (D.2.1 v0 27) ((11 : Int32) + v1).toNatClampNeg) &&& (255 : Int32), D) else none else none
theorem c_Model_data {l : Launch} {E : ob_E} {S : ob_S} {D : ob_D} {v0 : Nat} {v1 : Int32} {r : Int32} {D' : ob_D} (hp_v0 : S.1 v0 = 13) (h : f_Model_data S v0 v1 D = some (r, D')) : ob_M l E k_Model_data [.ref v0, .int v1] S D (some (.int r)) S D' := by
  refine ob_ofV (lo := [(0, .ref v0), (1, .int v1)]) (by decide) rfl (Nat.le_of_ble_eq_true rfl) rfl (Nat.le_refl _) (Nat.le_refl _) ?_
  rw [f_Model_data] at h
  refine ob_aload d_Model_data_0 rfl ?_
  obtain ⟨hg2, h⟩ := ob_gd h
  refine ob_getR d_Model_data_1 F_12_27 l_Model_34 hp_v0 hg2 (fun hk1 => ?_)
  refine ob_push d_Model_data_4 ?_
  refine ob_iload d_Model_data_6 rfl ?_
  refine ob_iadd d_Model_data_7 ?_
  obtain ⟨hg3, h⟩ := ob_gd h
  refine ob_bald d_Model_data_8 hk1 hg3 ?_
  refine ob_push d_Model_data_9 ?_
  refine ob_iand d_Model_data_12 ?_
  exact ob_ie h (ob_iret d_Model_data_13 rfl rfl)
-- OrbitBoxModel.formFailure(I)I
theorem d_Model_formFailure_1 : ob_dk k_Model_formFailure 1 2 (0 : Int32) (.iconst 0) 1 := ⟨by decide +kernel, rfl, show Int32.ofInt 0 = (0 : Int32) by decide +kernel⟩
theorem d_Model_formFailure_7 : ob_dk k_Model_formFailure 7 8 (1 : Int32) (.iconst 1) 1 := ⟨by decide +kernel, rfl, show Int32.ofInt 1 = (1 : Int32) by decide +kernel⟩
theorem d_Model_formFailure_114 : ob_dk k_Model_formFailure 114 115 (3 : Int32) (.iconst 3) 1 := ⟨by decide +kernel, rfl, show Int32.ofInt 3 = (3 : Int32) by decide +kernel⟩
theorem d_Model_formFailure_132 : ob_dk k_Model_formFailure 132 133 (0 : Int32) (.iconst 0) 1 := ⟨by decide +kernel, rfl, show Int32.ofInt 0 = (0 : Int32) by decide +kernel⟩
theorem d_Model_formFailure_133 : ob_dc k_Model_formFailure 133 (.ireturn) 1 134 := ⟨by decide +kernel, rfl⟩
theorem d_Model_formFailure_127 : ob_dk k_Model_formFailure 127 129 (15 : Int32) (.bipush 15) 2 := ⟨by decide +kernel, rfl, show (Int8.ofInt 15).toInt32 = (15 : Int32) by decide +kernel⟩
theorem d_Model_formFailure_129 : ob_db k_Model_formFailure 129 (.goto 4) 4 132 133 := ⟨by decide +kernel, rfl, by decide⟩
theorem d_Model_formFailure_124 : ob_db k_Model_formFailure 124 (.ifCond .eq 8) 8 127 132 := ⟨by decide +kernel, rfl, by decide⟩
theorem d_Model_formFailure_123 : ob_dc k_Model_formFailure 123 (.baload) 1 124 := ⟨by decide +kernel, rfl⟩
theorem d_Model_formFailure_122 : ob_dv ob_lc k_Model_formFailure 122 123 2 (.iload_n 2) 1 := ⟨by decide +kernel, rfl, rfl⟩
theorem d_Model_formFailure_119 : ob_dc k_Model_formFailure 119 (.getfield 40) 3 122 := ⟨by decide +kernel, rfl⟩
theorem d_Model_formFailure_118 : ob_dv ob_ac k_Model_formFailure 118 119 0 (.aload_n 0) 1 := ⟨by decide +kernel, rfl, rfl⟩
theorem d_Model_formFailure_115 : ob_db k_Model_formFailure 115 (.if_icmp .ne 17) 17 118 132 := ⟨by decide +kernel, rfl, by decide⟩
theorem d_Model_formFailure_113 : ob_dv ob_lc k_Model_formFailure 113 114 1 (.iload_n 1) 1 := ⟨by decide +kernel, rfl, rfl⟩
theorem d_Model_formFailure_108 : ob_dk k_Model_formFailure 108 110 (14 : Int32) (.bipush 14) 2 := ⟨by decide +kernel, rfl, show (Int8.ofInt 14).toInt32 = (14 : Int32) by decide +kernel⟩
theorem d_Model_formFailure_110 : ob_db k_Model_formFailure 110 (.goto 23) 23 113 133 := ⟨by decide +kernel, rfl, by decide⟩
theorem d_Model_formFailure_105 : ob_db k_Model_formFailure 105 (.ifCond .ne 8) 8 108 113 := ⟨by decide +kernel, rfl, by decide⟩
theorem d_Model_formFailure_104 : ob_dc k_Model_formFailure 104 (.baload) 1 105 := ⟨by decide +kernel, rfl⟩
theorem d_Model_formFailure_103 : ob_dv ob_lc k_Model_formFailure 103 104 2 (.iload_n 2) 1 := ⟨by decide +kernel, rfl, rfl⟩
theorem d_Model_formFailure_100 : ob_dc k_Model_formFailure 100 (.getfield 37) 3 103 := ⟨by decide +kernel, rfl⟩
theorem d_Model_formFailure_99 : ob_dv ob_ac k_Model_formFailure 99 100 0 (.aload_n 0) 1 := ⟨by decide +kernel, rfl, rfl⟩
theorem d_Model_formFailure_12 : ob_dk k_Model_formFailure 12 13 (2 : Int32) (.iconst 2) 1 := ⟨by decide +kernel, rfl, show Int32.ofInt 2 = (2 : Int32) by decide +kernel⟩
theorem d_Model_formFailure_18 : ob_dk k_Model_formFailure 18 19 (1 : Int32) (.iconst 1) 1 := ⟨by decide +kernel, rfl, show Int32.ofInt 1 = (1 : Int32) by decide +kernel⟩
theorem d_Model_formFailure_35 : ob_dk k_Model_formFailure 35 37 (13 : Int32) (.bipush 13) 2 := ⟨by decide +kernel, rfl, show (Int8.ofInt 13).toInt32 = (13 : Int32) by decide +kernel⟩
theorem d_Model_formFailure_37 : ob_dc k_Model_formFailure 37 (.ireturn) 1 38 := ⟨by decide +kernel, rfl⟩
theorem d_Model_formFailure_30 : ob_dk k_Model_formFailure 30 32 (8 : Int32) (.bipush 8) 2 := ⟨by decide +kernel, rfl, show (Int8.ofInt 8).toInt32 = (8 : Int32) by decide +kernel⟩
theorem d_Model_formFailure_38 : ob_dk k_Model_formFailure 38 39 (0 : Int32) (.iconst 0) 1 := ⟨by decide +kernel, rfl, show Int32.ofInt 0 = (0 : Int32) by decide +kernel⟩
theorem d_Model_formFailure_87 : ob_dk k_Model_formFailure 87 89 (8 : Int32) (.bipush 8) 2 := ⟨by decide +kernel, rfl, show (Int8.ofInt 8).toInt32 = (8 : Int32) by decide +kernel⟩
theorem d_Model_formFailure_97 : ob_dk k_Model_formFailure 97 98 (0 : Int32) (.iconst 0) 1 := ⟨by decide +kernel, rfl, show Int32.ofInt 0 = (0 : Int32) by decide +kernel⟩
theorem d_Model_formFailure_98 : ob_dc k_Model_formFailure 98 (.ireturn) 1 99 := ⟨by decide +kernel, rfl⟩
theorem d_Model_formFailure_92 : ob_dk k_Model_formFailure 92 94 (12 : Int32) (.bipush 12) 2 := ⟨by decide +kernel, rfl, show (Int8.ofInt 12).toInt32 = (12 : Int32) by decide +kernel⟩
theorem d_Model_formFailure_94 : ob_db k_Model_formFailure 94 (.goto 4) 4 97 98 := ⟨by decide +kernel, rfl, by decide⟩
theorem d_Model_formFailure_89 : ob_db k_Model_formFailure 89 (.if_icmp .ne 8) 8 92 97 := ⟨by decide +kernel, rfl, by decide⟩
theorem d_Model_formFailure_84 : ob_dc k_Model_formFailure 84 (.getfield 345) 3 87 := ⟨by decide +kernel, rfl⟩
theorem d_Model_formFailure_83 : ob_dv ob_ac k_Model_formFailure 83 84 0 (.aload_n 0) 1 := ⟨by decide +kernel, rfl, rfl⟩
theorem d_Model_formFailure_78 : ob_dk k_Model_formFailure 78 80 (11 : Int32) (.bipush 11) 2 := ⟨by decide +kernel, rfl, show (Int8.ofInt 11).toInt32 = (11 : Int32) by decide +kernel⟩
theorem d_Model_formFailure_80 : ob_db k_Model_formFailure 80 (.goto 18) 18 83 98 := ⟨by decide +kernel, rfl, by decide⟩
theorem d_Model_formFailure_75 : ob_db k_Model_formFailure 75 (.ifCond .eq 8) 8 78 83 := ⟨by decide +kernel, rfl, by decide⟩
theorem d_Model_formFailure_74 : ob_dc k_Model_formFailure 74 (.baload) 1 75 := ⟨by decide +kernel, rfl⟩
theorem d_Model_formFailure_73 : ob_dv ob_lc k_Model_formFailure 73 74 2 (.iload_n 2) 1 := ⟨by decide +kernel, rfl, rfl⟩
theorem d_Model_formFailure_70 : ob_dc k_Model_formFailure 70 (.getfield 37) 3 73 := ⟨by decide +kernel, rfl⟩
theorem d_Model_formFailure_69 : ob_dv ob_ac k_Model_formFailure 69 70 0 (.aload_n 0) 1 := ⟨by decide +kernel, rfl, rfl⟩
theorem d_Model_formFailure_48 : ob_dk k_Model_formFailure 48 49 (3 : Int32) (.iconst 3) 1 := ⟨by decide +kernel, rfl, show Int32.ofInt 3 = (3 : Int32) by decide +kernel⟩
theorem d_Model_formFailure_55 : ob_dk k_Model_formFailure 55 57 (31 : Int32) (.bipush 31) 2 := ⟨by decide +kernel, rfl, show (Int8.ofInt 31).toInt32 = (31 : Int32) by decide +kernel⟩
theorem d_Model_formFailure_63 : ob_di k_Model_formFailure 63 66 4 1 (1 : Int32) := ⟨by decide +kernel, rfl, by decide +kernel, by decide +kernel⟩
theorem d_Model_formFailure_66 : ob_db k_Model_formFailure 66 (.goto (-25)) (-25) 69 41 := ⟨by decide +kernel, rfl, by decide⟩
theorem d_Model_formFailure_60 : ob_dk k_Model_formFailure 60 62 (13 : Int32) (.bipush 13) 2 := ⟨by decide +kernel, rfl, show (Int8.ofInt 13).toInt32 = (13 : Int32) by decide +kernel⟩
theorem d_Model_formFailure_62 : ob_dc k_Model_formFailure 62 (.ireturn) 1 63 := ⟨by decide +kernel, rfl⟩
theorem d_Model_formFailure_57 : ob_db k_Model_formFailure 57 (.if_icmp .le 6) 6 60 63 := ⟨by decide +kernel, rfl, by decide⟩
theorem d_Model_formFailure_52 : ob_dc k_Model_formFailure 52 (.invokevirtual 302) 3 55 := ⟨by decide +kernel, rfl⟩
theorem d_Model_formFailure_51 : ob_dc k_Model_formFailure 51 (.iadd) 1 52 := ⟨by decide +kernel, rfl⟩
theorem d_Model_formFailure_49 : ob_dv ob_lc k_Model_formFailure 49 51 4 (.iload 4) 2 := ⟨by decide +kernel, rfl, rfl⟩
theorem d_Model_formFailure_47 : ob_dv ob_ac k_Model_formFailure 47 48 0 (.aload_n 0) 1 := ⟨by decide +kernel, rfl, rfl⟩
theorem d_Model_formFailure_44 : ob_db k_Model_formFailure 44 (.if_icmp .ge 25) 25 47 69 := ⟨by decide +kernel, rfl, by decide⟩
theorem d_Model_formFailure_43 : ob_dv ob_lc k_Model_formFailure 43 44 3 (.iload_n 3) 1 := ⟨by decide +kernel, rfl, rfl⟩
theorem d_Model_formFailure_41 : ob_dv ob_lc k_Model_formFailure 41 43 4 (.iload 4) 2 := ⟨by decide +kernel, rfl, rfl⟩
theorem d_Model_formFailure_39 : ob_dv (ob_sc k_Model_formFailure.2.2.2.1) k_Model_formFailure 39 41 4 (.istore 4) 2 := ⟨by decide +kernel, rfl, ⟨rfl, by decide +kernel⟩⟩
theorem d_Model_formFailure_32 : ob_db k_Model_formFailure 32 (.if_icmp .le 6) 6 35 38 := ⟨by decide +kernel, rfl, by decide⟩
theorem d_Model_formFailure_29 : ob_dv ob_lc k_Model_formFailure 29 30 3 (.iload_n 3) 1 := ⟨by decide +kernel, rfl, rfl⟩
theorem d_Model_formFailure_26 : ob_db k_Model_formFailure 26 (.ifCond .eq 9) 9 29 35 := ⟨by decide +kernel, rfl, by decide⟩
theorem d_Model_formFailure_25 : ob_dv ob_lc k_Model_formFailure 25 26 3 (.iload_n 3) 1 := ⟨by decide +kernel, rfl, rfl⟩
theorem d_Model_formFailure_22 : ob_db k_Model_formFailure 22 (.ifCond .eq 13) 13 25 35 := ⟨by decide +kernel, rfl, by decide⟩
theorem d_Model_formFailure_19 : ob_dc k_Model_formFailure 19 (.invokevirtual 302) 3 22 := ⟨by decide +kernel, rfl⟩
theorem d_Model_formFailure_17 : ob_dv ob_ac k_Model_formFailure 17 18 0 (.aload_n 0) 1 := ⟨by decide +kernel, rfl, rfl⟩
theorem d_Model_formFailure_16 : ob_dv (ob_sc k_Model_formFailure.2.2.2.1) k_Model_formFailure 16 17 3 (.istore_n 3) 1 := ⟨by decide +kernel, rfl, ⟨rfl, by decide +kernel⟩⟩
theorem d_Model_formFailure_13 : ob_dc k_Model_formFailure 13 (.invokevirtual 302) 3 16 := ⟨by decide +kernel, rfl⟩
theorem d_Model_formFailure_11 : ob_dv ob_ac k_Model_formFailure 11 12 0 (.aload_n 0) 1 := ⟨by decide +kernel, rfl, rfl⟩
theorem d_Model_formFailure_8 : ob_db k_Model_formFailure 8 (.if_icmp .ne 91) 91 11 99 := ⟨by decide +kernel, rfl, by decide⟩
theorem d_Model_formFailure_6 : ob_dv ob_lc k_Model_formFailure 6 7 1 (.iload_n 1) 1 := ⟨by decide +kernel, rfl, rfl⟩
theorem d_Model_formFailure_5 : ob_dv (ob_sc k_Model_formFailure.2.2.2.1) k_Model_formFailure 5 6 2 (.istore_n 2) 1 := ⟨by decide +kernel, rfl, ⟨rfl, by decide +kernel⟩⟩
theorem d_Model_formFailure_2 : ob_dc k_Model_formFailure 2 (.invokevirtual 302) 3 5 := ⟨by decide +kernel, rfl⟩
theorem d_Model_formFailure_0 : ob_dv ob_ac k_Model_formFailure 0 1 0 (.aload_n 0) 1 := ⟨by decide +kernel, rfl, rfl⟩
theorem c_Model_formFailure_302 : ob_vd k_Model_formFailure k_Model_data 302 1 12 := ⟨cw_Model_data, yd_Model_data, w_1504, w_1506, wp_72, w_14, ⟨_, _, rfl⟩, by decide, by decide⟩
def f_Model_formFailure_L41 (S : ob_S) : Nat → Nat → Int32 → Int32 → Int32 → ob_D → Option (Int32 × ob_D)
  | 0, _, _, _, _, _ => none
  | n + 1, v0, v2, v3, v4, D => (if v3 ≤ v4 then if D.2.1 v0 31 ≠ 0 then if ob_in v2 (S.2.1 (D.2.1 v0 31)) then (if (D.1 (D.2.1 v0 31) v2.toNatClampNeg) = 0 then (if (D.1 v0 36) = (8 : Int32) then some ((12 : Int32), D) else some ((0 : Int32), D)) else some ((11 : Int32), D)) else none else none else ob_bd (f_Model_data S v0 ((3 : Int32) + v4) D) fun x21 D19 => (if x21 ≤ (31 : Int32) then f_Model_formFailure_L41 S n v0 v2 v3 (v4 + (1 : Int32)) D19 else some ((13 : Int32), D19)))
theorem v_Model_formFailure_L41 {l : Launch} {E : ob_E} {S : ob_S} {r : Int32} {D' : ob_D} : ∀ (n : Nat), ∀ (v0 : Nat) (v2 : Int32) (v3 : Int32) (v4 : Int32) (D : ob_D), S.1 v0 = 13 → f_Model_formFailure_L41 S n v0 v2 v3 v4 D = some (r, D') → ob_V l E k_Model_formFailure 41 [(0, .ref v0), (2, .int v2), (3, .int v3), (4, .int v4)] [] S D (some (.int r)) S D' := by
  intro n
  induction n with
  | zero =>
    intro v0 v2 v3 v4 D hp_v0 h
    have h : none = some (r, D') := h
    cases h
  | succ n ih =>
    intro v0 v2 v3 v4 D hp_v0 h
    rw [f_Model_formFailure_L41] at h
    refine ob_iload d_Model_formFailure_41 rfl ?_
    refine ob_iload d_Model_formFailure_43 rfl ?_
    refine ob_icmp_ge d_Model_formFailure_44 (fun hc => ?_) (fun hc => ?_)
    · replace h := ob_ift hc h
      refine ob_aload d_Model_formFailure_69 rfl ?_
      obtain ⟨hg17, h⟩ := ob_gd h
      refine ob_getR d_Model_formFailure_70 F_12_31 l_Model_37 hp_v0 hg17 (fun hk16 => ?_)
      refine ob_iload d_Model_formFailure_73 rfl ?_
      obtain ⟨hg18, h⟩ := ob_gd h
      refine ob_zald d_Model_formFailure_74 hk16 hg18 ?_
      refine ob_if_eq d_Model_formFailure_75 (fun hc => ?_) (fun hc => ?_)
      · replace h := ob_ift hc h
        refine ob_aload d_Model_formFailure_83 rfl ?_
        refine ob_getI d_Model_formFailure_84 F_12_36 l_Model_345 hp_v0 ?_
        refine ob_push d_Model_formFailure_87 ?_
        refine ob_icmp_ne d_Model_formFailure_89 (fun hc => ?_) (fun hc => ?_)
        · replace h := ob_iff hc h
          refine ob_push d_Model_formFailure_97 ?_
          exact ob_ie h (ob_iret d_Model_formFailure_98 rfl rfl)
        · replace h := ob_ift hc h
          refine ob_push d_Model_formFailure_92 ?_
          refine ob_goto d_Model_formFailure_94 ?_
          exact ob_ie h (ob_iret d_Model_formFailure_98 rfl rfl)
      · replace h := ob_iff hc h
        refine ob_push d_Model_formFailure_78 ?_
        refine ob_goto d_Model_formFailure_80 ?_
        exact ob_ie h (ob_iret d_Model_formFailure_98 rfl rfl)
    · replace h := ob_iff hc h
      refine ob_aload d_Model_formFailure_47 rfl ?_
      refine ob_push d_Model_formFailure_48 ?_
      refine ob_iload d_Model_formFailure_49 rfl ?_
      refine ob_iadd d_Model_formFailure_51 ?_
      obtain ⟨x21, D19, h20, h⟩ := ob_bd_e h
      refine ob_callVi (As := [.int ((3 : Int32) + v4)]) (rest := []) d_Model_formFailure_52 c_Model_formFailure_302 hp_v0 rfl rfl (Nat.le_of_ble_eq_true rfl) (c_Model_data hp_v0 h20) ⟨Nat.le_refl _, Nat.le_refl _⟩ ⟨Nat.le_refl _, Nat.le_refl _⟩ ?_
      refine ob_push d_Model_formFailure_55 ?_
      refine ob_icmp_le d_Model_formFailure_57 (fun hc => ?_) (fun hc => ?_)
      · replace h := ob_ift hc h
        refine ob_iinc (lo2 := [(0, .ref v0), (2, .int v2), (3, .int v3), (4, .int (v4 + (1 : Int32)))]) d_Model_formFailure_63 rfl rfl ?_
        refine ob_goto d_Model_formFailure_66 ?_
        exact ih v0 v2 v3 (v4 + (1 : Int32)) D19 hp_v0 h
      · replace h := ob_iff hc h
        refine ob_push d_Model_formFailure_60 ?_
        exact ob_ie h (ob_iret d_Model_formFailure_62 rfl rfl)
def f_Model_formFailure (S : ob_S) (v0 : Nat) (v1 : Int32) (D : ob_D) : Option (Int32 × ob_D) :=
  ob_bd (f_Model_data S v0 (0 : Int32) D) fun x3 D1 => (if v1 = (1 : Int32) then ob_bd (f_Model_data S v0 (2 : Int32) D1) fun x12 D10 => ob_bd (f_Model_data S v0 (1 : Int32) D10) fun x15 D13 => (if x15 = 0 then some ((13 : Int32), D13) else (if x12 = 0 then some ((13 : Int32), D13) else (if x12 ≤ (8 : Int32) then f_Model_formFailure_L41 S ob_FU v0 x3 x12 (0 : Int32) D13 else some ((13 : Int32), D13)))) else if D1.2.1 v0 31 ≠ 0 then if ob_in x3 (S.2.1 (D1.2.1 v0 31)) then (if (D1.1 (D1.2.1 v0 31) x3.toNatClampNeg) = 0 then some ((14 : Int32), D1) else (if v1 = (3 : Int32) then if D1.2.1 v0 32 ≠ 0 then if ob_in x3 (S.2.1 (D1.2.1 v0 32)) then (if (D1.1 (D1.2.1 v0 32) x3.toNatClampNeg) = 0 then some ((0 : Int32), D1) else some ((15 : Int32), D1)) else none else none else some ((0 : Int32), D1))) else none else none)
theorem c_Model_formFailure {l : Launch} {E : ob_E} {S : ob_S} {D : ob_D} {v0 : Nat} {v1 : Int32} {r : Int32} {D' : ob_D} (hp_v0 : S.1 v0 = 13) (h : f_Model_formFailure S v0 v1 D = some (r, D')) : ob_M l E k_Model_formFailure [.ref v0, .int v1] S D (some (.int r)) S D' := by
  refine ob_ofV (lo := [(0, .ref v0), (1, .int v1)]) (by decide) rfl (Nat.le_of_ble_eq_true rfl) rfl (Nat.le_refl _) (Nat.le_refl _) ?_
  rw [f_Model_formFailure] at h
  refine ob_aload d_Model_formFailure_0 rfl ?_
  refine ob_push d_Model_formFailure_1 ?_
  obtain ⟨x3, D1, h2, h⟩ := ob_bd_e h
  refine ob_callVi (As := [.int (0 : Int32)]) (rest := []) d_Model_formFailure_2 c_Model_formFailure_302 hp_v0 rfl rfl (Nat.le_of_ble_eq_true rfl) (c_Model_data hp_v0 h2) ⟨Nat.le_refl _, Nat.le_refl _⟩ ⟨Nat.le_refl _, Nat.le_refl _⟩ ?_
  refine ob_istore (lo2 := [(0, .ref v0), (1, .int v1), (2, .int x3)]) d_Model_formFailure_5 rfl ?_
  refine ob_iload d_Model_formFailure_6 rfl ?_
  refine ob_push d_Model_formFailure_7 ?_
  refine ob_icmp_ne d_Model_formFailure_8 (fun hc => ?_) (fun hc => ?_)
  · replace h := ob_iff hc h
    refine ob_aload d_Model_formFailure_99 rfl ?_
    obtain ⟨hg5, h⟩ := ob_gd h
    refine ob_getR d_Model_formFailure_100 F_12_31 l_Model_37 hp_v0 hg5 (fun hk4 => ?_)
    refine ob_iload d_Model_formFailure_103 rfl ?_
    obtain ⟨hg6, h⟩ := ob_gd h
    refine ob_zald d_Model_formFailure_104 hk4 hg6 ?_
    refine ob_if_ne d_Model_formFailure_105 (fun hc => ?_) (fun hc => ?_)
    · replace h := ob_iff hc h
      refine ob_iload d_Model_formFailure_113 rfl ?_
      refine ob_push d_Model_formFailure_114 ?_
      refine ob_icmp_ne d_Model_formFailure_115 (fun hc => ?_) (fun hc => ?_)
      · replace h := ob_iff hc h
        refine ob_push d_Model_formFailure_132 ?_
        exact ob_ie h (ob_iret d_Model_formFailure_133 rfl rfl)
      · replace h := ob_ift hc h
        refine ob_aload d_Model_formFailure_118 rfl ?_
        obtain ⟨hg8, h⟩ := ob_gd h
        refine ob_getR d_Model_formFailure_119 F_12_32 l_Model_40 hp_v0 hg8 (fun hk7 => ?_)
        refine ob_iload d_Model_formFailure_122 rfl ?_
        obtain ⟨hg9, h⟩ := ob_gd h
        refine ob_zald d_Model_formFailure_123 hk7 hg9 ?_
        refine ob_if_eq d_Model_formFailure_124 (fun hc => ?_) (fun hc => ?_)
        · replace h := ob_ift hc h
          refine ob_push d_Model_formFailure_132 ?_
          exact ob_ie h (ob_iret d_Model_formFailure_133 rfl rfl)
        · replace h := ob_iff hc h
          refine ob_push d_Model_formFailure_127 ?_
          refine ob_goto d_Model_formFailure_129 ?_
          exact ob_ie h (ob_iret d_Model_formFailure_133 rfl rfl)
    · replace h := ob_ift hc h
      refine ob_push d_Model_formFailure_108 ?_
      refine ob_goto d_Model_formFailure_110 ?_
      exact ob_ie h (ob_iret d_Model_formFailure_133 rfl rfl)
  · replace h := ob_ift hc h
    refine ob_aload d_Model_formFailure_11 rfl ?_
    refine ob_push d_Model_formFailure_12 ?_
    obtain ⟨x12, D10, h11, h⟩ := ob_bd_e h
    refine ob_callVi (As := [.int (2 : Int32)]) (rest := []) d_Model_formFailure_13 c_Model_formFailure_302 hp_v0 rfl rfl (Nat.le_of_ble_eq_true rfl) (c_Model_data hp_v0 h11) ⟨Nat.le_refl _, Nat.le_refl _⟩ ⟨Nat.le_refl _, Nat.le_refl _⟩ ?_
    refine ob_istore (lo2 := [(0, .ref v0), (1, .int v1), (2, .int x3), (3, .int x12)]) d_Model_formFailure_16 rfl ?_
    refine ob_aload d_Model_formFailure_17 rfl ?_
    refine ob_push d_Model_formFailure_18 ?_
    obtain ⟨x15, D13, h14, h⟩ := ob_bd_e h
    refine ob_callVi (As := [.int (1 : Int32)]) (rest := []) d_Model_formFailure_19 c_Model_formFailure_302 hp_v0 rfl rfl (Nat.le_of_ble_eq_true rfl) (c_Model_data hp_v0 h14) ⟨Nat.le_refl _, Nat.le_refl _⟩ ⟨Nat.le_refl _, Nat.le_refl _⟩ ?_
    refine ob_if_eq d_Model_formFailure_22 (fun hc => ?_) (fun hc => ?_)
    · replace h := ob_ift hc h
      refine ob_push d_Model_formFailure_35 ?_
      exact ob_ie h (ob_iret d_Model_formFailure_37 rfl rfl)
    · replace h := ob_iff hc h
      refine ob_iload d_Model_formFailure_25 rfl ?_
      refine ob_if_eq d_Model_formFailure_26 (fun hc => ?_) (fun hc => ?_)
      · replace h := ob_ift hc h
        refine ob_push d_Model_formFailure_35 ?_
        exact ob_ie h (ob_iret d_Model_formFailure_37 rfl rfl)
      · replace h := ob_iff hc h
        refine ob_iload d_Model_formFailure_29 rfl ?_
        refine ob_push d_Model_formFailure_30 ?_
        refine ob_icmp_le d_Model_formFailure_32 (fun hc => ?_) (fun hc => ?_)
        · replace h := ob_ift hc h
          refine ob_push d_Model_formFailure_38 ?_
          refine ob_istore (lo2 := [(0, .ref v0), (1, .int v1), (2, .int x3), (3, .int x12), (4, .int (0 : Int32))]) d_Model_formFailure_39 rfl ?_
          refine ob_sub (lo2 := [(0, .ref v0), (2, .int x3), (3, .int x12), (4, .int (0 : Int32))]) [0, 2, 3, 4] rfl ?_
          exact v_Model_formFailure_L41 ob_FU v0 x3 x12 (0 : Int32) D13 hp_v0 h
        · replace h := ob_iff hc h
          refine ob_push d_Model_formFailure_35 ?_
          exact ob_ie h (ob_iret d_Model_formFailure_37 rfl rfl)
-- OrbitBoxModel.dataTwo(I)I
theorem d_Model_dataTwo_4 : ob_dk k_Model_dataTwo 4 6 (11 : Int32) (.bipush 11) 2 := ⟨by decide +kernel, rfl, show (Int8.ofInt 11).toInt32 = (11 : Int32) by decide +kernel⟩
theorem d_Model_dataTwo_11 : ob_dc k_Model_dataTwo 11 (.ireturn) 1 12 := ⟨by decide +kernel, rfl⟩
theorem d_Model_dataTwo_8 : ob_dc k_Model_dataTwo 8 (.invokestatic 180) 3 11 := ⟨by decide +kernel, rfl⟩
theorem d_Model_dataTwo_7 : ob_dc k_Model_dataTwo 7 (.iadd) 1 8 := ⟨by decide +kernel, rfl⟩
theorem d_Model_dataTwo_6 : ob_dv ob_lc k_Model_dataTwo 6 7 1 (.iload_n 1) 1 := ⟨by decide +kernel, rfl, rfl⟩
theorem d_Model_dataTwo_1 : ob_dc k_Model_dataTwo 1 (.getfield 34) 3 4 := ⟨by decide +kernel, rfl⟩
theorem d_Model_dataTwo_0 : ob_dv ob_ac k_Model_dataTwo 0 1 0 (.aload_n 0) 1 := ⟨by decide +kernel, rfl, rfl⟩
theorem c_Model_dataTwo_180 : ob_sd k_Model_dataTwo k_Model_two 180 2 := ⟨cw_Model_two, yd_Model_two, w_1400, w_1401, w_14, by decide, by decide⟩
def f_Model_dataTwo (S : ob_S) (v0 : Nat) (v1 : Int32) (D : ob_D) : Option (Int32 × ob_D) :=
  if D.2.1 v0 27 ≠ 0 then ob_bd (f_Model_two S (D.2.1 v0 27) ((11 : Int32) + v1) D) fun x5 D3 => some (x5, D3) else none
theorem c_Model_dataTwo {l : Launch} {E : ob_E} {S : ob_S} {D : ob_D} {v0 : Nat} {v1 : Int32} {r : Int32} {D' : ob_D} (hp_v0 : S.1 v0 = 13) (h : f_Model_dataTwo S v0 v1 D = some (r, D')) : ob_M l E k_Model_dataTwo [.ref v0, .int v1] S D (some (.int r)) S D' := by
  refine ob_ofV (lo := [(0, .ref v0), (1, .int v1)]) (by decide) rfl (Nat.le_of_ble_eq_true rfl) rfl (Nat.le_refl _) (Nat.le_refl _) ?_
  rw [f_Model_dataTwo] at h
  refine ob_aload d_Model_dataTwo_0 rfl ?_
  obtain ⟨hg2, h⟩ := ob_gd h
  refine ob_getR d_Model_dataTwo_1 F_12_27 l_Model_34 hp_v0 hg2 (fun hk1 => ?_)
  refine ob_push d_Model_dataTwo_4 ?_
  refine ob_iload d_Model_dataTwo_6 rfl ?_
  refine ob_iadd d_Model_dataTwo_7 ?_
  obtain ⟨x5, D3, h4, h⟩ := ob_bd_e h
  refine ob_callSi (As := [.ref (D.2.1 v0 27), .int ((11 : Int32) + v1)]) (rest := []) d_Model_dataTwo_8 c_Model_dataTwo_180 rfl rfl (Nat.le_of_ble_eq_true rfl) (c_Model_two hk1 h4) ⟨Nat.le_refl _, Nat.le_refl _⟩ ⟨Nat.le_refl _, Nat.le_refl _⟩ ?_
  exact ob_ie h (ob_iret d_Model_dataTwo_11 rfl rfl)
-- OrbitBoxModel.memoryFailure(I)I
theorem d_Model_memoryFailure_1 : ob_dk k_Model_memoryFailure 1 2 (0 : Int32) (.iconst 0) 1 := ⟨by decide +kernel, rfl, show Int32.ofInt 0 = (0 : Int32) by decide +kernel⟩
theorem d_Model_memoryFailure_7 : ob_dk k_Model_memoryFailure 7 9 (9 : Int32) (.bipush 9) 2 := ⟨by decide +kernel, rfl, show (Int8.ofInt 9).toInt32 = (9 : Int32) by decide +kernel⟩
theorem d_Model_memoryFailure_21 : ob_dk k_Model_memoryFailure 21 22 (2 : Int32) (.iconst 2) 1 := ⟨by decide +kernel, rfl, show Int32.ofInt 2 = (2 : Int32) by decide +kernel⟩
theorem d_Model_memoryFailure_39 : ob_dk k_Model_memoryFailure 39 41 (17 : Int32) (.bipush 17) 2 := ⟨by decide +kernel, rfl, show (Int8.ofInt 17).toInt32 = (17 : Int32) by decide +kernel⟩
theorem d_Model_memoryFailure_45 : ob_dc k_Model_memoryFailure 45 (.ireturn) 1 46 := ⟨by decide +kernel, rfl⟩
theorem d_Model_memoryFailure_41 : ob_db k_Model_memoryFailure 41 (.goto 4) 4 44 45 := ⟨by decide +kernel, rfl, by decide⟩
theorem d_Model_memoryFailure_33 : ob_dk k_Model_memoryFailure 33 36 (4096 : Int32) (.sipush 4096) 3 := ⟨by decide +kernel, rfl, show (Int16.ofInt 4096).toInt32 = (4096 : Int32) by decide +kernel⟩
theorem d_Model_memoryFailure_44 : ob_dk k_Model_memoryFailure 44 45 (0 : Int32) (.iconst 0) 1 := ⟨by decide +kernel, rfl, show Int32.ofInt 0 = (0 : Int32) by decide +kernel⟩
theorem d_Model_memoryFailure_36 : ob_db k_Model_memoryFailure 36 (.if_icmp .le 8) 8 39 44 := ⟨by decide +kernel, rfl, by decide⟩
theorem d_Model_memoryFailure_32 : ob_dc k_Model_memoryFailure 32 (.iadd) 1 33 := ⟨by decide +kernel, rfl⟩
theorem d_Model_memoryFailure_31 : ob_dv ob_lc k_Model_memoryFailure 31 32 3 (.iload_n 3) 1 := ⟨by decide +kernel, rfl, rfl⟩
theorem d_Model_memoryFailure_30 : ob_dv ob_lc k_Model_memoryFailure 30 31 2 (.iload_n 2) 1 := ⟨by decide +kernel, rfl, rfl⟩
theorem d_Model_memoryFailure_27 : ob_db k_Model_memoryFailure 27 (.ifCond .eq 12) 12 30 39 := ⟨by decide +kernel, rfl, by decide⟩
theorem d_Model_memoryFailure_26 : ob_dv ob_lc k_Model_memoryFailure 26 27 3 (.iload_n 3) 1 := ⟨by decide +kernel, rfl, rfl⟩
theorem d_Model_memoryFailure_25 : ob_dv (ob_sc k_Model_memoryFailure.2.2.2.1) k_Model_memoryFailure 25 26 3 (.istore_n 3) 1 := ⟨by decide +kernel, rfl, ⟨rfl, by decide +kernel⟩⟩
theorem d_Model_memoryFailure_22 : ob_dc k_Model_memoryFailure 22 (.invokevirtual 302) 3 25 := ⟨by decide +kernel, rfl⟩
theorem d_Model_memoryFailure_20 : ob_dv ob_ac k_Model_memoryFailure 20 21 0 (.aload_n 0) 1 := ⟨by decide +kernel, rfl, rfl⟩
theorem d_Model_memoryFailure_13 : ob_dk k_Model_memoryFailure 13 14 (2 : Int32) (.iconst 2) 1 := ⟨by decide +kernel, rfl, show Int32.ofInt 2 = (2 : Int32) by decide +kernel⟩
theorem d_Model_memoryFailure_17 : ob_db k_Model_memoryFailure 17 (.goto 8) 8 20 25 := ⟨by decide +kernel, rfl, by decide⟩
theorem d_Model_memoryFailure_14 : ob_dc k_Model_memoryFailure 14 (.invokevirtual 357) 3 17 := ⟨by decide +kernel, rfl⟩
theorem d_Model_memoryFailure_12 : ob_dv ob_ac k_Model_memoryFailure 12 13 0 (.aload_n 0) 1 := ⟨by decide +kernel, rfl, rfl⟩
theorem d_Model_memoryFailure_9 : ob_db k_Model_memoryFailure 9 (.if_icmp .ne 11) 11 12 20 := ⟨by decide +kernel, rfl, by decide⟩
theorem d_Model_memoryFailure_6 : ob_dv ob_lc k_Model_memoryFailure 6 7 1 (.iload_n 1) 1 := ⟨by decide +kernel, rfl, rfl⟩
theorem d_Model_memoryFailure_5 : ob_dv (ob_sc k_Model_memoryFailure.2.2.2.1) k_Model_memoryFailure 5 6 2 (.istore_n 2) 1 := ⟨by decide +kernel, rfl, ⟨rfl, by decide +kernel⟩⟩
theorem d_Model_memoryFailure_2 : ob_dc k_Model_memoryFailure 2 (.invokevirtual 357) 3 5 := ⟨by decide +kernel, rfl⟩
theorem d_Model_memoryFailure_0 : ob_dv ob_ac k_Model_memoryFailure 0 1 0 (.aload_n 0) 1 := ⟨by decide +kernel, rfl, rfl⟩
theorem c_Model_memoryFailure_302 : ob_vd k_Model_memoryFailure k_Model_data 302 1 12 := ⟨cw_Model_data, yd_Model_data, w_1504, w_1506, wp_72, w_14, ⟨_, _, rfl⟩, by decide, by decide⟩
theorem c_Model_memoryFailure_357 : ob_vd k_Model_memoryFailure k_Model_dataTwo 357 1 12 := ⟨cw_Model_dataTwo, yd_Model_dataTwo, w_1512, w_1514, wp_74, w_14, ⟨_, _, rfl⟩, by decide, by decide⟩
def f_Model_memoryFailure_L25 (S : ob_S) (v2 : Int32) (s0 : Int32) (D : ob_D) : Option (Int32 × ob_D) :=
  (if s0 = 0 then some ((17 : Int32), D) else (if (v2 + s0) ≤ (4096 : Int32) then some ((0 : Int32), D) else some ((17 : Int32), D)))
theorem v_Model_memoryFailure_L25 {l : Launch} {E : ob_E} {S : ob_S} {r : Int32} {D' : ob_D} : ∀ (v2 : Int32) (s0 : Int32) (D : ob_D), f_Model_memoryFailure_L25 S v2 s0 D = some (r, D') → ob_V l E k_Model_memoryFailure 25 [(2, .int v2)] [.int s0] S D (some (.int r)) S D' := by
  intro v2 s0 D h
  rw [f_Model_memoryFailure_L25] at h
  refine ob_istore (lo2 := [(2, .int v2), (3, .int s0)]) d_Model_memoryFailure_25 rfl ?_
  refine ob_iload d_Model_memoryFailure_26 rfl ?_
  refine ob_if_eq d_Model_memoryFailure_27 (fun hc => ?_) (fun hc => ?_)
  · replace h := ob_ift hc h
    refine ob_push d_Model_memoryFailure_39 ?_
    refine ob_goto d_Model_memoryFailure_41 ?_
    exact ob_ie h (ob_iret d_Model_memoryFailure_45 rfl rfl)
  · replace h := ob_iff hc h
    refine ob_iload d_Model_memoryFailure_30 rfl ?_
    refine ob_iload d_Model_memoryFailure_31 rfl ?_
    refine ob_iadd d_Model_memoryFailure_32 ?_
    refine ob_push d_Model_memoryFailure_33 ?_
    refine ob_icmp_le d_Model_memoryFailure_36 (fun hc => ?_) (fun hc => ?_)
    · replace h := ob_ift hc h
      refine ob_push d_Model_memoryFailure_44 ?_
      exact ob_ie h (ob_iret d_Model_memoryFailure_45 rfl rfl)
    · replace h := ob_iff hc h
      refine ob_push d_Model_memoryFailure_39 ?_
      refine ob_goto d_Model_memoryFailure_41 ?_
      exact ob_ie h (ob_iret d_Model_memoryFailure_45 rfl rfl)
def f_Model_memoryFailure (S : ob_S) (v0 : Nat) (v1 : Int32) (D : ob_D) : Option (Int32 × ob_D) :=
  ob_bd (f_Model_dataTwo S v0 (0 : Int32) D) fun x3 D1 => (if v1 = (9 : Int32) then ob_bd (f_Model_dataTwo S v0 (2 : Int32) D1) fun x9 D7 => f_Model_memoryFailure_L25 S x3 x9 D7 else ob_bd (f_Model_data S v0 (2 : Int32) D1) fun x6 D4 => f_Model_memoryFailure_L25 S x3 x6 D4)
theorem c_Model_memoryFailure {l : Launch} {E : ob_E} {S : ob_S} {D : ob_D} {v0 : Nat} {v1 : Int32} {r : Int32} {D' : ob_D} (hp_v0 : S.1 v0 = 13) (h : f_Model_memoryFailure S v0 v1 D = some (r, D')) : ob_M l E k_Model_memoryFailure [.ref v0, .int v1] S D (some (.int r)) S D' := by
  refine ob_ofV (lo := [(0, .ref v0), (1, .int v1)]) (by decide) rfl (Nat.le_of_ble_eq_true rfl) rfl (Nat.le_refl _) (Nat.le_refl _) ?_
  rw [f_Model_memoryFailure] at h
  refine ob_aload d_Model_memoryFailure_0 rfl ?_
  refine ob_push d_Model_memoryFailure_1 ?_
  obtain ⟨x3, D1, h2, h⟩ := ob_bd_e h
  refine ob_callVi (As := [.int (0 : Int32)]) (rest := []) d_Model_memoryFailure_2 c_Model_memoryFailure_357 hp_v0 rfl rfl (Nat.le_of_ble_eq_true rfl) (c_Model_dataTwo hp_v0 h2) ⟨Nat.le_refl _, Nat.le_refl _⟩ ⟨Nat.le_refl _, Nat.le_refl _⟩ ?_
  refine ob_istore (lo2 := [(0, .ref v0), (1, .int v1), (2, .int x3)]) d_Model_memoryFailure_5 rfl ?_
  refine ob_iload d_Model_memoryFailure_6 rfl ?_
  refine ob_push d_Model_memoryFailure_7 ?_
  refine ob_icmp_ne d_Model_memoryFailure_9 (fun hc => ?_) (fun hc => ?_)
  · replace h := ob_iff hc h
    refine ob_aload d_Model_memoryFailure_20 rfl ?_
    refine ob_push d_Model_memoryFailure_21 ?_
    obtain ⟨x6, D4, h5, h⟩ := ob_bd_e h
    refine ob_callVi (As := [.int (2 : Int32)]) (rest := []) d_Model_memoryFailure_22 c_Model_memoryFailure_302 hp_v0 rfl rfl (Nat.le_of_ble_eq_true rfl) (c_Model_data hp_v0 h5) ⟨Nat.le_refl _, Nat.le_refl _⟩ ⟨Nat.le_refl _, Nat.le_refl _⟩ ?_
    refine ob_sub (lo2 := [(2, .int x3)]) [2] rfl ?_
    exact v_Model_memoryFailure_L25 x3 x6 D4  h
  · replace h := ob_ift hc h
    refine ob_aload d_Model_memoryFailure_12 rfl ?_
    refine ob_push d_Model_memoryFailure_13 ?_
    obtain ⟨x9, D7, h8, h⟩ := ob_bd_e h
    refine ob_callVi (As := [.int (2 : Int32)]) (rest := []) d_Model_memoryFailure_14 c_Model_memoryFailure_357 hp_v0 rfl rfl (Nat.le_of_ble_eq_true rfl) (c_Model_dataTwo hp_v0 h8) ⟨Nat.le_refl _, Nat.le_refl _⟩ ⟨Nat.le_refl _, Nat.le_refl _⟩ ?_
    refine ob_goto d_Model_memoryFailure_17 ?_
    refine ob_sub (lo2 := [(2, .int x3)]) [2] rfl ?_
    exact v_Model_memoryFailure_L25 x3 x9 D7  h
-- OrbitBoxModel.functionFailure()I
theorem d_Model_functionFailure_1 : ob_dk k_Model_functionFailure 1 2 (0 : Int32) (.iconst 0) 1 := ⟨by decide +kernel, rfl, show Int32.ofInt 0 = (0 : Int32) by decide +kernel⟩
theorem d_Model_functionFailure_7 : ob_dk k_Model_functionFailure 7 8 (1 : Int32) (.iconst 1) 1 := ⟨by decide +kernel, rfl, show Int32.ofInt 1 = (1 : Int32) by decide +kernel⟩
theorem d_Model_functionFailure_13 : ob_dk k_Model_functionFailure 13 14 (1 : Int32) (.iconst 1) 1 := ⟨by decide +kernel, rfl, show Int32.ofInt 1 = (1 : Int32) by decide +kernel⟩
theorem d_Model_functionFailure_47 : ob_dk k_Model_functionFailure 47 49 (18 : Int32) (.bipush 18) 2 := ⟨by decide +kernel, rfl, show (Int8.ofInt 18).toInt32 = (18 : Int32) by decide +kernel⟩
theorem d_Model_functionFailure_49 : ob_dc k_Model_functionFailure 49 (.ireturn) 1 50 := ⟨by decide +kernel, rfl⟩
theorem d_Model_functionFailure_18 : ob_dk k_Model_functionFailure 18 19 (3 : Int32) (.iconst 3) 1 := ⟨by decide +kernel, rfl, show Int32.ofInt 3 = (3 : Int32) by decide +kernel⟩
theorem d_Model_functionFailure_24 : ob_dk k_Model_functionFailure 24 25 (1 : Int32) (.iconst 1) 1 := ⟨by decide +kernel, rfl, show Int32.ofInt 1 = (1 : Int32) by decide +kernel⟩
theorem d_Model_functionFailure_34 : ob_dk k_Model_functionFailure 34 35 (2 : Int32) (.iconst 2) 1 := ⟨by decide +kernel, rfl, show Int32.ofInt 2 = (2 : Int32) by decide +kernel⟩
theorem d_Model_functionFailure_42 : ob_dk k_Model_functionFailure 42 44 (31 : Int32) (.bipush 31) 2 := ⟨by decide +kernel, rfl, show (Int8.ofInt 31).toInt32 = (31 : Int32) by decide +kernel⟩
theorem d_Model_functionFailure_51 : ob_dk k_Model_functionFailure 51 52 (1 : Int32) (.iconst 1) 1 := ⟨by decide +kernel, rfl, show Int32.ofInt 1 = (1 : Int32) by decide +kernel⟩
theorem d_Model_functionFailure_63 : ob_dk k_Model_functionFailure 63 64 (2 : Int32) (.iconst 2) 1 := ⟨by decide +kernel, rfl, show Int32.ofInt 2 = (2 : Int32) by decide +kernel⟩
theorem d_Model_functionFailure_84 : ob_dk k_Model_functionFailure 84 85 (0 : Int32) (.iconst 0) 1 := ⟨by decide +kernel, rfl, show Int32.ofInt 0 = (0 : Int32) by decide +kernel⟩
theorem d_Model_functionFailure_85 : ob_dc k_Model_functionFailure 85 (.ireturn) 1 86 := ⟨by decide +kernel, rfl⟩
theorem d_Model_functionFailure_75 : ob_dk k_Model_functionFailure 75 76 (2 : Int32) (.iconst 2) 1 := ⟨by decide +kernel, rfl, show Int32.ofInt 2 = (2 : Int32) by decide +kernel⟩
theorem d_Model_functionFailure_79 : ob_dk k_Model_functionFailure 79 81 (19 : Int32) (.bipush 19) 2 := ⟨by decide +kernel, rfl, show (Int8.ofInt 19).toInt32 = (19 : Int32) by decide +kernel⟩
theorem d_Model_functionFailure_81 : ob_db k_Model_functionFailure 81 (.goto 4) 4 84 85 := ⟨by decide +kernel, rfl, by decide⟩
theorem d_Model_functionFailure_76 : ob_db k_Model_functionFailure 76 (.if_icmp .ne 8) 8 79 84 := ⟨by decide +kernel, rfl, by decide⟩
theorem d_Model_functionFailure_74 : ob_dv ob_lc k_Model_functionFailure 74 75 2 (.iload_n 2) 1 := ⟨by decide +kernel, rfl, rfl⟩
theorem d_Model_functionFailure_71 : ob_db k_Model_functionFailure 71 (.ifCond .ne 13) 13 74 84 := ⟨by decide +kernel, rfl, by decide⟩
theorem d_Model_functionFailure_68 : ob_dc k_Model_functionFailure 68 (.getfield 61) 3 71 := ⟨by decide +kernel, rfl⟩
theorem d_Model_functionFailure_67 : ob_dv ob_ac k_Model_functionFailure 67 68 0 (.aload_n 0) 1 := ⟨by decide +kernel, rfl, rfl⟩
theorem d_Model_functionFailure_64 : ob_db k_Model_functionFailure 64 (.if_icmp .ne 20) 20 67 84 := ⟨by decide +kernel, rfl, by decide⟩
theorem d_Model_functionFailure_62 : ob_dv ob_lc k_Model_functionFailure 62 63 1 (.iload_n 1) 1 := ⟨by decide +kernel, rfl, rfl⟩
theorem d_Model_functionFailure_59 : ob_db k_Model_functionFailure 59 (.ifCond .eq 20) 20 62 79 := ⟨by decide +kernel, rfl, by decide⟩
theorem d_Model_functionFailure_56 : ob_dc k_Model_functionFailure 56 (.getfield 61) 3 59 := ⟨by decide +kernel, rfl⟩
theorem d_Model_functionFailure_55 : ob_dv ob_ac k_Model_functionFailure 55 56 0 (.aload_n 0) 1 := ⟨by decide +kernel, rfl, rfl⟩
theorem d_Model_functionFailure_52 : ob_db k_Model_functionFailure 52 (.if_icmp .ne 10) 10 55 62 := ⟨by decide +kernel, rfl, by decide⟩
theorem d_Model_functionFailure_50 : ob_dv ob_lc k_Model_functionFailure 50 51 1 (.iload_n 1) 1 := ⟨by decide +kernel, rfl, rfl⟩
theorem d_Model_functionFailure_44 : ob_db k_Model_functionFailure 44 (.if_icmp .le 6) 6 47 50 := ⟨by decide +kernel, rfl, by decide⟩
theorem d_Model_functionFailure_38 : ob_dk k_Model_functionFailure 38 39 (2 : Int32) (.iconst 2) 1 := ⟨by decide +kernel, rfl, show Int32.ofInt 2 = (2 : Int32) by decide +kernel⟩
theorem d_Model_functionFailure_39 : ob_db k_Model_functionFailure 39 (.goto 5) 5 42 44 := ⟨by decide +kernel, rfl, by decide⟩
theorem d_Model_functionFailure_35 : ob_db k_Model_functionFailure 35 (.if_icmp .ne 7) 7 38 42 := ⟨by decide +kernel, rfl, by decide⟩
theorem d_Model_functionFailure_33 : ob_dv ob_lc k_Model_functionFailure 33 34 1 (.iload_n 1) 1 := ⟨by decide +kernel, rfl, rfl⟩
theorem d_Model_functionFailure_28 : ob_dk k_Model_functionFailure 28 30 (7 : Int32) (.bipush 7) 2 := ⟨by decide +kernel, rfl, show (Int8.ofInt 7).toInt32 = (7 : Int32) by decide +kernel⟩
theorem d_Model_functionFailure_30 : ob_db k_Model_functionFailure 30 (.goto 14) 14 33 44 := ⟨by decide +kernel, rfl, by decide⟩
theorem d_Model_functionFailure_25 : ob_db k_Model_functionFailure 25 (.if_icmp .ne 8) 8 28 33 := ⟨by decide +kernel, rfl, by decide⟩
theorem d_Model_functionFailure_23 : ob_dv ob_lc k_Model_functionFailure 23 24 1 (.iload_n 1) 1 := ⟨by decide +kernel, rfl, rfl⟩
theorem d_Model_functionFailure_22 : ob_dv ob_lc k_Model_functionFailure 22 23 2 (.iload_n 2) 1 := ⟨by decide +kernel, rfl, rfl⟩
theorem d_Model_functionFailure_19 : ob_db k_Model_functionFailure 19 (.if_icmp .gt 28) 28 22 47 := ⟨by decide +kernel, rfl, by decide⟩
theorem d_Model_functionFailure_17 : ob_dv ob_lc k_Model_functionFailure 17 18 1 (.iload_n 1) 1 := ⟨by decide +kernel, rfl, rfl⟩
theorem d_Model_functionFailure_14 : ob_db k_Model_functionFailure 14 (.if_icmp .lt 33) 33 17 47 := ⟨by decide +kernel, rfl, by decide⟩
theorem d_Model_functionFailure_12 : ob_dv ob_lc k_Model_functionFailure 12 13 1 (.iload_n 1) 1 := ⟨by decide +kernel, rfl, rfl⟩
theorem d_Model_functionFailure_11 : ob_dv (ob_sc k_Model_functionFailure.2.2.2.1) k_Model_functionFailure 11 12 2 (.istore_n 2) 1 := ⟨by decide +kernel, rfl, ⟨rfl, by decide +kernel⟩⟩
theorem d_Model_functionFailure_8 : ob_dc k_Model_functionFailure 8 (.invokevirtual 302) 3 11 := ⟨by decide +kernel, rfl⟩
theorem d_Model_functionFailure_6 : ob_dv ob_ac k_Model_functionFailure 6 7 0 (.aload_n 0) 1 := ⟨by decide +kernel, rfl, rfl⟩
theorem d_Model_functionFailure_5 : ob_dv (ob_sc k_Model_functionFailure.2.2.2.1) k_Model_functionFailure 5 6 1 (.istore_n 1) 1 := ⟨by decide +kernel, rfl, ⟨rfl, by decide +kernel⟩⟩
theorem d_Model_functionFailure_2 : ob_dc k_Model_functionFailure 2 (.invokevirtual 302) 3 5 := ⟨by decide +kernel, rfl⟩
theorem d_Model_functionFailure_0 : ob_dv ob_ac k_Model_functionFailure 0 1 0 (.aload_n 0) 1 := ⟨by decide +kernel, rfl, rfl⟩
theorem c_Model_functionFailure_302 : ob_vd k_Model_functionFailure k_Model_data 302 1 12 := ⟨cw_Model_data, yd_Model_data, w_1504, w_1506, wp_72, w_14, ⟨_, _, rfl⟩, by decide, by decide⟩
def f_Model_functionFailure_L62 (S : ob_S) (v0 : Nat) (v1 : Int32) (v2 : Int32) (D : ob_D) : Option (Int32 × ob_D) :=
  (if v1 = (2 : Int32) then (if (D.1 v0 40) = 0 then (if v2 = (2 : Int32) then some ((19 : Int32), D) else some ((0 : Int32), D)) else some ((0 : Int32), D)) else some ((0 : Int32), D))
theorem v_Model_functionFailure_L62 {l : Launch} {E : ob_E} {S : ob_S} {r : Int32} {D' : ob_D} : ∀ (v0 : Nat) (v1 : Int32) (v2 : Int32) (D : ob_D), S.1 v0 = 13 → f_Model_functionFailure_L62 S v0 v1 v2 D = some (r, D') → ob_V l E k_Model_functionFailure 62 [(0, .ref v0), (1, .int v1), (2, .int v2)] [] S D (some (.int r)) S D' := by
  intro v0 v1 v2 D hp_v0 h
  rw [f_Model_functionFailure_L62] at h
  refine ob_iload d_Model_functionFailure_62 rfl ?_
  refine ob_push d_Model_functionFailure_63 ?_
  refine ob_icmp_ne d_Model_functionFailure_64 (fun hc => ?_) (fun hc => ?_)
  · replace h := ob_iff hc h
    refine ob_push d_Model_functionFailure_84 ?_
    exact ob_ie h (ob_iret d_Model_functionFailure_85 rfl rfl)
  · replace h := ob_ift hc h
    refine ob_aload d_Model_functionFailure_67 rfl ?_
    refine ob_getI d_Model_functionFailure_68 F_12_40 l_Model_61 hp_v0 ?_
    refine ob_if_ne d_Model_functionFailure_71 (fun hc => ?_) (fun hc => ?_)
    · replace h := ob_iff hc h
      refine ob_push d_Model_functionFailure_84 ?_
      exact ob_ie h (ob_iret d_Model_functionFailure_85 rfl rfl)
    · replace h := ob_ift hc h
      refine ob_iload d_Model_functionFailure_74 rfl ?_
      refine ob_push d_Model_functionFailure_75 ?_
      refine ob_icmp_ne d_Model_functionFailure_76 (fun hc => ?_) (fun hc => ?_)
      · replace h := ob_iff hc h
        refine ob_push d_Model_functionFailure_84 ?_
        exact ob_ie h (ob_iret d_Model_functionFailure_85 rfl rfl)
      · replace h := ob_ift hc h
        refine ob_push d_Model_functionFailure_79 ?_
        refine ob_goto d_Model_functionFailure_81 ?_
        exact ob_ie h (ob_iret d_Model_functionFailure_85 rfl rfl)
def f_Model_functionFailure_L44 (S : ob_S) (v0 : Nat) (v1 : Int32) (v2 : Int32) (s0 : Int32) (s1 : Int32) (D : ob_D) : Option (Int32 × ob_D) :=
  (if s1 ≤ s0 then (if v1 = (1 : Int32) then (if (D.1 v0 40) = 0 then some ((19 : Int32), D) else f_Model_functionFailure_L62 S v0 v1 v2 D) else f_Model_functionFailure_L62 S v0 v1 v2 D) else some ((18 : Int32), D))
theorem v_Model_functionFailure_L44 {l : Launch} {E : ob_E} {S : ob_S} {r : Int32} {D' : ob_D} : ∀ (v0 : Nat) (v1 : Int32) (v2 : Int32) (s0 : Int32) (s1 : Int32) (D : ob_D), S.1 v0 = 13 → f_Model_functionFailure_L44 S v0 v1 v2 s0 s1 D = some (r, D') → ob_V l E k_Model_functionFailure 44 [(0, .ref v0), (1, .int v1), (2, .int v2)] [.int s0, .int s1] S D (some (.int r)) S D' := by
  intro v0 v1 v2 s0 s1 D hp_v0 h
  rw [f_Model_functionFailure_L44] at h
  refine ob_icmp_le d_Model_functionFailure_44 (fun hc => ?_) (fun hc => ?_)
  · replace h := ob_ift hc h
    refine ob_iload d_Model_functionFailure_50 rfl ?_
    refine ob_push d_Model_functionFailure_51 ?_
    refine ob_icmp_ne d_Model_functionFailure_52 (fun hc => ?_) (fun hc => ?_)
    · replace h := ob_iff hc h
      exact v_Model_functionFailure_L62 v0 v1 v2 D hp_v0 h
    · replace h := ob_ift hc h
      refine ob_aload d_Model_functionFailure_55 rfl ?_
      refine ob_getI d_Model_functionFailure_56 F_12_40 l_Model_61 hp_v0 ?_
      refine ob_if_eq d_Model_functionFailure_59 (fun hc => ?_) (fun hc => ?_)
      · replace h := ob_ift hc h
        refine ob_push d_Model_functionFailure_79 ?_
        refine ob_goto d_Model_functionFailure_81 ?_
        exact ob_ie h (ob_iret d_Model_functionFailure_85 rfl rfl)
      · replace h := ob_iff hc h
        exact v_Model_functionFailure_L62 v0 v1 v2 D hp_v0 h
  · replace h := ob_iff hc h
    refine ob_push d_Model_functionFailure_47 ?_
    exact ob_ie h (ob_iret d_Model_functionFailure_49 rfl rfl)
def f_Model_functionFailure (S : ob_S) (v0 : Nat) (D : ob_D) : Option (Int32 × ob_D) :=
  ob_bd (f_Model_data S v0 (0 : Int32) D) fun x3 D1 => ob_bd (f_Model_data S v0 (1 : Int32) D1) fun x6 D4 => (if x3 < (1 : Int32) then some ((18 : Int32), D4) else (if (3 : Int32) < x3 then some ((18 : Int32), D4) else (if x3 = (1 : Int32) then f_Model_functionFailure_L44 S v0 x3 x6 (7 : Int32) x6 D4 else (if x3 = (2 : Int32) then f_Model_functionFailure_L44 S v0 x3 x6 (2 : Int32) x6 D4 else f_Model_functionFailure_L44 S v0 x3 x6 (31 : Int32) x6 D4))))
theorem c_Model_functionFailure {l : Launch} {E : ob_E} {S : ob_S} {D : ob_D} {v0 : Nat} {r : Int32} {D' : ob_D} (hp_v0 : S.1 v0 = 13) (h : f_Model_functionFailure S v0 D = some (r, D')) : ob_M l E k_Model_functionFailure [.ref v0] S D (some (.int r)) S D' := by
  refine ob_ofV (lo := [(0, .ref v0)]) (by decide) rfl (Nat.le_of_ble_eq_true rfl) rfl (Nat.le_refl _) (Nat.le_refl _) ?_
  rw [f_Model_functionFailure] at h
  refine ob_aload d_Model_functionFailure_0 rfl ?_
  refine ob_push d_Model_functionFailure_1 ?_
  obtain ⟨x3, D1, h2, h⟩ := ob_bd_e h
  refine ob_callVi (As := [.int (0 : Int32)]) (rest := []) d_Model_functionFailure_2 c_Model_functionFailure_302 hp_v0 rfl rfl (Nat.le_of_ble_eq_true rfl) (c_Model_data hp_v0 h2) ⟨Nat.le_refl _, Nat.le_refl _⟩ ⟨Nat.le_refl _, Nat.le_refl _⟩ ?_
  refine ob_istore (lo2 := [(0, .ref v0), (1, .int x3)]) d_Model_functionFailure_5 rfl ?_
  refine ob_aload d_Model_functionFailure_6 rfl ?_
  refine ob_push d_Model_functionFailure_7 ?_
  obtain ⟨x6, D4, h5, h⟩ := ob_bd_e h
  refine ob_callVi (As := [.int (1 : Int32)]) (rest := []) d_Model_functionFailure_8 c_Model_functionFailure_302 hp_v0 rfl rfl (Nat.le_of_ble_eq_true rfl) (c_Model_data hp_v0 h5) ⟨Nat.le_refl _, Nat.le_refl _⟩ ⟨Nat.le_refl _, Nat.le_refl _⟩ ?_
  refine ob_istore (lo2 := [(0, .ref v0), (1, .int x3), (2, .int x6)]) d_Model_functionFailure_11 rfl ?_
  refine ob_iload d_Model_functionFailure_12 rfl ?_
  refine ob_push d_Model_functionFailure_13 ?_
  refine ob_icmp_lt d_Model_functionFailure_14 (fun hc => ?_) (fun hc => ?_)
  · replace h := ob_ift hc h
    refine ob_push d_Model_functionFailure_47 ?_
    exact ob_ie h (ob_iret d_Model_functionFailure_49 rfl rfl)
  · replace h := ob_iff hc h
    refine ob_iload d_Model_functionFailure_17 rfl ?_
    refine ob_push d_Model_functionFailure_18 ?_
    refine ob_icmp_gt d_Model_functionFailure_19 (fun hc => ?_) (fun hc => ?_)
    · replace h := ob_ift hc h
      refine ob_push d_Model_functionFailure_47 ?_
      exact ob_ie h (ob_iret d_Model_functionFailure_49 rfl rfl)
    · replace h := ob_iff hc h
      refine ob_iload d_Model_functionFailure_22 rfl ?_
      refine ob_iload d_Model_functionFailure_23 rfl ?_
      refine ob_push d_Model_functionFailure_24 ?_
      refine ob_icmp_ne d_Model_functionFailure_25 (fun hc => ?_) (fun hc => ?_)
      · replace h := ob_iff hc h
        refine ob_iload d_Model_functionFailure_33 rfl ?_
        refine ob_push d_Model_functionFailure_34 ?_
        refine ob_icmp_ne d_Model_functionFailure_35 (fun hc => ?_) (fun hc => ?_)
        · replace h := ob_iff hc h
          refine ob_push d_Model_functionFailure_42 ?_
          exact v_Model_functionFailure_L44 v0 x3 x6 (31 : Int32) x6 D4 hp_v0 h
        · replace h := ob_ift hc h
          refine ob_push d_Model_functionFailure_38 ?_
          refine ob_goto d_Model_functionFailure_39 ?_
          exact v_Model_functionFailure_L44 v0 x3 x6 (2 : Int32) x6 D4 hp_v0 h
      · replace h := ob_ift hc h
        refine ob_push d_Model_functionFailure_28 ?_
        refine ob_goto d_Model_functionFailure_30 ?_
        exact v_Model_functionFailure_L44 v0 x3 x6 (7 : Int32) x6 D4 hp_v0 h
-- OrbitBoxModel.four([BI)I
theorem d_Model_four_5 : ob_dk k_Model_four 5 7 (16 : Int32) (.bipush 16) 2 := ⟨by decide +kernel, rfl, show (Int8.ofInt 16).toInt32 = (16 : Int32) by decide +kernel⟩
theorem d_Model_four_10 : ob_dk k_Model_four 10 11 (2 : Int32) (.iconst 2) 1 := ⟨by decide +kernel, rfl, show Int32.ofInt 2 = (2 : Int32) by decide +kernel⟩
theorem d_Model_four_16 : ob_dc k_Model_four 16 (.ireturn) 1 17 := ⟨by decide +kernel, rfl⟩
theorem d_Model_four_15 : ob_dc k_Model_four 15 (.ior) 1 16 := ⟨by decide +kernel, rfl⟩
theorem d_Model_four_12 : ob_dc k_Model_four 12 (.invokestatic 180) 3 15 := ⟨by decide +kernel, rfl⟩
theorem d_Model_four_11 : ob_dc k_Model_four 11 (.iadd) 1 12 := ⟨by decide +kernel, rfl⟩
theorem d_Model_four_9 : ob_dv ob_lc k_Model_four 9 10 1 (.iload_n 1) 1 := ⟨by decide +kernel, rfl, rfl⟩
theorem d_Model_four_8 : ob_dv ob_ac k_Model_four 8 9 0 (.aload_n 0) 1 := ⟨by decide +kernel, rfl, rfl⟩
theorem d_Model_four_7 : ob_dc k_Model_four 7 (.ishl) 1 8 := ⟨by decide +kernel, rfl⟩
theorem d_Model_four_2 : ob_dc k_Model_four 2 (.invokestatic 180) 3 5 := ⟨by decide +kernel, rfl⟩
theorem d_Model_four_1 : ob_dv ob_lc k_Model_four 1 2 1 (.iload_n 1) 1 := ⟨by decide +kernel, rfl, rfl⟩
theorem d_Model_four_0 : ob_dv ob_ac k_Model_four 0 1 0 (.aload_n 0) 1 := ⟨by decide +kernel, rfl, rfl⟩
theorem c_Model_four_180 : ob_sd k_Model_four k_Model_two 180 2 := ⟨cw_Model_two, yd_Model_two, w_1400, w_1401, w_14, by decide, by decide⟩
def f_Model_four (S : ob_S) (v0 : Nat) (v1 : Int32) (D : ob_D) : Option (Int32 × ob_D) :=
  ob_bd (f_Model_two S v0 v1 D) fun x3 D1 => ob_bd (f_Model_two S v0 (v1 + (2 : Int32)) D1) fun x6 D4 => some ((x3 <<< ((16 : Int32) &&& 31)) ||| x6, D4)
theorem c_Model_four {l : Launch} {E : ob_E} {S : ob_S} {D : ob_D} {v0 : Nat} {v1 : Int32} {r : Int32} {D' : ob_D} (hp_v0 : S.1 v0 = 21) (h : f_Model_four S v0 v1 D = some (r, D')) : ob_M l E k_Model_four [.ref v0, .int v1] S D (some (.int r)) S D' := by
  refine ob_ofV (lo := [(0, .ref v0), (1, .int v1)]) (by decide) rfl (Nat.le_of_ble_eq_true rfl) rfl (Nat.le_refl _) (Nat.le_refl _) ?_
  rw [f_Model_four] at h
  refine ob_aload d_Model_four_0 rfl ?_
  refine ob_iload d_Model_four_1 rfl ?_
  obtain ⟨x3, D1, h2, h⟩ := ob_bd_e h
  refine ob_callSi (As := [.ref v0, .int v1]) (rest := []) d_Model_four_2 c_Model_four_180 rfl rfl (Nat.le_of_ble_eq_true rfl) (c_Model_two hp_v0 h2) ⟨Nat.le_refl _, Nat.le_refl _⟩ ⟨Nat.le_refl _, Nat.le_refl _⟩ ?_
  refine ob_push d_Model_four_5 ?_
  refine ob_ishl d_Model_four_7 ?_
  refine ob_aload d_Model_four_8 rfl ?_
  refine ob_iload d_Model_four_9 rfl ?_
  refine ob_push d_Model_four_10 ?_
  refine ob_iadd d_Model_four_11 ?_
  obtain ⟨x6, D4, h5, h⟩ := ob_bd_e h
  refine ob_callSi (As := [.ref v0, .int (v1 + (2 : Int32))]) (rest := [.int (x3 <<< ((16 : Int32) &&& 31))]) d_Model_four_12 c_Model_four_180 rfl rfl (Nat.le_of_ble_eq_true rfl) (c_Model_two hp_v0 h5) ⟨Nat.le_refl _, Nat.le_refl _⟩ ⟨Nat.le_refl _, Nat.le_refl _⟩ ?_
  refine ob_ior d_Model_four_15 ?_
  exact ob_ie h (ob_iret d_Model_four_16 rfl rfl)
-- OrbitBoxModel.dataFour(I)I
theorem d_Model_dataFour_4 : ob_dk k_Model_dataFour 4 6 (11 : Int32) (.bipush 11) 2 := ⟨by decide +kernel, rfl, show (Int8.ofInt 11).toInt32 = (11 : Int32) by decide +kernel⟩
theorem d_Model_dataFour_11 : ob_dc k_Model_dataFour 11 (.ireturn) 1 12 := ⟨by decide +kernel, rfl⟩
theorem d_Model_dataFour_8 : ob_dc k_Model_dataFour 8 (.invokestatic 261) 3 11 := ⟨by decide +kernel, rfl⟩
theorem d_Model_dataFour_7 : ob_dc k_Model_dataFour 7 (.iadd) 1 8 := ⟨by decide +kernel, rfl⟩
theorem d_Model_dataFour_6 : ob_dv ob_lc k_Model_dataFour 6 7 1 (.iload_n 1) 1 := ⟨by decide +kernel, rfl, rfl⟩
theorem d_Model_dataFour_1 : ob_dc k_Model_dataFour 1 (.getfield 34) 3 4 := ⟨by decide +kernel, rfl⟩
theorem d_Model_dataFour_0 : ob_dv ob_ac k_Model_dataFour 0 1 0 (.aload_n 0) 1 := ⟨by decide +kernel, rfl, rfl⟩
theorem c_Model_dataFour_261 : ob_sd k_Model_dataFour k_Model_four 261 2 := ⟨cw_Model_four, yd_Model_four, w_1528, w_1529, w_14, by decide, by decide⟩
def f_Model_dataFour (S : ob_S) (v0 : Nat) (v1 : Int32) (D : ob_D) : Option (Int32 × ob_D) :=
  if D.2.1 v0 27 ≠ 0 then ob_bd (f_Model_four S (D.2.1 v0 27) ((11 : Int32) + v1) D) fun x5 D3 => some (x5, D3) else none
theorem c_Model_dataFour {l : Launch} {E : ob_E} {S : ob_S} {D : ob_D} {v0 : Nat} {v1 : Int32} {r : Int32} {D' : ob_D} (hp_v0 : S.1 v0 = 13) (h : f_Model_dataFour S v0 v1 D = some (r, D')) : ob_M l E k_Model_dataFour [.ref v0, .int v1] S D (some (.int r)) S D' := by
  refine ob_ofV (lo := [(0, .ref v0), (1, .int v1)]) (by decide) rfl (Nat.le_of_ble_eq_true rfl) rfl (Nat.le_refl _) (Nat.le_refl _) ?_
  rw [f_Model_dataFour] at h
  refine ob_aload d_Model_dataFour_0 rfl ?_
  obtain ⟨hg2, h⟩ := ob_gd h
  refine ob_getR d_Model_dataFour_1 F_12_27 l_Model_34 hp_v0 hg2 (fun hk1 => ?_)
  refine ob_push d_Model_dataFour_4 ?_
  refine ob_iload d_Model_dataFour_6 rfl ?_
  refine ob_iadd d_Model_dataFour_7 ?_
  obtain ⟨x5, D3, h4, h⟩ := ob_bd_e h
  refine ob_callSi (As := [.ref (D.2.1 v0 27), .int ((11 : Int32) + v1)]) (rest := []) d_Model_dataFour_8 c_Model_dataFour_261 rfl rfl (Nat.le_of_ble_eq_true rfl) (c_Model_four hk1 h4) ⟨Nat.le_refl _, Nat.le_refl _⟩ ⟨Nat.le_refl _, Nat.le_refl _⟩ ?_
  exact ob_ie h (ob_iret d_Model_dataFour_11 rfl rfl)
-- OrbitBoxModel.entryNumber(I)I
theorem d_Model_entryNumber_4 : ob_dk k_Model_entryNumber 4 7 (260 : Int32) (.sipush 260) 3 := ⟨by decide +kernel, rfl, show (Int16.ofInt 260).toInt32 = (260 : Int32) by decide +kernel⟩
theorem d_Model_entryNumber_9 : ob_dk k_Model_entryNumber 9 10 (2 : Int32) (.iconst 2) 1 := ⟨by decide +kernel, rfl, show Int32.ofInt 2 = (2 : Int32) by decide +kernel⟩
theorem d_Model_entryNumber_14 : ob_dk k_Model_entryNumber 14 17 (16383 : Int32) (.sipush 16383) 3 := ⟨by decide +kernel, rfl, show (Int16.ofInt 16383).toInt32 = (16383 : Int32) by decide +kernel⟩
theorem d_Model_entryNumber_18 : ob_dc k_Model_entryNumber 18 (.ireturn) 1 19 := ⟨by decide +kernel, rfl⟩
theorem d_Model_entryNumber_17 : ob_dc k_Model_entryNumber 17 (.iand) 1 18 := ⟨by decide +kernel, rfl⟩
theorem d_Model_entryNumber_11 : ob_dc k_Model_entryNumber 11 (.invokestatic 180) 3 14 := ⟨by decide +kernel, rfl⟩
theorem d_Model_entryNumber_10 : ob_dc k_Model_entryNumber 10 (.iadd) 1 11 := ⟨by decide +kernel, rfl⟩
theorem d_Model_entryNumber_8 : ob_dc k_Model_entryNumber 8 (.imul) 1 9 := ⟨by decide +kernel, rfl⟩
theorem d_Model_entryNumber_7 : ob_dv ob_lc k_Model_entryNumber 7 8 1 (.iload_n 1) 1 := ⟨by decide +kernel, rfl, rfl⟩
theorem d_Model_entryNumber_1 : ob_dc k_Model_entryNumber 1 (.getfield 70) 3 4 := ⟨by decide +kernel, rfl⟩
theorem d_Model_entryNumber_0 : ob_dv ob_ac k_Model_entryNumber 0 1 0 (.aload_n 0) 1 := ⟨by decide +kernel, rfl, rfl⟩
theorem c_Model_entryNumber_180 : ob_sd k_Model_entryNumber k_Model_two 180 2 := ⟨cw_Model_two, yd_Model_two, w_1400, w_1401, w_14, by decide, by decide⟩
def f_Model_entryNumber (S : ob_S) (v0 : Nat) (v1 : Int32) (D : ob_D) : Option (Int32 × ob_D) :=
  if D.2.1 v0 44 ≠ 0 then ob_bd (f_Model_two S (D.2.1 v0 44) (((260 : Int32) * v1) + (2 : Int32)) D) fun x5 D3 => some (x5 &&& (16383 : Int32), D3) else none
theorem c_Model_entryNumber {l : Launch} {E : ob_E} {S : ob_S} {D : ob_D} {v0 : Nat} {v1 : Int32} {r : Int32} {D' : ob_D} (hp_v0 : S.1 v0 = 13) (h : f_Model_entryNumber S v0 v1 D = some (r, D')) : ob_M l E k_Model_entryNumber [.ref v0, .int v1] S D (some (.int r)) S D' := by
  refine ob_ofV (lo := [(0, .ref v0), (1, .int v1)]) (by decide) rfl (Nat.le_of_ble_eq_true rfl) rfl (Nat.le_refl _) (Nat.le_refl _) ?_
  rw [f_Model_entryNumber] at h
  refine ob_aload d_Model_entryNumber_0 rfl ?_
  obtain ⟨hg2, h⟩ := ob_gd h
  refine ob_getR d_Model_entryNumber_1 F_12_44 l_Model_70 hp_v0 hg2 (fun hk1 => ?_)
  refine ob_push d_Model_entryNumber_4 ?_
  refine ob_iload d_Model_entryNumber_7 rfl ?_
  refine ob_imul d_Model_entryNumber_8 ?_
  refine ob_push d_Model_entryNumber_9 ?_
  refine ob_iadd d_Model_entryNumber_10 ?_
  obtain ⟨x5, D3, h4, h⟩ := ob_bd_e h
  refine ob_callSi (As := [.ref (D.2.1 v0 44), .int (((260 : Int32) * v1) + (2 : Int32))]) (rest := []) d_Model_entryNumber_11 c_Model_entryNumber_180 rfl rfl (Nat.le_of_ble_eq_true rfl) (c_Model_two hk1 h4) ⟨Nat.le_refl _, Nat.le_refl _⟩ ⟨Nat.le_refl _, Nat.le_refl _⟩ ?_
  refine ob_push d_Model_entryNumber_14 ?_
  refine ob_iand d_Model_entryNumber_17 ?_
  exact ob_ie h (ob_iret d_Model_entryNumber_18 rfl rfl)
-- OrbitBoxModel.tableFailure(I)I
theorem d_Model_tableFailure_1 : ob_dk k_Model_tableFailure 1 2 (4 : Int32) (.iconst 4) 1 := ⟨by decide +kernel, rfl, show Int32.ofInt 4 = (4 : Int32) by decide +kernel⟩
theorem d_Model_tableFailure_63 : ob_dk k_Model_tableFailure 63 64 (5 : Int32) (.iconst 5) 1 := ⟨by decide +kernel, rfl, show Int32.ofInt 5 = (5 : Int32) by decide +kernel⟩
theorem d_Model_tableFailure_106 : ob_dk k_Model_tableFailure 106 108 (15 : Int32) (.bipush 15) 2 := ⟨by decide +kernel, rfl, show (Int8.ofInt 15).toInt32 = (15 : Int32) by decide +kernel⟩
theorem d_Model_tableFailure_163 : ob_dk k_Model_tableFailure 163 164 (0 : Int32) (.iconst 0) 1 := ⟨by decide +kernel, rfl, show Int32.ofInt 0 = (0 : Int32) by decide +kernel⟩
theorem d_Model_tableFailure_164 : ob_dc k_Model_tableFailure 164 (.ireturn) 1 165 := ⟨by decide +kernel, rfl⟩
theorem d_Model_tableFailure_111 : ob_dk k_Model_tableFailure 111 112 (0 : Int32) (.iconst 0) 1 := ⟨by decide +kernel, rfl, show Int32.ofInt 0 = (0 : Int32) by decide +kernel⟩
theorem d_Model_tableFailure_129 : ob_dk k_Model_tableFailure 129 130 (0 : Int32) (.iconst 0) 1 := ⟨by decide +kernel, rfl, show Int32.ofInt 0 = (0 : Int32) by decide +kernel⟩
theorem d_Model_tableFailure_154 : ob_dk k_Model_tableFailure 154 156 (24 : Int32) (.bipush 24) 2 := ⟨by decide +kernel, rfl, show (Int8.ofInt 24).toInt32 = (24 : Int32) by decide +kernel⟩
theorem d_Model_tableFailure_156 : ob_dc k_Model_tableFailure 156 (.ireturn) 1 157 := ⟨by decide +kernel, rfl⟩
theorem d_Model_tableFailure_157 : ob_di k_Model_tableFailure 157 160 2 1 (1 : Int32) := ⟨by decide +kernel, rfl, by decide +kernel, by decide +kernel⟩
theorem d_Model_tableFailure_160 : ob_db k_Model_tableFailure 160 (.goto (-47)) (-47) 163 113 := ⟨by decide +kernel, rfl, by decide⟩
theorem d_Model_tableFailure_151 : ob_db k_Model_tableFailure 151 (.ifCond .le 6) 6 154 157 := ⟨by decide +kernel, rfl, by decide⟩
theorem d_Model_tableFailure_150 : ob_dc k_Model_tableFailure 150 (.lcmp) 1 151 := ⟨by decide +kernel, rfl⟩
theorem d_Model_tableFailure_147 : ob_dc k_Model_tableFailure 147 (.ldc2_w 378) 3 150 := ⟨by decide +kernel, rfl⟩
theorem d_Model_tableFailure_146 : ob_dv ob_jc k_Model_tableFailure 146 147 3 (.lload_n 3) 1 := ⟨by decide +kernel, rfl, rfl⟩
theorem d_Model_tableFailure_143 : ob_db k_Model_tableFailure 143 (.ifCond .le 11) 11 146 154 := ⟨by decide +kernel, rfl, by decide⟩
theorem d_Model_tableFailure_142 : ob_dc k_Model_tableFailure 142 (.lcmp) 1 143 := ⟨by decide +kernel, rfl⟩
theorem d_Model_tableFailure_141 : ob_dc k_Model_tableFailure 141 (.i2l) 1 142 := ⟨by decide +kernel, rfl⟩
theorem d_Model_tableFailure_138 : ob_dc k_Model_tableFailure 138 (.getfield 372) 3 141 := ⟨by decide +kernel, rfl⟩
theorem d_Model_tableFailure_137 : ob_dv ob_ac k_Model_tableFailure 137 138 0 (.aload_n 0) 1 := ⟨by decide +kernel, rfl, rfl⟩
theorem d_Model_tableFailure_136 : ob_dv ob_jc k_Model_tableFailure 136 137 3 (.lload_n 3) 1 := ⟨by decide +kernel, rfl, rfl⟩
theorem d_Model_tableFailure_135 : ob_dv (ob_uc k_Model_tableFailure.2.2.2.1) k_Model_tableFailure 135 136 3 (.lstore_n 3) 1 := ⟨by decide +kernel, rfl, ⟨rfl, by decide +kernel⟩⟩
theorem d_Model_tableFailure_134 : ob_dc k_Model_tableFailure 134 (.ladd) 1 135 := ⟨by decide +kernel, rfl⟩
theorem d_Model_tableFailure_133 : ob_dc k_Model_tableFailure 133 (.i2l) 1 134 := ⟨by decide +kernel, rfl⟩
theorem d_Model_tableFailure_130 : ob_dc k_Model_tableFailure 130 (.invokevirtual 360) 3 133 := ⟨by decide +kernel, rfl⟩
theorem d_Model_tableFailure_128 : ob_dv ob_ac k_Model_tableFailure 128 129 0 (.aload_n 0) 1 := ⟨by decide +kernel, rfl, rfl⟩
theorem d_Model_tableFailure_127 : ob_dc k_Model_tableFailure 127 (.i2l) 1 128 := ⟨by decide +kernel, rfl⟩
theorem d_Model_tableFailure_126 : ob_dc k_Model_tableFailure 126 (.iaload) 1 127 := ⟨by decide +kernel, rfl⟩
theorem d_Model_tableFailure_125 : ob_dv ob_lc k_Model_tableFailure 125 126 2 (.iload_n 2) 1 := ⟨by decide +kernel, rfl, rfl⟩
theorem d_Model_tableFailure_122 : ob_dc k_Model_tableFailure 122 (.getfield 64) 3 125 := ⟨by decide +kernel, rfl⟩
theorem d_Model_tableFailure_121 : ob_dv ob_ac k_Model_tableFailure 121 122 0 (.aload_n 0) 1 := ⟨by decide +kernel, rfl, rfl⟩
theorem d_Model_tableFailure_118 : ob_db k_Model_tableFailure 118 (.if_icmp .ge 45) 45 121 163 := ⟨by decide +kernel, rfl, by decide⟩
theorem d_Model_tableFailure_115 : ob_dc k_Model_tableFailure 115 (.getfield 369) 3 118 := ⟨by decide +kernel, rfl⟩
theorem d_Model_tableFailure_114 : ob_dv ob_ac k_Model_tableFailure 114 115 0 (.aload_n 0) 1 := ⟨by decide +kernel, rfl, rfl⟩
theorem d_Model_tableFailure_113 : ob_dv ob_lc k_Model_tableFailure 113 114 2 (.iload_n 2) 1 := ⟨by decide +kernel, rfl, rfl⟩
theorem d_Model_tableFailure_112 : ob_dv (ob_sc k_Model_tableFailure.2.2.2.1) k_Model_tableFailure 112 113 2 (.istore_n 2) 1 := ⟨by decide +kernel, rfl, ⟨rfl, by decide +kernel⟩⟩
theorem d_Model_tableFailure_108 : ob_db k_Model_tableFailure 108 (.if_icmp .ne 55) 55 111 163 := ⟨by decide +kernel, rfl, by decide⟩
theorem d_Model_tableFailure_105 : ob_dv ob_lc k_Model_tableFailure 105 106 1 (.iload_n 1) 1 := ⟨by decide +kernel, rfl, rfl⟩
theorem d_Model_tableFailure_67 : ob_dk k_Model_tableFailure 67 68 (0 : Int32) (.iconst 0) 1 := ⟨by decide +kernel, rfl, show Int32.ofInt 0 = (0 : Int32) by decide +kernel⟩
theorem d_Model_tableFailure_102 : ob_dk k_Model_tableFailure 102 104 (23 : Int32) (.bipush 23) 2 := ⟨by decide +kernel, rfl, show (Int8.ofInt 23).toInt32 = (23 : Int32) by decide +kernel⟩
theorem d_Model_tableFailure_104 : ob_dc k_Model_tableFailure 104 (.ireturn) 1 105 := ⟨by decide +kernel, rfl⟩
theorem d_Model_tableFailure_83 : ob_dk k_Model_tableFailure 83 84 (0 : Int32) (.iconst 0) 1 := ⟨by decide +kernel, rfl, show Int32.ofInt 0 = (0 : Int32) by decide +kernel⟩
theorem d_Model_tableFailure_87 : ob_dk k_Model_tableFailure 87 90 (16383 : Int32) (.sipush 16383) 3 := ⟨by decide +kernel, rfl, show (Int16.ofInt 16383).toInt32 = (16383 : Int32) by decide +kernel⟩
theorem d_Model_tableFailure_96 : ob_di k_Model_tableFailure 96 99 2 1 (1 : Int32) := ⟨by decide +kernel, rfl, by decide +kernel, by decide +kernel⟩
theorem d_Model_tableFailure_99 : ob_db k_Model_tableFailure 99 (.goto (-30)) (-30) 102 69 := ⟨by decide +kernel, rfl, by decide⟩
theorem d_Model_tableFailure_94 : ob_dk k_Model_tableFailure 94 95 (0 : Int32) (.iconst 0) 1 := ⟨by decide +kernel, rfl, show Int32.ofInt 0 = (0 : Int32) by decide +kernel⟩
theorem d_Model_tableFailure_95 : ob_dc k_Model_tableFailure 95 (.ireturn) 1 96 := ⟨by decide +kernel, rfl⟩
theorem d_Model_tableFailure_91 : ob_db k_Model_tableFailure 91 (.if_icmp .ne 5) 5 94 96 := ⟨by decide +kernel, rfl, by decide⟩
theorem d_Model_tableFailure_90 : ob_dc k_Model_tableFailure 90 (.iand) 1 91 := ⟨by decide +kernel, rfl⟩
theorem d_Model_tableFailure_84 : ob_dc k_Model_tableFailure 84 (.invokevirtual 357) 3 87 := ⟨by decide +kernel, rfl⟩
theorem d_Model_tableFailure_82 : ob_dv ob_ac k_Model_tableFailure 82 83 0 (.aload_n 0) 1 := ⟨by decide +kernel, rfl, rfl⟩
theorem d_Model_tableFailure_79 : ob_dc k_Model_tableFailure 79 (.invokevirtual 375) 3 82 := ⟨by decide +kernel, rfl⟩
theorem d_Model_tableFailure_78 : ob_dv ob_lc k_Model_tableFailure 78 79 2 (.iload_n 2) 1 := ⟨by decide +kernel, rfl, rfl⟩
theorem d_Model_tableFailure_77 : ob_dv ob_ac k_Model_tableFailure 77 78 0 (.aload_n 0) 1 := ⟨by decide +kernel, rfl, rfl⟩
theorem d_Model_tableFailure_74 : ob_db k_Model_tableFailure 74 (.if_icmp .ge 28) 28 77 102 := ⟨by decide +kernel, rfl, by decide⟩
theorem d_Model_tableFailure_71 : ob_dc k_Model_tableFailure 71 (.getfield 369) 3 74 := ⟨by decide +kernel, rfl⟩
theorem d_Model_tableFailure_70 : ob_dv ob_ac k_Model_tableFailure 70 71 0 (.aload_n 0) 1 := ⟨by decide +kernel, rfl, rfl⟩
theorem d_Model_tableFailure_69 : ob_dv ob_lc k_Model_tableFailure 69 70 2 (.iload_n 2) 1 := ⟨by decide +kernel, rfl, rfl⟩
theorem d_Model_tableFailure_68 : ob_dv (ob_sc k_Model_tableFailure.2.2.2.1) k_Model_tableFailure 68 69 2 (.istore_n 2) 1 := ⟨by decide +kernel, rfl, ⟨rfl, by decide +kernel⟩⟩
theorem d_Model_tableFailure_64 : ob_db k_Model_tableFailure 64 (.if_icmp .ne 41) 41 67 105 := ⟨by decide +kernel, rfl, by decide⟩
theorem d_Model_tableFailure_62 : ob_dv ob_lc k_Model_tableFailure 62 63 1 (.iload_n 1) 1 := ⟨by decide +kernel, rfl, rfl⟩
theorem d_Model_tableFailure_9 : ob_dk k_Model_tableFailure 9 11 (15 : Int32) (.bipush 15) 2 := ⟨by decide +kernel, rfl, show (Int8.ofInt 15).toInt32 = (15 : Int32) by decide +kernel⟩
theorem d_Model_tableFailure_15 : ob_dk k_Model_tableFailure 15 17 (17 : Int32) (.bipush 17) 2 := ⟨by decide +kernel, rfl, show (Int8.ofInt 17).toInt32 = (17 : Int32) by decide +kernel⟩
theorem d_Model_tableFailure_28 : ob_dk k_Model_tableFailure 28 29 (0 : Int32) (.iconst 0) 1 := ⟨by decide +kernel, rfl, show Int32.ofInt 0 = (0 : Int32) by decide +kernel⟩
theorem d_Model_tableFailure_60 : ob_dk k_Model_tableFailure 60 61 (0 : Int32) (.iconst 0) 1 := ⟨by decide +kernel, rfl, show Int32.ofInt 0 = (0 : Int32) by decide +kernel⟩
theorem d_Model_tableFailure_61 : ob_dc k_Model_tableFailure 61 (.ireturn) 1 62 := ⟨by decide +kernel, rfl⟩
theorem d_Model_tableFailure_55 : ob_dk k_Model_tableFailure 55 57 (21 : Int32) (.bipush 21) 2 := ⟨by decide +kernel, rfl, show (Int8.ofInt 21).toInt32 = (21 : Int32) by decide +kernel⟩
theorem d_Model_tableFailure_57 : ob_db k_Model_tableFailure 57 (.goto 4) 4 60 61 := ⟨by decide +kernel, rfl, by decide⟩
theorem d_Model_tableFailure_52 : ob_db k_Model_tableFailure 52 (.if_icmp .ne 8) 8 55 60 := ⟨by decide +kernel, rfl, by decide⟩
theorem d_Model_tableFailure_49 : ob_dc k_Model_tableFailure 49 (.getfield 162) 3 52 := ⟨by decide +kernel, rfl⟩
theorem d_Model_tableFailure_48 : ob_dv ob_ac k_Model_tableFailure 48 49 0 (.aload_n 0) 1 := ⟨by decide +kernel, rfl, rfl⟩
theorem d_Model_tableFailure_45 : ob_dc k_Model_tableFailure 45 (.getfield 369) 3 48 := ⟨by decide +kernel, rfl⟩
theorem d_Model_tableFailure_44 : ob_dv ob_ac k_Model_tableFailure 44 45 0 (.aload_n 0) 1 := ⟨by decide +kernel, rfl, rfl⟩
theorem d_Model_tableFailure_39 : ob_dk k_Model_tableFailure 39 41 (20 : Int32) (.bipush 20) 2 := ⟨by decide +kernel, rfl, show (Int8.ofInt 20).toInt32 = (20 : Int32) by decide +kernel⟩
theorem d_Model_tableFailure_41 : ob_db k_Model_tableFailure 41 (.goto 20) 20 44 61 := ⟨by decide +kernel, rfl, by decide⟩
theorem d_Model_tableFailure_36 : ob_db k_Model_tableFailure 36 (.if_icmp .gt 8) 8 39 44 := ⟨by decide +kernel, rfl, by decide⟩
theorem d_Model_tableFailure_33 : ob_dc k_Model_tableFailure 33 (.getfield 372) 3 36 := ⟨by decide +kernel, rfl⟩
theorem d_Model_tableFailure_32 : ob_dv ob_ac k_Model_tableFailure 32 33 0 (.aload_n 0) 1 := ⟨by decide +kernel, rfl, rfl⟩
theorem d_Model_tableFailure_29 : ob_dc k_Model_tableFailure 29 (.invokevirtual 360) 3 32 := ⟨by decide +kernel, rfl⟩
theorem d_Model_tableFailure_27 : ob_dv ob_ac k_Model_tableFailure 27 28 0 (.aload_n 0) 1 := ⟨by decide +kernel, rfl, rfl⟩
theorem d_Model_tableFailure_24 : ob_dk k_Model_tableFailure 24 26 (22 : Int32) (.bipush 22) 2 := ⟨by decide +kernel, rfl, show (Int8.ofInt 22).toInt32 = (22 : Int32) by decide +kernel⟩
theorem d_Model_tableFailure_26 : ob_dc k_Model_tableFailure 26 (.ireturn) 1 27 := ⟨by decide +kernel, rfl⟩
theorem d_Model_tableFailure_21 : ob_db k_Model_tableFailure 21 (.ifCond .eq 6) 6 24 27 := ⟨by decide +kernel, rfl, by decide⟩
theorem d_Model_tableFailure_18 : ob_dc k_Model_tableFailure 18 (.invokestatic 282) 3 21 := ⟨by decide +kernel, rfl⟩
theorem d_Model_tableFailure_17 : ob_dc k_Model_tableFailure 17 (.isub) 1 18 := ⟨by decide +kernel, rfl⟩
theorem d_Model_tableFailure_12 : ob_dc k_Model_tableFailure 12 (.getfield 258) 3 15 := ⟨by decide +kernel, rfl⟩
theorem d_Model_tableFailure_11 : ob_dv ob_ac k_Model_tableFailure 11 12 0 (.aload_n 0) 1 := ⟨by decide +kernel, rfl, rfl⟩
theorem d_Model_tableFailure_6 : ob_dc k_Model_tableFailure 6 (.getfield 34) 3 9 := ⟨by decide +kernel, rfl⟩
theorem d_Model_tableFailure_5 : ob_dv ob_ac k_Model_tableFailure 5 6 0 (.aload_n 0) 1 := ⟨by decide +kernel, rfl, rfl⟩
theorem d_Model_tableFailure_2 : ob_db k_Model_tableFailure 2 (.if_icmp .ne 60) 60 5 62 := ⟨by decide +kernel, rfl, by decide⟩
theorem d_Model_tableFailure_0 : ob_dv ob_lc k_Model_tableFailure 0 1 1 (.iload_n 1) 1 := ⟨by decide +kernel, rfl, rfl⟩
theorem c_Model_tableFailure_360 : ob_vd k_Model_tableFailure k_Model_dataFour 360 1 12 := ⟨cw_Model_dataFour, yd_Model_dataFour, w_1524, w_1526, wp_77, w_14, ⟨_, _, rfl⟩, by decide, by decide⟩
theorem c_Model_tableFailure_357 : ob_vd k_Model_tableFailure k_Model_dataTwo 357 1 12 := ⟨cw_Model_dataTwo, yd_Model_dataTwo, w_1512, w_1514, wp_74, w_14, ⟨_, _, rfl⟩, by decide, by decide⟩
theorem c_Model_tableFailure_375 : ob_vd k_Model_tableFailure k_Model_entryNumber 375 1 12 := ⟨cw_Model_entryNumber, yd_Model_entryNumber, w_1531, w_1533, wp_78, w_14, ⟨_, _, rfl⟩, by decide, by decide⟩
theorem c_Model_tableFailure_282 : ob_sd k_Model_tableFailure k_Model_faultOf 282 3 := ⟨cw_Model_faultOf, yd_Model_faultOf, w_1446, w_1447, w_14, by decide, by decide⟩
def f_Model_tableFailure_L113 (S : ob_S) : Nat → Nat → Int32 → ob_D → Option (Int32 × ob_D)
  | 0, _, _, _ => none
  | n + 1, v0, v2, D => (if (D.1 v0 45) ≤ v2 then some ((0 : Int32), D) else if D.2.1 v0 42 ≠ 0 then if ob_in v2 (S.2.1 (D.2.1 v0 42)) then ob_bd (f_Model_dataFour S v0 (0 : Int32) D) fun x6 D4 => (if (lg_cmp (((D.1 (D.2.1 v0 42) v2.toNatClampNeg).toInt64) + (x6.toInt64)) ((D4.1 v0 41).toInt64)) ≤ 0 then some ((24 : Int32), D4) else (if (lg_cmp (((D.1 (D.2.1 v0 42) v2.toNatClampNeg).toInt64) + (x6.toInt64)) (2147483647 : Int64)) ≤ 0 then f_Model_tableFailure_L113 S n v0 (v2 + (1 : Int32)) D4 else some ((24 : Int32), D4))) else none else none)
theorem v_Model_tableFailure_L113 {l : Launch} {E : ob_E} {S : ob_S} {r : Int32} {D' : ob_D} : ∀ (n : Nat), ∀ (v0 : Nat) (v2 : Int32) (D : ob_D), S.1 v0 = 13 → f_Model_tableFailure_L113 S n v0 v2 D = some (r, D') → ob_V l E k_Model_tableFailure 113 [(0, .ref v0), (2, .int v2)] [] S D (some (.int r)) S D' := by
  intro n
  induction n with
  | zero =>
    intro v0 v2 D hp_v0 h
    have h : none = some (r, D') := h
    cases h
  | succ n ih =>
    intro v0 v2 D hp_v0 h
    rw [f_Model_tableFailure_L113] at h
    refine ob_iload d_Model_tableFailure_113 rfl ?_
    refine ob_aload d_Model_tableFailure_114 rfl ?_
    refine ob_getI d_Model_tableFailure_115 F_12_45 l_Model_369 hp_v0 ?_
    refine ob_icmp_ge d_Model_tableFailure_118 (fun hc => ?_) (fun hc => ?_)
    · replace h := ob_ift hc h
      refine ob_push d_Model_tableFailure_163 ?_
      exact ob_ie h (ob_iret d_Model_tableFailure_164 rfl rfl)
    · replace h := ob_iff hc h
      refine ob_aload d_Model_tableFailure_121 rfl ?_
      obtain ⟨hg2, h⟩ := ob_gd h
      refine ob_getR d_Model_tableFailure_122 F_12_42 l_Model_64 hp_v0 hg2 (fun hk1 => ?_)
      refine ob_iload d_Model_tableFailure_125 rfl ?_
      obtain ⟨hg3, h⟩ := ob_gd h
      refine ob_iald d_Model_tableFailure_126 hk1 hg3 ?_
      refine ob_i2l d_Model_tableFailure_127 ?_
      refine ob_aload d_Model_tableFailure_128 rfl ?_
      refine ob_push d_Model_tableFailure_129 ?_
      obtain ⟨x6, D4, h5, h⟩ := ob_bd_e h
      refine ob_callVi (As := [.int (0 : Int32)]) (rest := [.long ((D.1 (D.2.1 v0 42) v2.toNatClampNeg).toInt64)]) d_Model_tableFailure_130 c_Model_tableFailure_360 hp_v0 rfl rfl (Nat.le_of_ble_eq_true rfl) (c_Model_dataFour hp_v0 h5) ⟨Nat.le_refl _, Nat.le_refl _⟩ ⟨Nat.le_refl _, Nat.le_refl _⟩ ?_
      refine ob_i2l d_Model_tableFailure_133 ?_
      refine ob_ladd d_Model_tableFailure_134 ?_
      refine ob_lstore (lo2 := [(0, .ref v0), (2, .int v2), (3, .long (((D.1 (D.2.1 v0 42) v2.toNatClampNeg).toInt64) + (x6.toInt64)))]) d_Model_tableFailure_135 rfl ?_
      refine ob_lload d_Model_tableFailure_136 rfl ?_
      refine ob_aload d_Model_tableFailure_137 rfl ?_
      refine ob_getI d_Model_tableFailure_138 F_12_41 l_Model_372 hp_v0 ?_
      refine ob_i2l d_Model_tableFailure_141 ?_
      refine ob_lcmp d_Model_tableFailure_142 ?_
      refine ob_if_le d_Model_tableFailure_143 (fun hc => ?_) (fun hc => ?_)
      · replace h := ob_ift hc h
        refine ob_push d_Model_tableFailure_154 ?_
        exact ob_ie h (ob_iret d_Model_tableFailure_156 rfl rfl)
      · replace h := ob_iff hc h
        refine ob_lload d_Model_tableFailure_146 rfl ?_
        refine ob_ldc2 d_Model_tableFailure_147 w_1535 ?_
        refine ob_lcmp d_Model_tableFailure_150 ?_
        refine ob_if_le d_Model_tableFailure_151 (fun hc => ?_) (fun hc => ?_)
        · replace h := ob_ift hc h
          refine ob_iinc (lo2 := [(0, .ref v0), (2, .int (v2 + (1 : Int32))), (3, .long (((D.1 (D.2.1 v0 42) v2.toNatClampNeg).toInt64) + (x6.toInt64)))]) d_Model_tableFailure_157 rfl rfl ?_
          refine ob_goto d_Model_tableFailure_160 ?_
          refine ob_sub (lo2 := [(0, .ref v0), (2, .int (v2 + (1 : Int32)))]) [0, 1] rfl ?_
          exact ih v0 (v2 + (1 : Int32)) D4 hp_v0 h
        · replace h := ob_iff hc h
          refine ob_push d_Model_tableFailure_154 ?_
          exact ob_ie h (ob_iret d_Model_tableFailure_156 rfl rfl)
def f_Model_tableFailure_L69 (S : ob_S) : Nat → Nat → Int32 → ob_D → Option (Int32 × ob_D)
  | 0, _, _, _ => none
  | n + 1, v0, v2, D => (if (D.1 v0 45) ≤ v2 then some ((23 : Int32), D) else ob_bd (f_Model_entryNumber S v0 v2 D) fun x9 D7 => ob_bd (f_Model_dataTwo S v0 (0 : Int32) D7) fun x12 D10 => (if x9 = (x12 &&& (16383 : Int32)) then some ((0 : Int32), D10) else f_Model_tableFailure_L69 S n v0 (v2 + (1 : Int32)) D10))
theorem v_Model_tableFailure_L69 {l : Launch} {E : ob_E} {S : ob_S} {r : Int32} {D' : ob_D} : ∀ (n : Nat), ∀ (v0 : Nat) (v2 : Int32) (D : ob_D), S.1 v0 = 13 → f_Model_tableFailure_L69 S n v0 v2 D = some (r, D') → ob_V l E k_Model_tableFailure 69 [(0, .ref v0), (2, .int v2)] [] S D (some (.int r)) S D' := by
  intro n
  induction n with
  | zero =>
    intro v0 v2 D hp_v0 h
    have h : none = some (r, D') := h
    cases h
  | succ n ih =>
    intro v0 v2 D hp_v0 h
    rw [f_Model_tableFailure_L69] at h
    refine ob_iload d_Model_tableFailure_69 rfl ?_
    refine ob_aload d_Model_tableFailure_70 rfl ?_
    refine ob_getI d_Model_tableFailure_71 F_12_45 l_Model_369 hp_v0 ?_
    refine ob_icmp_ge d_Model_tableFailure_74 (fun hc => ?_) (fun hc => ?_)
    · replace h := ob_ift hc h
      refine ob_push d_Model_tableFailure_102 ?_
      exact ob_ie h (ob_iret d_Model_tableFailure_104 rfl rfl)
    · replace h := ob_iff hc h
      refine ob_aload d_Model_tableFailure_77 rfl ?_
      refine ob_iload d_Model_tableFailure_78 rfl ?_
      obtain ⟨x9, D7, h8, h⟩ := ob_bd_e h
      refine ob_callVi (As := [.int v2]) (rest := []) d_Model_tableFailure_79 c_Model_tableFailure_375 hp_v0 rfl rfl (Nat.le_of_ble_eq_true rfl) (c_Model_entryNumber hp_v0 h8) ⟨Nat.le_refl _, Nat.le_refl _⟩ ⟨Nat.le_refl _, Nat.le_refl _⟩ ?_
      refine ob_aload d_Model_tableFailure_82 rfl ?_
      refine ob_push d_Model_tableFailure_83 ?_
      obtain ⟨x12, D10, h11, h⟩ := ob_bd_e h
      refine ob_callVi (As := [.int (0 : Int32)]) (rest := [.int x9]) d_Model_tableFailure_84 c_Model_tableFailure_357 hp_v0 rfl rfl (Nat.le_of_ble_eq_true rfl) (c_Model_dataTwo hp_v0 h11) ⟨Nat.le_refl _, Nat.le_refl _⟩ ⟨Nat.le_refl _, Nat.le_refl _⟩ ?_
      refine ob_push d_Model_tableFailure_87 ?_
      refine ob_iand d_Model_tableFailure_90 ?_
      refine ob_icmp_ne d_Model_tableFailure_91 (fun hc => ?_) (fun hc => ?_)
      · replace h := ob_iff hc h
        refine ob_iinc (lo2 := [(0, .ref v0), (2, .int (v2 + (1 : Int32)))]) d_Model_tableFailure_96 rfl rfl ?_
        refine ob_goto d_Model_tableFailure_99 ?_
        exact ih v0 (v2 + (1 : Int32)) D10 hp_v0 h
      · replace h := ob_ift hc h
        refine ob_push d_Model_tableFailure_94 ?_
        exact ob_ie h (ob_iret d_Model_tableFailure_95 rfl rfl)
def f_Model_tableFailure (S : ob_S) (v0 : Nat) (v1 : Int32) (D : ob_D) : Option (Int32 × ob_D) :=
  (if v1 = (4 : Int32) then if D.2.1 v0 27 ≠ 0 then ob_bd (f_Model_faultOf S (D.2.1 v0 27) (15 : Int32) ((D.1 v0 28) - (17 : Int32)) D) fun x17 D15 => (if x17 = 0 then ob_bd (f_Model_dataFour S v0 (0 : Int32) D15) fun x20 D18 => (if (D18.1 v0 41) < x20 then (if (D18.1 v0 45) = (D18.1 v0 0) then some ((21 : Int32), D18) else some ((0 : Int32), D18)) else some ((20 : Int32), D18)) else some ((22 : Int32), D15)) else none else (if v1 = (5 : Int32) then f_Model_tableFailure_L69 S ob_FU v0 (0 : Int32) D else (if v1 = (15 : Int32) then f_Model_tableFailure_L113 S ob_FU v0 (0 : Int32) D else some ((0 : Int32), D))))
theorem c_Model_tableFailure {l : Launch} {E : ob_E} {S : ob_S} {D : ob_D} {v0 : Nat} {v1 : Int32} {r : Int32} {D' : ob_D} (hp_v0 : S.1 v0 = 13) (h : f_Model_tableFailure S v0 v1 D = some (r, D')) : ob_M l E k_Model_tableFailure [.ref v0, .int v1] S D (some (.int r)) S D' := by
  refine ob_ofV (lo := [(0, .ref v0), (1, .int v1)]) (by decide) rfl (Nat.le_of_ble_eq_true rfl) rfl (Nat.le_refl _) (Nat.le_refl _) ?_
  rw [f_Model_tableFailure] at h
  refine ob_iload d_Model_tableFailure_0 rfl ?_
  refine ob_push d_Model_tableFailure_1 ?_
  refine ob_icmp_ne d_Model_tableFailure_2 (fun hc => ?_) (fun hc => ?_)
  · replace h := ob_iff hc h
    refine ob_iload d_Model_tableFailure_62 rfl ?_
    refine ob_push d_Model_tableFailure_63 ?_
    refine ob_icmp_ne d_Model_tableFailure_64 (fun hc => ?_) (fun hc => ?_)
    · replace h := ob_iff hc h
      refine ob_iload d_Model_tableFailure_105 rfl ?_
      refine ob_push d_Model_tableFailure_106 ?_
      refine ob_icmp_ne d_Model_tableFailure_108 (fun hc => ?_) (fun hc => ?_)
      · replace h := ob_iff hc h
        refine ob_push d_Model_tableFailure_163 ?_
        exact ob_ie h (ob_iret d_Model_tableFailure_164 rfl rfl)
      · replace h := ob_ift hc h
        refine ob_push d_Model_tableFailure_111 ?_
        refine ob_istore (lo2 := [(0, .ref v0), (1, .int v1), (2, .int (0 : Int32))]) d_Model_tableFailure_112 rfl ?_
        refine ob_sub (lo2 := [(0, .ref v0), (2, .int (0 : Int32))]) [0, 2] rfl ?_
        exact v_Model_tableFailure_L113 ob_FU v0 (0 : Int32) D hp_v0 h
    · replace h := ob_ift hc h
      refine ob_push d_Model_tableFailure_67 ?_
      refine ob_istore (lo2 := [(0, .ref v0), (1, .int v1), (2, .int (0 : Int32))]) d_Model_tableFailure_68 rfl ?_
      refine ob_sub (lo2 := [(0, .ref v0), (2, .int (0 : Int32))]) [0, 2] rfl ?_
      exact v_Model_tableFailure_L69 ob_FU v0 (0 : Int32) D hp_v0 h
  · replace h := ob_ift hc h
    refine ob_aload d_Model_tableFailure_5 rfl ?_
    obtain ⟨hg14, h⟩ := ob_gd h
    refine ob_getR d_Model_tableFailure_6 F_12_27 l_Model_34 hp_v0 hg14 (fun hk13 => ?_)
    refine ob_push d_Model_tableFailure_9 ?_
    refine ob_aload d_Model_tableFailure_11 rfl ?_
    refine ob_getI d_Model_tableFailure_12 F_12_28 l_Model_258 hp_v0 ?_
    refine ob_push d_Model_tableFailure_15 ?_
    refine ob_isub d_Model_tableFailure_17 ?_
    obtain ⟨x17, D15, h16, h⟩ := ob_bd_e h
    refine ob_callSi (As := [.ref (D.2.1 v0 27), .int (15 : Int32), .int ((D.1 v0 28) - (17 : Int32))]) (rest := []) d_Model_tableFailure_18 c_Model_tableFailure_282 rfl rfl (Nat.le_of_ble_eq_true rfl) (c_Model_faultOf hk13 h16) ⟨Nat.le_refl _, Nat.le_refl _⟩ ⟨Nat.le_refl _, Nat.le_refl _⟩ ?_
    refine ob_if_eq d_Model_tableFailure_21 (fun hc => ?_) (fun hc => ?_)
    · replace h := ob_ift hc h
      refine ob_aload d_Model_tableFailure_27 rfl ?_
      refine ob_push d_Model_tableFailure_28 ?_
      obtain ⟨x20, D18, h19, h⟩ := ob_bd_e h
      refine ob_callVi (As := [.int (0 : Int32)]) (rest := []) d_Model_tableFailure_29 c_Model_tableFailure_360 hp_v0 rfl rfl (Nat.le_of_ble_eq_true rfl) (c_Model_dataFour hp_v0 h19) ⟨Nat.le_refl _, Nat.le_refl _⟩ ⟨Nat.le_refl _, Nat.le_refl _⟩ ?_
      refine ob_aload d_Model_tableFailure_32 rfl ?_
      refine ob_getI d_Model_tableFailure_33 F_12_41 l_Model_372 hp_v0 ?_
      refine ob_icmp_gt d_Model_tableFailure_36 (fun hc => ?_) (fun hc => ?_)
      · replace h := ob_ift hc h
        refine ob_aload d_Model_tableFailure_44 rfl ?_
        refine ob_getI d_Model_tableFailure_45 F_12_45 l_Model_369 hp_v0 ?_
        refine ob_aload d_Model_tableFailure_48 rfl ?_
        refine ob_getI d_Model_tableFailure_49 F_12_0 l_Model_162 hp_v0 ?_
        refine ob_icmp_ne d_Model_tableFailure_52 (fun hc => ?_) (fun hc => ?_)
        · replace h := ob_iff hc h
          refine ob_push d_Model_tableFailure_60 ?_
          exact ob_ie h (ob_iret d_Model_tableFailure_61 rfl rfl)
        · replace h := ob_ift hc h
          refine ob_push d_Model_tableFailure_55 ?_
          refine ob_goto d_Model_tableFailure_57 ?_
          exact ob_ie h (ob_iret d_Model_tableFailure_61 rfl rfl)
      · replace h := ob_iff hc h
        refine ob_push d_Model_tableFailure_39 ?_
        refine ob_goto d_Model_tableFailure_41 ?_
        exact ob_ie h (ob_iret d_Model_tableFailure_61 rfl rfl)
    · replace h := ob_iff hc h
      refine ob_push d_Model_tableFailure_24 ?_
      exact ob_ie h (ob_iret d_Model_tableFailure_26 rfl rfl)
-- OrbitBoxModel.limitFailure(I)I
theorem d_Model_limitFailure_1 : ob_dk k_Model_limitFailure 1 2 (0 : Int32) (.iconst 0) 1 := ⟨by decide +kernel, rfl, show Int32.ofInt 0 = (0 : Int32) by decide +kernel⟩
theorem d_Model_limitFailure_7 : ob_dk k_Model_limitFailure 7 8 (5 : Int32) (.iconst 5) 1 := ⟨by decide +kernel, rfl, show Int32.ofInt 5 = (5 : Int32) by decide +kernel⟩
theorem d_Model_limitFailure_112 : ob_dk k_Model_limitFailure 112 114 (6 : Int32) (.bipush 6) 2 := ⟨by decide +kernel, rfl, show (Int8.ofInt 6).toInt32 = (6 : Int32) by decide +kernel⟩
theorem d_Model_limitFailure_131 : ob_dk k_Model_limitFailure 131 132 (0 : Int32) (.iconst 0) 1 := ⟨by decide +kernel, rfl, show Int32.ofInt 0 = (0 : Int32) by decide +kernel⟩
theorem d_Model_limitFailure_132 : ob_dc k_Model_limitFailure 132 (.ireturn) 1 133 := ⟨by decide +kernel, rfl⟩
theorem d_Model_limitFailure_126 : ob_dk k_Model_limitFailure 126 128 (15 : Int32) (.bipush 15) 2 := ⟨by decide +kernel, rfl, show (Int8.ofInt 15).toInt32 = (15 : Int32) by decide +kernel⟩
theorem d_Model_limitFailure_128 : ob_db k_Model_limitFailure 128 (.goto 4) 4 131 132 := ⟨by decide +kernel, rfl, by decide⟩
theorem d_Model_limitFailure_123 : ob_db k_Model_limitFailure 123 (.ifCond .eq 8) 8 126 131 := ⟨by decide +kernel, rfl, by decide⟩
theorem d_Model_limitFailure_122 : ob_dc k_Model_limitFailure 122 (.baload) 1 123 := ⟨by decide +kernel, rfl⟩
theorem d_Model_limitFailure_121 : ob_dv ob_lc k_Model_limitFailure 121 122 2 (.iload_n 2) 1 := ⟨by decide +kernel, rfl, rfl⟩
theorem d_Model_limitFailure_118 : ob_dc k_Model_limitFailure 118 (.getfield 76) 3 121 := ⟨by decide +kernel, rfl⟩
theorem d_Model_limitFailure_117 : ob_dv ob_ac k_Model_limitFailure 117 118 0 (.aload_n 0) 1 := ⟨by decide +kernel, rfl, rfl⟩
theorem d_Model_limitFailure_114 : ob_db k_Model_limitFailure 114 (.if_icmp .ne 17) 17 117 131 := ⟨by decide +kernel, rfl, by decide⟩
theorem d_Model_limitFailure_111 : ob_dv ob_lc k_Model_limitFailure 111 112 1 (.iload_n 1) 1 := ⟨by decide +kernel, rfl, rfl⟩
theorem d_Model_limitFailure_106 : ob_dk k_Model_limitFailure 106 108 (27 : Int32) (.bipush 27) 2 := ⟨by decide +kernel, rfl, show (Int8.ofInt 27).toInt32 = (27 : Int32) by decide +kernel⟩
theorem d_Model_limitFailure_108 : ob_db k_Model_limitFailure 108 (.goto 24) 24 111 132 := ⟨by decide +kernel, rfl, by decide⟩
theorem d_Model_limitFailure_103 : ob_db k_Model_limitFailure 103 (.ifCond .ne 8) 8 106 111 := ⟨by decide +kernel, rfl, by decide⟩
theorem d_Model_limitFailure_102 : ob_dc k_Model_limitFailure 102 (.baload) 1 103 := ⟨by decide +kernel, rfl⟩
theorem d_Model_limitFailure_101 : ob_dv ob_lc k_Model_limitFailure 101 102 2 (.iload_n 2) 1 := ⟨by decide +kernel, rfl, rfl⟩
theorem d_Model_limitFailure_98 : ob_dc k_Model_limitFailure 98 (.getfield 73) 3 101 := ⟨by decide +kernel, rfl⟩
theorem d_Model_limitFailure_97 : ob_dv ob_ac k_Model_limitFailure 97 98 0 (.aload_n 0) 1 := ⟨by decide +kernel, rfl, rfl⟩
theorem d_Model_limitFailure_12 : ob_dk k_Model_limitFailure 12 13 (2 : Int32) (.iconst 2) 1 := ⟨by decide +kernel, rfl, show Int32.ofInt 2 = (2 : Int32) by decide +kernel⟩
theorem d_Model_limitFailure_64 : ob_dk k_Model_limitFailure 64 66 (13 : Int32) (.bipush 13) 2 := ⟨by decide +kernel, rfl, show (Int8.ofInt 13).toInt32 = (13 : Int32) by decide +kernel⟩
theorem d_Model_limitFailure_66 : ob_dc k_Model_limitFailure 66 (.ireturn) 1 67 := ⟨by decide +kernel, rfl⟩
theorem d_Model_limitFailure_20 : ob_dk k_Model_limitFailure 20 21 (3 : Int32) (.iconst 3) 1 := ⟨by decide +kernel, rfl, show Int32.ofInt 3 = (3 : Int32) by decide +kernel⟩
theorem d_Model_limitFailure_25 : ob_dk k_Model_limitFailure 25 27 (7 : Int32) (.bipush 7) 2 := ⟨by decide +kernel, rfl, show (Int8.ofInt 7).toInt32 = (7 : Int32) by decide +kernel⟩
theorem d_Model_limitFailure_34 : ob_dk k_Model_limitFailure 34 36 (12 : Int32) (.bipush 12) 2 := ⟨by decide +kernel, rfl, show (Int8.ofInt 12).toInt32 = (12 : Int32) by decide +kernel⟩
theorem d_Model_limitFailure_39 : ob_dk k_Model_limitFailure 39 40 (1 : Int32) (.iconst 1) 1 := ⟨by decide +kernel, rfl, show Int32.ofInt 1 = (1 : Int32) by decide +kernel⟩
theorem d_Model_limitFailure_44 : ob_dk k_Model_limitFailure 44 45 (1 : Int32) (.iconst 1) 1 := ⟨by decide +kernel, rfl, show Int32.ofInt 1 = (1 : Int32) by decide +kernel⟩
theorem d_Model_limitFailure_48 : ob_dk k_Model_limitFailure 48 50 (31 : Int32) (.bipush 31) 2 := ⟨by decide +kernel, rfl, show (Int8.ofInt 31).toInt32 = (31 : Int32) by decide +kernel⟩
theorem d_Model_limitFailure_54 : ob_dk k_Model_limitFailure 54 56 (11 : Int32) (.bipush 11) 2 := ⟨by decide +kernel, rfl, show (Int8.ofInt 11).toInt32 = (11 : Int32) by decide +kernel⟩
theorem d_Model_limitFailure_59 : ob_dk k_Model_limitFailure 59 61 (31 : Int32) (.bipush 31) 2 := ⟨by decide +kernel, rfl, show (Int8.ofInt 31).toInt32 = (31 : Int32) by decide +kernel⟩
theorem d_Model_limitFailure_85 : ob_dk k_Model_limitFailure 85 87 (16 : Int32) (.bipush 16) 2 := ⟨by decide +kernel, rfl, show (Int8.ofInt 16).toInt32 = (16 : Int32) by decide +kernel⟩
theorem d_Model_limitFailure_95 : ob_dk k_Model_limitFailure 95 96 (0 : Int32) (.iconst 0) 1 := ⟨by decide +kernel, rfl, show Int32.ofInt 0 = (0 : Int32) by decide +kernel⟩
theorem d_Model_limitFailure_96 : ob_dc k_Model_limitFailure 96 (.ireturn) 1 97 := ⟨by decide +kernel, rfl⟩
theorem d_Model_limitFailure_90 : ob_dk k_Model_limitFailure 90 92 (26 : Int32) (.bipush 26) 2 := ⟨by decide +kernel, rfl, show (Int8.ofInt 26).toInt32 = (26 : Int32) by decide +kernel⟩
theorem d_Model_limitFailure_92 : ob_db k_Model_limitFailure 92 (.goto 4) 4 95 96 := ⟨by decide +kernel, rfl, by decide⟩
theorem d_Model_limitFailure_87 : ob_db k_Model_limitFailure 87 (.if_icmp .ne 8) 8 90 95 := ⟨by decide +kernel, rfl, by decide⟩
theorem d_Model_limitFailure_82 : ob_dc k_Model_limitFailure 82 (.getfield 389) 3 85 := ⟨by decide +kernel, rfl⟩
theorem d_Model_limitFailure_81 : ob_dv ob_ac k_Model_limitFailure 81 82 0 (.aload_n 0) 1 := ⟨by decide +kernel, rfl, rfl⟩
theorem d_Model_limitFailure_76 : ob_dk k_Model_limitFailure 76 78 (25 : Int32) (.bipush 25) 2 := ⟨by decide +kernel, rfl, show (Int8.ofInt 25).toInt32 = (25 : Int32) by decide +kernel⟩
theorem d_Model_limitFailure_78 : ob_db k_Model_limitFailure 78 (.goto 18) 18 81 96 := ⟨by decide +kernel, rfl, by decide⟩
theorem d_Model_limitFailure_73 : ob_db k_Model_limitFailure 73 (.ifCond .eq 8) 8 76 81 := ⟨by decide +kernel, rfl, by decide⟩
theorem d_Model_limitFailure_72 : ob_dc k_Model_limitFailure 72 (.baload) 1 73 := ⟨by decide +kernel, rfl⟩
theorem d_Model_limitFailure_71 : ob_dv ob_lc k_Model_limitFailure 71 72 2 (.iload_n 2) 1 := ⟨by decide +kernel, rfl, rfl⟩
theorem d_Model_limitFailure_68 : ob_dc k_Model_limitFailure 68 (.getfield 73) 3 71 := ⟨by decide +kernel, rfl⟩
theorem d_Model_limitFailure_67 : ob_dv ob_ac k_Model_limitFailure 67 68 0 (.aload_n 0) 1 := ⟨by decide +kernel, rfl, rfl⟩
theorem d_Model_limitFailure_61 : ob_db k_Model_limitFailure 61 (.if_icmp .le 6) 6 64 67 := ⟨by decide +kernel, rfl, by decide⟩
theorem d_Model_limitFailure_56 : ob_dc k_Model_limitFailure 56 (.invokevirtual 302) 3 59 := ⟨by decide +kernel, rfl⟩
theorem d_Model_limitFailure_53 : ob_dv ob_ac k_Model_limitFailure 53 54 0 (.aload_n 0) 1 := ⟨by decide +kernel, rfl, rfl⟩
theorem d_Model_limitFailure_50 : ob_db k_Model_limitFailure 50 (.if_icmp .gt 14) 14 53 64 := ⟨by decide +kernel, rfl, by decide⟩
theorem d_Model_limitFailure_45 : ob_dc k_Model_limitFailure 45 (.invokevirtual 302) 3 48 := ⟨by decide +kernel, rfl⟩
theorem d_Model_limitFailure_43 : ob_dv ob_ac k_Model_limitFailure 43 44 0 (.aload_n 0) 1 := ⟨by decide +kernel, rfl, rfl⟩
theorem d_Model_limitFailure_40 : ob_db k_Model_limitFailure 40 (.if_icmp .gt 24) 24 43 64 := ⟨by decide +kernel, rfl, by decide⟩
theorem d_Model_limitFailure_36 : ob_dc k_Model_limitFailure 36 (.invokevirtual 302) 3 39 := ⟨by decide +kernel, rfl⟩
theorem d_Model_limitFailure_33 : ob_dv ob_ac k_Model_limitFailure 33 34 0 (.aload_n 0) 1 := ⟨by decide +kernel, rfl, rfl⟩
theorem d_Model_limitFailure_30 : ob_db k_Model_limitFailure 30 (.if_icmp .gt 34) 34 33 64 := ⟨by decide +kernel, rfl, by decide⟩
theorem d_Model_limitFailure_27 : ob_dc k_Model_limitFailure 27 (.invokevirtual 360) 3 30 := ⟨by decide +kernel, rfl⟩
theorem d_Model_limitFailure_24 : ob_dv ob_ac k_Model_limitFailure 24 25 0 (.aload_n 0) 1 := ⟨by decide +kernel, rfl, rfl⟩
theorem d_Model_limitFailure_21 : ob_dc k_Model_limitFailure 21 (.invokevirtual 360) 3 24 := ⟨by decide +kernel, rfl⟩
theorem d_Model_limitFailure_19 : ob_dv ob_ac k_Model_limitFailure 19 20 0 (.aload_n 0) 1 := ⟨by decide +kernel, rfl, rfl⟩
theorem d_Model_limitFailure_16 : ob_db k_Model_limitFailure 16 (.ifCond .eq 48) 48 19 64 := ⟨by decide +kernel, rfl, by decide⟩
theorem d_Model_limitFailure_13 : ob_dc k_Model_limitFailure 13 (.invokevirtual 302) 3 16 := ⟨by decide +kernel, rfl⟩
theorem d_Model_limitFailure_11 : ob_dv ob_ac k_Model_limitFailure 11 12 0 (.aload_n 0) 1 := ⟨by decide +kernel, rfl, rfl⟩
theorem d_Model_limitFailure_8 : ob_db k_Model_limitFailure 8 (.if_icmp .ne 89) 89 11 97 := ⟨by decide +kernel, rfl, by decide⟩
theorem d_Model_limitFailure_6 : ob_dv ob_lc k_Model_limitFailure 6 7 1 (.iload_n 1) 1 := ⟨by decide +kernel, rfl, rfl⟩
theorem d_Model_limitFailure_5 : ob_dv (ob_sc k_Model_limitFailure.2.2.2.1) k_Model_limitFailure 5 6 2 (.istore_n 2) 1 := ⟨by decide +kernel, rfl, ⟨rfl, by decide +kernel⟩⟩
theorem d_Model_limitFailure_2 : ob_dc k_Model_limitFailure 2 (.invokevirtual 302) 3 5 := ⟨by decide +kernel, rfl⟩
theorem d_Model_limitFailure_0 : ob_dv ob_ac k_Model_limitFailure 0 1 0 (.aload_n 0) 1 := ⟨by decide +kernel, rfl, rfl⟩
theorem c_Model_limitFailure_302 : ob_vd k_Model_limitFailure k_Model_data 302 1 12 := ⟨cw_Model_data, yd_Model_data, w_1504, w_1506, wp_72, w_14, ⟨_, _, rfl⟩, by decide, by decide⟩
theorem c_Model_limitFailure_360 : ob_vd k_Model_limitFailure k_Model_dataFour 360 1 12 := ⟨cw_Model_dataFour, yd_Model_dataFour, w_1524, w_1526, wp_77, w_14, ⟨_, _, rfl⟩, by decide, by decide⟩
def f_Model_limitFailure (S : ob_S) (v0 : Nat) (v1 : Int32) (D : ob_D) : Option (Int32 × ob_D) :=
  ob_bd (f_Model_data S v0 (0 : Int32) D) fun x3 D1 => (if v1 = (5 : Int32) then ob_bd (f_Model_data S v0 (2 : Int32) D1) fun x12 D10 => (if x12 = 0 then some ((13 : Int32), D10) else ob_bd (f_Model_dataFour S v0 (3 : Int32) D10) fun x15 D13 => ob_bd (f_Model_dataFour S v0 (7 : Int32) D13) fun x18 D16 => (if x18 < x15 then some ((13 : Int32), D16) else ob_bd (f_Model_data S v0 (12 : Int32) D16) fun x21 D19 => (if (1 : Int32) < x21 then some ((13 : Int32), D19) else ob_bd (f_Model_data S v0 (1 : Int32) D19) fun x24 D22 => (if (31 : Int32) < x24 then some ((13 : Int32), D22) else ob_bd (f_Model_data S v0 (11 : Int32) D22) fun x27 D25 => (if x27 ≤ (31 : Int32) then if D25.2.1 v0 47 ≠ 0 then if ob_in x3 (S.2.1 (D25.2.1 v0 47)) then (if (D25.1 (D25.2.1 v0 47) x3.toNatClampNeg) = 0 then (if (D25.1 v0 56) = (16 : Int32) then some ((26 : Int32), D25) else some ((0 : Int32), D25)) else some ((25 : Int32), D25)) else none else none else some ((13 : Int32), D25)))))) else if D1.2.1 v0 47 ≠ 0 then if ob_in x3 (S.2.1 (D1.2.1 v0 47)) then (if (D1.1 (D1.2.1 v0 47) x3.toNatClampNeg) = 0 then some ((27 : Int32), D1) else (if v1 = (6 : Int32) then if D1.2.1 v0 48 ≠ 0 then if ob_in x3 (S.2.1 (D1.2.1 v0 48)) then (if (D1.1 (D1.2.1 v0 48) x3.toNatClampNeg) = 0 then some ((0 : Int32), D1) else some ((15 : Int32), D1)) else none else none else some ((0 : Int32), D1))) else none else none)
theorem c_Model_limitFailure {l : Launch} {E : ob_E} {S : ob_S} {D : ob_D} {v0 : Nat} {v1 : Int32} {r : Int32} {D' : ob_D} (hp_v0 : S.1 v0 = 13) (h : f_Model_limitFailure S v0 v1 D = some (r, D')) : ob_M l E k_Model_limitFailure [.ref v0, .int v1] S D (some (.int r)) S D' := by
  refine ob_ofV (lo := [(0, .ref v0), (1, .int v1)]) (by decide) rfl (Nat.le_of_ble_eq_true rfl) rfl (Nat.le_refl _) (Nat.le_refl _) ?_
  rw [f_Model_limitFailure] at h
  refine ob_aload d_Model_limitFailure_0 rfl ?_
  refine ob_push d_Model_limitFailure_1 ?_
  obtain ⟨x3, D1, h2, h⟩ := ob_bd_e h
  refine ob_callVi (As := [.int (0 : Int32)]) (rest := []) d_Model_limitFailure_2 c_Model_limitFailure_302 hp_v0 rfl rfl (Nat.le_of_ble_eq_true rfl) (c_Model_data hp_v0 h2) ⟨Nat.le_refl _, Nat.le_refl _⟩ ⟨Nat.le_refl _, Nat.le_refl _⟩ ?_
  refine ob_istore (lo2 := [(0, .ref v0), (1, .int v1), (2, .int x3)]) d_Model_limitFailure_5 rfl ?_
  refine ob_iload d_Model_limitFailure_6 rfl ?_
  refine ob_push d_Model_limitFailure_7 ?_
  refine ob_icmp_ne d_Model_limitFailure_8 (fun hc => ?_) (fun hc => ?_)
  · replace h := ob_iff hc h
    refine ob_aload d_Model_limitFailure_97 rfl ?_
    obtain ⟨hg5, h⟩ := ob_gd h
    refine ob_getR d_Model_limitFailure_98 F_12_47 l_Model_73 hp_v0 hg5 (fun hk4 => ?_)
    refine ob_iload d_Model_limitFailure_101 rfl ?_
    obtain ⟨hg6, h⟩ := ob_gd h
    refine ob_zald d_Model_limitFailure_102 hk4 hg6 ?_
    refine ob_if_ne d_Model_limitFailure_103 (fun hc => ?_) (fun hc => ?_)
    · replace h := ob_iff hc h
      refine ob_iload d_Model_limitFailure_111 rfl ?_
      refine ob_push d_Model_limitFailure_112 ?_
      refine ob_icmp_ne d_Model_limitFailure_114 (fun hc => ?_) (fun hc => ?_)
      · replace h := ob_iff hc h
        refine ob_push d_Model_limitFailure_131 ?_
        exact ob_ie h (ob_iret d_Model_limitFailure_132 rfl rfl)
      · replace h := ob_ift hc h
        refine ob_aload d_Model_limitFailure_117 rfl ?_
        obtain ⟨hg8, h⟩ := ob_gd h
        refine ob_getR d_Model_limitFailure_118 F_12_48 l_Model_76 hp_v0 hg8 (fun hk7 => ?_)
        refine ob_iload d_Model_limitFailure_121 rfl ?_
        obtain ⟨hg9, h⟩ := ob_gd h
        refine ob_zald d_Model_limitFailure_122 hk7 hg9 ?_
        refine ob_if_eq d_Model_limitFailure_123 (fun hc => ?_) (fun hc => ?_)
        · replace h := ob_ift hc h
          refine ob_push d_Model_limitFailure_131 ?_
          exact ob_ie h (ob_iret d_Model_limitFailure_132 rfl rfl)
        · replace h := ob_iff hc h
          refine ob_push d_Model_limitFailure_126 ?_
          refine ob_goto d_Model_limitFailure_128 ?_
          exact ob_ie h (ob_iret d_Model_limitFailure_132 rfl rfl)
    · replace h := ob_ift hc h
      refine ob_push d_Model_limitFailure_106 ?_
      refine ob_goto d_Model_limitFailure_108 ?_
      exact ob_ie h (ob_iret d_Model_limitFailure_132 rfl rfl)
  · replace h := ob_ift hc h
    refine ob_aload d_Model_limitFailure_11 rfl ?_
    refine ob_push d_Model_limitFailure_12 ?_
    obtain ⟨x12, D10, h11, h⟩ := ob_bd_e h
    refine ob_callVi (As := [.int (2 : Int32)]) (rest := []) d_Model_limitFailure_13 c_Model_limitFailure_302 hp_v0 rfl rfl (Nat.le_of_ble_eq_true rfl) (c_Model_data hp_v0 h11) ⟨Nat.le_refl _, Nat.le_refl _⟩ ⟨Nat.le_refl _, Nat.le_refl _⟩ ?_
    refine ob_if_eq d_Model_limitFailure_16 (fun hc => ?_) (fun hc => ?_)
    · replace h := ob_ift hc h
      refine ob_push d_Model_limitFailure_64 ?_
      exact ob_ie h (ob_iret d_Model_limitFailure_66 rfl rfl)
    · replace h := ob_iff hc h
      refine ob_aload d_Model_limitFailure_19 rfl ?_
      refine ob_push d_Model_limitFailure_20 ?_
      obtain ⟨x15, D13, h14, h⟩ := ob_bd_e h
      refine ob_callVi (As := [.int (3 : Int32)]) (rest := []) d_Model_limitFailure_21 c_Model_limitFailure_360 hp_v0 rfl rfl (Nat.le_of_ble_eq_true rfl) (c_Model_dataFour hp_v0 h14) ⟨Nat.le_refl _, Nat.le_refl _⟩ ⟨Nat.le_refl _, Nat.le_refl _⟩ ?_
      refine ob_aload d_Model_limitFailure_24 rfl ?_
      refine ob_push d_Model_limitFailure_25 ?_
      obtain ⟨x18, D16, h17, h⟩ := ob_bd_e h
      refine ob_callVi (As := [.int (7 : Int32)]) (rest := [.int x15]) d_Model_limitFailure_27 c_Model_limitFailure_360 hp_v0 rfl rfl (Nat.le_of_ble_eq_true rfl) (c_Model_dataFour hp_v0 h17) ⟨Nat.le_refl _, Nat.le_refl _⟩ ⟨Nat.le_refl _, Nat.le_refl _⟩ ?_
      refine ob_icmp_gt d_Model_limitFailure_30 (fun hc => ?_) (fun hc => ?_)
      · replace h := ob_ift hc h
        refine ob_push d_Model_limitFailure_64 ?_
        exact ob_ie h (ob_iret d_Model_limitFailure_66 rfl rfl)
      · replace h := ob_iff hc h
        refine ob_aload d_Model_limitFailure_33 rfl ?_
        refine ob_push d_Model_limitFailure_34 ?_
        obtain ⟨x21, D19, h20, h⟩ := ob_bd_e h
        refine ob_callVi (As := [.int (12 : Int32)]) (rest := []) d_Model_limitFailure_36 c_Model_limitFailure_302 hp_v0 rfl rfl (Nat.le_of_ble_eq_true rfl) (c_Model_data hp_v0 h20) ⟨Nat.le_refl _, Nat.le_refl _⟩ ⟨Nat.le_refl _, Nat.le_refl _⟩ ?_
        refine ob_push d_Model_limitFailure_39 ?_
        refine ob_icmp_gt d_Model_limitFailure_40 (fun hc => ?_) (fun hc => ?_)
        · replace h := ob_ift hc h
          refine ob_push d_Model_limitFailure_64 ?_
          exact ob_ie h (ob_iret d_Model_limitFailure_66 rfl rfl)
        · replace h := ob_iff hc h
          refine ob_aload d_Model_limitFailure_43 rfl ?_
          refine ob_push d_Model_limitFailure_44 ?_
          obtain ⟨x24, D22, h23, h⟩ := ob_bd_e h
          refine ob_callVi (As := [.int (1 : Int32)]) (rest := []) d_Model_limitFailure_45 c_Model_limitFailure_302 hp_v0 rfl rfl (Nat.le_of_ble_eq_true rfl) (c_Model_data hp_v0 h23) ⟨Nat.le_refl _, Nat.le_refl _⟩ ⟨Nat.le_refl _, Nat.le_refl _⟩ ?_
          refine ob_push d_Model_limitFailure_48 ?_
          refine ob_icmp_gt d_Model_limitFailure_50 (fun hc => ?_) (fun hc => ?_)
          · replace h := ob_ift hc h
            refine ob_push d_Model_limitFailure_64 ?_
            exact ob_ie h (ob_iret d_Model_limitFailure_66 rfl rfl)
          · replace h := ob_iff hc h
            refine ob_aload d_Model_limitFailure_53 rfl ?_
            refine ob_push d_Model_limitFailure_54 ?_
            obtain ⟨x27, D25, h26, h⟩ := ob_bd_e h
            refine ob_callVi (As := [.int (11 : Int32)]) (rest := []) d_Model_limitFailure_56 c_Model_limitFailure_302 hp_v0 rfl rfl (Nat.le_of_ble_eq_true rfl) (c_Model_data hp_v0 h26) ⟨Nat.le_refl _, Nat.le_refl _⟩ ⟨Nat.le_refl _, Nat.le_refl _⟩ ?_
            refine ob_push d_Model_limitFailure_59 ?_
            refine ob_icmp_le d_Model_limitFailure_61 (fun hc => ?_) (fun hc => ?_)
            · replace h := ob_ift hc h
              refine ob_aload d_Model_limitFailure_67 rfl ?_
              obtain ⟨hg29, h⟩ := ob_gd h
              refine ob_getR d_Model_limitFailure_68 F_12_47 l_Model_73 hp_v0 hg29 (fun hk28 => ?_)
              refine ob_iload d_Model_limitFailure_71 rfl ?_
              obtain ⟨hg30, h⟩ := ob_gd h
              refine ob_zald d_Model_limitFailure_72 hk28 hg30 ?_
              refine ob_if_eq d_Model_limitFailure_73 (fun hc => ?_) (fun hc => ?_)
              · replace h := ob_ift hc h
                refine ob_aload d_Model_limitFailure_81 rfl ?_
                refine ob_getI d_Model_limitFailure_82 F_12_56 l_Model_389 hp_v0 ?_
                refine ob_push d_Model_limitFailure_85 ?_
                refine ob_icmp_ne d_Model_limitFailure_87 (fun hc => ?_) (fun hc => ?_)
                · replace h := ob_iff hc h
                  refine ob_push d_Model_limitFailure_95 ?_
                  exact ob_ie h (ob_iret d_Model_limitFailure_96 rfl rfl)
                · replace h := ob_ift hc h
                  refine ob_push d_Model_limitFailure_90 ?_
                  refine ob_goto d_Model_limitFailure_92 ?_
                  exact ob_ie h (ob_iret d_Model_limitFailure_96 rfl rfl)
              · replace h := ob_iff hc h
                refine ob_push d_Model_limitFailure_76 ?_
                refine ob_goto d_Model_limitFailure_78 ?_
                exact ob_ie h (ob_iret d_Model_limitFailure_96 rfl rfl)
            · replace h := ob_iff hc h
              refine ob_push d_Model_limitFailure_64 ?_
              exact ob_ie h (ob_iret d_Model_limitFailure_66 rfl rfl)
-- OrbitBoxModel.storeFailure(I)I
theorem d_Model_storeFailure_1 : ob_dk k_Model_storeFailure 1 2 (1 : Int32) (.iconst 1) 1 := ⟨by decide +kernel, rfl, show Int32.ofInt 1 = (1 : Int32) by decide +kernel⟩
theorem d_Model_storeFailure_11 : ob_dk k_Model_storeFailure 11 12 (0 : Int32) (.iconst 0) 1 := ⟨by decide +kernel, rfl, show Int32.ofInt 0 = (0 : Int32) by decide +kernel⟩
theorem d_Model_storeFailure_15 : ob_dk k_Model_storeFailure 15 17 (31 : Int32) (.bipush 31) 2 := ⟨by decide +kernel, rfl, show (Int8.ofInt 31).toInt32 = (31 : Int32) by decide +kernel⟩
theorem d_Model_storeFailure_25 : ob_dk k_Model_storeFailure 25 26 (0 : Int32) (.iconst 0) 1 := ⟨by decide +kernel, rfl, show Int32.ofInt 0 = (0 : Int32) by decide +kernel⟩
theorem d_Model_storeFailure_26 : ob_dc k_Model_storeFailure 26 (.ireturn) 1 27 := ⟨by decide +kernel, rfl⟩
theorem d_Model_storeFailure_20 : ob_dk k_Model_storeFailure 20 22 (32 : Int32) (.bipush 32) 2 := ⟨by decide +kernel, rfl, show (Int8.ofInt 32).toInt32 = (32 : Int32) by decide +kernel⟩
theorem d_Model_storeFailure_22 : ob_db k_Model_storeFailure 22 (.goto 4) 4 25 26 := ⟨by decide +kernel, rfl, by decide⟩
theorem d_Model_storeFailure_17 : ob_db k_Model_storeFailure 17 (.if_icmp .le 8) 8 20 25 := ⟨by decide +kernel, rfl, by decide⟩
theorem d_Model_storeFailure_12 : ob_dc k_Model_storeFailure 12 (.invokevirtual 302) 3 15 := ⟨by decide +kernel, rfl⟩
theorem d_Model_storeFailure_10 : ob_dv ob_ac k_Model_storeFailure 10 11 0 (.aload_n 0) 1 := ⟨by decide +kernel, rfl, rfl⟩
theorem d_Model_storeFailure_6 : ob_dk k_Model_storeFailure 6 7 (2 : Int32) (.iconst 2) 1 := ⟨by decide +kernel, rfl, show Int32.ofInt 2 = (2 : Int32) by decide +kernel⟩
theorem d_Model_storeFailure_28 : ob_dk k_Model_storeFailure 28 30 (9 : Int32) (.bipush 9) 2 := ⟨by decide +kernel, rfl, show (Int8.ofInt 9).toInt32 = (9 : Int32) by decide +kernel⟩
theorem d_Model_storeFailure_48 : ob_dk k_Model_storeFailure 48 50 (12 : Int32) (.bipush 12) 2 := ⟨by decide +kernel, rfl, show (Int8.ofInt 12).toInt32 = (12 : Int32) by decide +kernel⟩
theorem d_Model_storeFailure_65 : ob_dk k_Model_storeFailure 65 66 (0 : Int32) (.iconst 0) 1 := ⟨by decide +kernel, rfl, show Int32.ofInt 0 = (0 : Int32) by decide +kernel⟩
theorem d_Model_storeFailure_66 : ob_dc k_Model_storeFailure 66 (.ireturn) 1 67 := ⟨by decide +kernel, rfl⟩
theorem d_Model_storeFailure_60 : ob_dk k_Model_storeFailure 60 62 (28 : Int32) (.bipush 28) 2 := ⟨by decide +kernel, rfl, show (Int8.ofInt 28).toInt32 = (28 : Int32) by decide +kernel⟩
theorem d_Model_storeFailure_62 : ob_db k_Model_storeFailure 62 (.goto 4) 4 65 66 := ⟨by decide +kernel, rfl, by decide⟩
theorem d_Model_storeFailure_57 : ob_db k_Model_storeFailure 57 (.ifCond .ne 8) 8 60 65 := ⟨by decide +kernel, rfl, by decide⟩
theorem d_Model_storeFailure_54 : ob_dc k_Model_storeFailure 54 (.getfield 449) 3 57 := ⟨by decide +kernel, rfl⟩
theorem d_Model_storeFailure_53 : ob_dv ob_ac k_Model_storeFailure 53 54 0 (.aload_n 0) 1 := ⟨by decide +kernel, rfl, rfl⟩
theorem d_Model_storeFailure_50 : ob_db k_Model_storeFailure 50 (.if_icmp .ne 15) 15 53 65 := ⟨by decide +kernel, rfl, by decide⟩
theorem d_Model_storeFailure_47 : ob_dv ob_lc k_Model_storeFailure 47 48 1 (.iload_n 1) 1 := ⟨by decide +kernel, rfl, rfl⟩
theorem d_Model_storeFailure_45 : ob_dk k_Model_storeFailure 45 46 (0 : Int32) (.iconst 0) 1 := ⟨by decide +kernel, rfl, show Int32.ofInt 0 = (0 : Int32) by decide +kernel⟩
theorem d_Model_storeFailure_46 : ob_dc k_Model_storeFailure 46 (.ireturn) 1 47 := ⟨by decide +kernel, rfl⟩
theorem d_Model_storeFailure_40 : ob_dk k_Model_storeFailure 40 42 (28 : Int32) (.bipush 28) 2 := ⟨by decide +kernel, rfl, show (Int8.ofInt 28).toInt32 = (28 : Int32) by decide +kernel⟩
theorem d_Model_storeFailure_42 : ob_db k_Model_storeFailure 42 (.goto 4) 4 45 46 := ⟨by decide +kernel, rfl, by decide⟩
theorem d_Model_storeFailure_37 : ob_db k_Model_storeFailure 37 (.ifCond .eq 8) 8 40 45 := ⟨by decide +kernel, rfl, by decide⟩
theorem d_Model_storeFailure_34 : ob_dc k_Model_storeFailure 34 (.getfield 449) 3 37 := ⟨by decide +kernel, rfl⟩
theorem d_Model_storeFailure_33 : ob_dv ob_ac k_Model_storeFailure 33 34 0 (.aload_n 0) 1 := ⟨by decide +kernel, rfl, rfl⟩
theorem d_Model_storeFailure_30 : ob_db k_Model_storeFailure 30 (.if_icmp .ne 17) 17 33 47 := ⟨by decide +kernel, rfl, by decide⟩
theorem d_Model_storeFailure_27 : ob_dv ob_lc k_Model_storeFailure 27 28 1 (.iload_n 1) 1 := ⟨by decide +kernel, rfl, rfl⟩
theorem d_Model_storeFailure_7 : ob_db k_Model_storeFailure 7 (.if_icmp .ne 20) 20 10 27 := ⟨by decide +kernel, rfl, by decide⟩
theorem d_Model_storeFailure_5 : ob_dv ob_lc k_Model_storeFailure 5 6 1 (.iload_n 1) 1 := ⟨by decide +kernel, rfl, rfl⟩
theorem d_Model_storeFailure_2 : ob_db k_Model_storeFailure 2 (.if_icmp .eq 8) 8 5 10 := ⟨by decide +kernel, rfl, by decide⟩
theorem d_Model_storeFailure_0 : ob_dv ob_lc k_Model_storeFailure 0 1 1 (.iload_n 1) 1 := ⟨by decide +kernel, rfl, rfl⟩
theorem c_Model_storeFailure_302 : ob_vd k_Model_storeFailure k_Model_data 302 1 12 := ⟨cw_Model_data, yd_Model_data, w_1504, w_1506, wp_72, w_14, ⟨_, _, rfl⟩, by decide, by decide⟩
def f_Model_storeFailure_L10 (S : ob_S) (v0 : Nat) (D : ob_D) : Option (Int32 × ob_D) :=
  ob_bd (f_Model_data S v0 (0 : Int32) D) fun x3 D1 => (if x3 ≤ (31 : Int32) then some ((0 : Int32), D1) else some ((32 : Int32), D1))
theorem v_Model_storeFailure_L10 {l : Launch} {E : ob_E} {S : ob_S} {r : Int32} {D' : ob_D} : ∀ (v0 : Nat) (D : ob_D), S.1 v0 = 13 → f_Model_storeFailure_L10 S v0 D = some (r, D') → ob_V l E k_Model_storeFailure 10 [(0, .ref v0)] [] S D (some (.int r)) S D' := by
  intro v0 D hp_v0 h
  rw [f_Model_storeFailure_L10] at h
  refine ob_aload d_Model_storeFailure_10 rfl ?_
  refine ob_push d_Model_storeFailure_11 ?_
  obtain ⟨x3, D1, h2, h⟩ := ob_bd_e h
  refine ob_callVi (As := [.int (0 : Int32)]) (rest := []) d_Model_storeFailure_12 c_Model_storeFailure_302 hp_v0 rfl rfl (Nat.le_of_ble_eq_true rfl) (c_Model_data hp_v0 h2) ⟨Nat.le_refl _, Nat.le_refl _⟩ ⟨Nat.le_refl _, Nat.le_refl _⟩ ?_
  refine ob_push d_Model_storeFailure_15 ?_
  refine ob_icmp_le d_Model_storeFailure_17 (fun hc => ?_) (fun hc => ?_)
  · replace h := ob_ift hc h
    refine ob_push d_Model_storeFailure_25 ?_
    exact ob_ie h (ob_iret d_Model_storeFailure_26 rfl rfl)
  · replace h := ob_iff hc h
    refine ob_push d_Model_storeFailure_20 ?_
    refine ob_goto d_Model_storeFailure_22 ?_
    exact ob_ie h (ob_iret d_Model_storeFailure_26 rfl rfl)
def f_Model_storeFailure (S : ob_S) (v0 : Nat) (v1 : Int32) (D : ob_D) : Option (Int32 × ob_D) :=
  (if v1 = (1 : Int32) then f_Model_storeFailure_L10 S v0 D else (if v1 = (2 : Int32) then f_Model_storeFailure_L10 S v0 D else (if v1 = (9 : Int32) then (if (D.1 v0 80) = 0 then some ((0 : Int32), D) else some ((28 : Int32), D)) else (if v1 = (12 : Int32) then (if (D.1 v0 80) = 0 then some ((28 : Int32), D) else some ((0 : Int32), D)) else some ((0 : Int32), D)))))
theorem c_Model_storeFailure {l : Launch} {E : ob_E} {S : ob_S} {D : ob_D} {v0 : Nat} {v1 : Int32} {r : Int32} {D' : ob_D} (hp_v0 : S.1 v0 = 13) (h : f_Model_storeFailure S v0 v1 D = some (r, D')) : ob_M l E k_Model_storeFailure [.ref v0, .int v1] S D (some (.int r)) S D' := by
  refine ob_ofV (lo := [(0, .ref v0), (1, .int v1)]) (by decide) rfl (Nat.le_of_ble_eq_true rfl) rfl (Nat.le_refl _) (Nat.le_refl _) ?_
  rw [f_Model_storeFailure] at h
  refine ob_iload d_Model_storeFailure_0 rfl ?_
  refine ob_push d_Model_storeFailure_1 ?_
  refine ob_icmp_eq d_Model_storeFailure_2 (fun hc => ?_) (fun hc => ?_)
  · replace h := ob_ift hc h
    refine ob_sub (lo2 := [(0, .ref v0)]) [0] rfl ?_
    exact v_Model_storeFailure_L10 v0 D hp_v0 h
  · replace h := ob_iff hc h
    refine ob_iload d_Model_storeFailure_5 rfl ?_
    refine ob_push d_Model_storeFailure_6 ?_
    refine ob_icmp_ne d_Model_storeFailure_7 (fun hc => ?_) (fun hc => ?_)
    · replace h := ob_iff hc h
      refine ob_iload d_Model_storeFailure_27 rfl ?_
      refine ob_push d_Model_storeFailure_28 ?_
      refine ob_icmp_ne d_Model_storeFailure_30 (fun hc => ?_) (fun hc => ?_)
      · replace h := ob_iff hc h
        refine ob_iload d_Model_storeFailure_47 rfl ?_
        refine ob_push d_Model_storeFailure_48 ?_
        refine ob_icmp_ne d_Model_storeFailure_50 (fun hc => ?_) (fun hc => ?_)
        · replace h := ob_iff hc h
          refine ob_push d_Model_storeFailure_65 ?_
          exact ob_ie h (ob_iret d_Model_storeFailure_66 rfl rfl)
        · replace h := ob_ift hc h
          refine ob_aload d_Model_storeFailure_53 rfl ?_
          refine ob_getI d_Model_storeFailure_54 F_12_80 l_Model_449 hp_v0 ?_
          refine ob_if_ne d_Model_storeFailure_57 (fun hc => ?_) (fun hc => ?_)
          · replace h := ob_iff hc h
            refine ob_push d_Model_storeFailure_65 ?_
            exact ob_ie h (ob_iret d_Model_storeFailure_66 rfl rfl)
          · replace h := ob_ift hc h
            refine ob_push d_Model_storeFailure_60 ?_
            refine ob_goto d_Model_storeFailure_62 ?_
            exact ob_ie h (ob_iret d_Model_storeFailure_66 rfl rfl)
      · replace h := ob_ift hc h
        refine ob_aload d_Model_storeFailure_33 rfl ?_
        refine ob_getI d_Model_storeFailure_34 F_12_80 l_Model_449 hp_v0 ?_
        refine ob_if_eq d_Model_storeFailure_37 (fun hc => ?_) (fun hc => ?_)
        · replace h := ob_ift hc h
          refine ob_push d_Model_storeFailure_45 ?_
          exact ob_ie h (ob_iret d_Model_storeFailure_46 rfl rfl)
        · replace h := ob_iff hc h
          refine ob_push d_Model_storeFailure_40 ?_
          refine ob_goto d_Model_storeFailure_42 ?_
          exact ob_ie h (ob_iret d_Model_storeFailure_46 rfl rfl)
    · replace h := ob_ift hc h
      refine ob_sub (lo2 := [(0, .ref v0)]) [0] rfl ?_
      exact v_Model_storeFailure_L10 v0 D hp_v0 h
-- OrbitBoxModel.actionFailure(I)I
theorem d_Model_actionFailure_1 : ob_dk k_Model_actionFailure 1 2 (0 : Int32) (.iconst 0) 1 := ⟨by decide +kernel, rfl, show Int32.ofInt 0 = (0 : Int32) by decide +kernel⟩
theorem d_Model_actionFailure_7 : ob_dk k_Model_actionFailure 7 9 (31 : Int32) (.bipush 31) 2 := ⟨by decide +kernel, rfl, show (Int8.ofInt 31).toInt32 = (31 : Int32) by decide +kernel⟩
theorem d_Model_actionFailure_16 : ob_dk k_Model_actionFailure 16 17 (1 : Int32) (.iconst 1) 1 := ⟨by decide +kernel, rfl, show Int32.ofInt 1 = (1 : Int32) by decide +kernel⟩
theorem d_Model_actionFailure_75 : ob_dk k_Model_actionFailure 75 76 (2 : Int32) (.iconst 2) 1 := ⟨by decide +kernel, rfl, show Int32.ofInt 2 = (2 : Int32) by decide +kernel⟩
theorem d_Model_actionFailure_93 : ob_dk k_Model_actionFailure 93 94 (0 : Int32) (.iconst 0) 1 := ⟨by decide +kernel, rfl, show Int32.ofInt 0 = (0 : Int32) by decide +kernel⟩
theorem d_Model_actionFailure_94 : ob_dc k_Model_actionFailure 94 (.ireturn) 1 95 := ⟨by decide +kernel, rfl⟩
theorem d_Model_actionFailure_88 : ob_dk k_Model_actionFailure 88 90 (15 : Int32) (.bipush 15) 2 := ⟨by decide +kernel, rfl, show (Int8.ofInt 15).toInt32 = (15 : Int32) by decide +kernel⟩
theorem d_Model_actionFailure_90 : ob_db k_Model_actionFailure 90 (.goto 4) 4 93 94 := ⟨by decide +kernel, rfl, by decide⟩
theorem d_Model_actionFailure_85 : ob_db k_Model_actionFailure 85 (.ifCond .eq 8) 8 88 93 := ⟨by decide +kernel, rfl, by decide⟩
theorem d_Model_actionFailure_84 : ob_dc k_Model_actionFailure 84 (.baload) 1 85 := ⟨by decide +kernel, rfl⟩
theorem d_Model_actionFailure_83 : ob_dv ob_lc k_Model_actionFailure 83 84 2 (.iload_n 2) 1 := ⟨by decide +kernel, rfl, rfl⟩
theorem d_Model_actionFailure_80 : ob_dc k_Model_actionFailure 80 (.getfield 106) 3 83 := ⟨by decide +kernel, rfl⟩
theorem d_Model_actionFailure_79 : ob_dv ob_ac k_Model_actionFailure 79 80 0 (.aload_n 0) 1 := ⟨by decide +kernel, rfl, rfl⟩
theorem d_Model_actionFailure_76 : ob_db k_Model_actionFailure 76 (.if_icmp .ne 17) 17 79 93 := ⟨by decide +kernel, rfl, by decide⟩
theorem d_Model_actionFailure_74 : ob_dv ob_lc k_Model_actionFailure 74 75 1 (.iload_n 1) 1 := ⟨by decide +kernel, rfl, rfl⟩
theorem d_Model_actionFailure_69 : ob_dk k_Model_actionFailure 69 71 (30 : Int32) (.bipush 30) 2 := ⟨by decide +kernel, rfl, show (Int8.ofInt 30).toInt32 = (30 : Int32) by decide +kernel⟩
theorem d_Model_actionFailure_71 : ob_db k_Model_actionFailure 71 (.goto 23) 23 74 94 := ⟨by decide +kernel, rfl, by decide⟩
theorem d_Model_actionFailure_66 : ob_db k_Model_actionFailure 66 (.ifCond .ne 8) 8 69 74 := ⟨by decide +kernel, rfl, by decide⟩
theorem d_Model_actionFailure_65 : ob_dc k_Model_actionFailure 65 (.baload) 1 66 := ⟨by decide +kernel, rfl⟩
theorem d_Model_actionFailure_64 : ob_dv ob_lc k_Model_actionFailure 64 65 2 (.iload_n 2) 1 := ⟨by decide +kernel, rfl, rfl⟩
theorem d_Model_actionFailure_61 : ob_dc k_Model_actionFailure 61 (.getfield 103) 3 64 := ⟨by decide +kernel, rfl⟩
theorem d_Model_actionFailure_60 : ob_dv ob_ac k_Model_actionFailure 60 61 0 (.aload_n 0) 1 := ⟨by decide +kernel, rfl, rfl⟩
theorem d_Model_actionFailure_24 : ob_dk k_Model_actionFailure 24 26 (12 : Int32) (.bipush 12) 2 := ⟨by decide +kernel, rfl, show (Int8.ofInt 12).toInt32 = (12 : Int32) by decide +kernel⟩
theorem d_Model_actionFailure_30 : ob_dk k_Model_actionFailure 30 32 (14 : Int32) (.bipush 14) 2 := ⟨by decide +kernel, rfl, show (Int8.ofInt 14).toInt32 = (14 : Int32) by decide +kernel⟩
theorem d_Model_actionFailure_58 : ob_dk k_Model_actionFailure 58 59 (0 : Int32) (.iconst 0) 1 := ⟨by decide +kernel, rfl, show Int32.ofInt 0 = (0 : Int32) by decide +kernel⟩
theorem d_Model_actionFailure_59 : ob_dc k_Model_actionFailure 59 (.ireturn) 1 60 := ⟨by decide +kernel, rfl⟩
theorem d_Model_actionFailure_53 : ob_dk k_Model_actionFailure 53 55 (29 : Int32) (.bipush 29) 2 := ⟨by decide +kernel, rfl, show (Int8.ofInt 29).toInt32 = (29 : Int32) by decide +kernel⟩
theorem d_Model_actionFailure_55 : ob_db k_Model_actionFailure 55 (.goto 4) 4 58 59 := ⟨by decide +kernel, rfl, by decide⟩
theorem d_Model_actionFailure_50 : ob_db k_Model_actionFailure 50 (.ifCond .eq 8) 8 53 58 := ⟨by decide +kernel, rfl, by decide⟩
theorem d_Model_actionFailure_49 : ob_dc k_Model_actionFailure 49 (.baload) 1 50 := ⟨by decide +kernel, rfl⟩
theorem d_Model_actionFailure_48 : ob_dv ob_lc k_Model_actionFailure 48 49 2 (.iload_n 2) 1 := ⟨by decide +kernel, rfl, rfl⟩
theorem d_Model_actionFailure_45 : ob_dc k_Model_actionFailure 45 (.getfield 103) 3 48 := ⟨by decide +kernel, rfl⟩
theorem d_Model_actionFailure_44 : ob_dv ob_ac k_Model_actionFailure 44 45 0 (.aload_n 0) 1 := ⟨by decide +kernel, rfl, rfl⟩
theorem d_Model_actionFailure_39 : ob_dk k_Model_actionFailure 39 41 (22 : Int32) (.bipush 22) 2 := ⟨by decide +kernel, rfl, show (Int8.ofInt 22).toInt32 = (22 : Int32) by decide +kernel⟩
theorem d_Model_actionFailure_41 : ob_db k_Model_actionFailure 41 (.goto 18) 18 44 59 := ⟨by decide +kernel, rfl, by decide⟩
theorem d_Model_actionFailure_36 : ob_db k_Model_actionFailure 36 (.ifCond .eq 8) 8 39 44 := ⟨by decide +kernel, rfl, by decide⟩
theorem d_Model_actionFailure_33 : ob_dc k_Model_actionFailure 33 (.invokestatic 282) 3 36 := ⟨by decide +kernel, rfl⟩
theorem d_Model_actionFailure_32 : ob_dc k_Model_actionFailure 32 (.isub) 1 33 := ⟨by decide +kernel, rfl⟩
theorem d_Model_actionFailure_27 : ob_dc k_Model_actionFailure 27 (.getfield 258) 3 30 := ⟨by decide +kernel, rfl⟩
theorem d_Model_actionFailure_26 : ob_dv ob_ac k_Model_actionFailure 26 27 0 (.aload_n 0) 1 := ⟨by decide +kernel, rfl, rfl⟩
theorem d_Model_actionFailure_21 : ob_dc k_Model_actionFailure 21 (.getfield 34) 3 24 := ⟨by decide +kernel, rfl⟩
theorem d_Model_actionFailure_20 : ob_dv ob_ac k_Model_actionFailure 20 21 0 (.aload_n 0) 1 := ⟨by decide +kernel, rfl, rfl⟩
theorem d_Model_actionFailure_17 : ob_db k_Model_actionFailure 17 (.if_icmp .ne 43) 43 20 60 := ⟨by decide +kernel, rfl, by decide⟩
theorem d_Model_actionFailure_15 : ob_dv ob_lc k_Model_actionFailure 15 16 1 (.iload_n 1) 1 := ⟨by decide +kernel, rfl, rfl⟩
theorem d_Model_actionFailure_12 : ob_dk k_Model_actionFailure 12 14 (16 : Int32) (.bipush 16) 2 := ⟨by decide +kernel, rfl, show (Int8.ofInt 16).toInt32 = (16 : Int32) by decide +kernel⟩
theorem d_Model_actionFailure_14 : ob_dc k_Model_actionFailure 14 (.ireturn) 1 15 := ⟨by decide +kernel, rfl⟩
theorem d_Model_actionFailure_9 : ob_db k_Model_actionFailure 9 (.if_icmp .le 6) 6 12 15 := ⟨by decide +kernel, rfl, by decide⟩
theorem d_Model_actionFailure_6 : ob_dv ob_lc k_Model_actionFailure 6 7 2 (.iload_n 2) 1 := ⟨by decide +kernel, rfl, rfl⟩
theorem d_Model_actionFailure_5 : ob_dv (ob_sc k_Model_actionFailure.2.2.2.1) k_Model_actionFailure 5 6 2 (.istore_n 2) 1 := ⟨by decide +kernel, rfl, ⟨rfl, by decide +kernel⟩⟩
theorem d_Model_actionFailure_2 : ob_dc k_Model_actionFailure 2 (.invokevirtual 302) 3 5 := ⟨by decide +kernel, rfl⟩
theorem d_Model_actionFailure_0 : ob_dv ob_ac k_Model_actionFailure 0 1 0 (.aload_n 0) 1 := ⟨by decide +kernel, rfl, rfl⟩
theorem c_Model_actionFailure_282 : ob_sd k_Model_actionFailure k_Model_faultOf 282 3 := ⟨cw_Model_faultOf, yd_Model_faultOf, w_1446, w_1447, w_14, by decide, by decide⟩
theorem c_Model_actionFailure_302 : ob_vd k_Model_actionFailure k_Model_data 302 1 12 := ⟨cw_Model_data, yd_Model_data, w_1504, w_1506, wp_72, w_14, ⟨_, _, rfl⟩, by decide, by decide⟩
def f_Model_actionFailure (S : ob_S) (v0 : Nat) (v1 : Int32) (D : ob_D) : Option (Int32 × ob_D) :=
  ob_bd (f_Model_data S v0 (0 : Int32) D) fun x3 D1 => (if x3 ≤ (31 : Int32) then (if v1 = (1 : Int32) then if D1.2.1 v0 27 ≠ 0 then ob_bd (f_Model_faultOf S (D1.2.1 v0 27) (12 : Int32) ((D1.1 v0 28) - (14 : Int32)) D1) fun x14 D12 => (if x14 = 0 then if D12.2.1 v0 61 ≠ 0 then if ob_in x3 (S.2.1 (D12.2.1 v0 61)) then (if (D12.1 (D12.2.1 v0 61) x3.toNatClampNeg) = 0 then some ((0 : Int32), D12) else some ((29 : Int32), D12)) else none else none else some ((22 : Int32), D12)) else none else if D1.2.1 v0 61 ≠ 0 then if ob_in x3 (S.2.1 (D1.2.1 v0 61)) then (if (D1.1 (D1.2.1 v0 61) x3.toNatClampNeg) = 0 then some ((30 : Int32), D1) else (if v1 = (2 : Int32) then if D1.2.1 v0 62 ≠ 0 then if ob_in x3 (S.2.1 (D1.2.1 v0 62)) then (if (D1.1 (D1.2.1 v0 62) x3.toNatClampNeg) = 0 then some ((0 : Int32), D1) else some ((15 : Int32), D1)) else none else none else some ((0 : Int32), D1))) else none else none) else some ((16 : Int32), D1))
theorem c_Model_actionFailure {l : Launch} {E : ob_E} {S : ob_S} {D : ob_D} {v0 : Nat} {v1 : Int32} {r : Int32} {D' : ob_D} (hp_v0 : S.1 v0 = 13) (h : f_Model_actionFailure S v0 v1 D = some (r, D')) : ob_M l E k_Model_actionFailure [.ref v0, .int v1] S D (some (.int r)) S D' := by
  refine ob_ofV (lo := [(0, .ref v0), (1, .int v1)]) (by decide) rfl (Nat.le_of_ble_eq_true rfl) rfl (Nat.le_refl _) (Nat.le_refl _) ?_
  rw [f_Model_actionFailure] at h
  refine ob_aload d_Model_actionFailure_0 rfl ?_
  refine ob_push d_Model_actionFailure_1 ?_
  obtain ⟨x3, D1, h2, h⟩ := ob_bd_e h
  refine ob_callVi (As := [.int (0 : Int32)]) (rest := []) d_Model_actionFailure_2 c_Model_actionFailure_302 hp_v0 rfl rfl (Nat.le_of_ble_eq_true rfl) (c_Model_data hp_v0 h2) ⟨Nat.le_refl _, Nat.le_refl _⟩ ⟨Nat.le_refl _, Nat.le_refl _⟩ ?_
  refine ob_istore (lo2 := [(0, .ref v0), (1, .int v1), (2, .int x3)]) d_Model_actionFailure_5 rfl ?_
  refine ob_iload d_Model_actionFailure_6 rfl ?_
  refine ob_push d_Model_actionFailure_7 ?_
  refine ob_icmp_le d_Model_actionFailure_9 (fun hc => ?_) (fun hc => ?_)
  · replace h := ob_ift hc h
    refine ob_iload d_Model_actionFailure_15 rfl ?_
    refine ob_push d_Model_actionFailure_16 ?_
    refine ob_icmp_ne d_Model_actionFailure_17 (fun hc => ?_) (fun hc => ?_)
    · replace h := ob_iff hc h
      refine ob_aload d_Model_actionFailure_60 rfl ?_
      obtain ⟨hg5, h⟩ := ob_gd h
      refine ob_getR d_Model_actionFailure_61 F_12_61 l_Model_103 hp_v0 hg5 (fun hk4 => ?_)
      refine ob_iload d_Model_actionFailure_64 rfl ?_
      obtain ⟨hg6, h⟩ := ob_gd h
      refine ob_zald d_Model_actionFailure_65 hk4 hg6 ?_
      refine ob_if_ne d_Model_actionFailure_66 (fun hc => ?_) (fun hc => ?_)
      · replace h := ob_iff hc h
        refine ob_iload d_Model_actionFailure_74 rfl ?_
        refine ob_push d_Model_actionFailure_75 ?_
        refine ob_icmp_ne d_Model_actionFailure_76 (fun hc => ?_) (fun hc => ?_)
        · replace h := ob_iff hc h
          refine ob_push d_Model_actionFailure_93 ?_
          exact ob_ie h (ob_iret d_Model_actionFailure_94 rfl rfl)
        · replace h := ob_ift hc h
          refine ob_aload d_Model_actionFailure_79 rfl ?_
          obtain ⟨hg8, h⟩ := ob_gd h
          refine ob_getR d_Model_actionFailure_80 F_12_62 l_Model_106 hp_v0 hg8 (fun hk7 => ?_)
          refine ob_iload d_Model_actionFailure_83 rfl ?_
          obtain ⟨hg9, h⟩ := ob_gd h
          refine ob_zald d_Model_actionFailure_84 hk7 hg9 ?_
          refine ob_if_eq d_Model_actionFailure_85 (fun hc => ?_) (fun hc => ?_)
          · replace h := ob_ift hc h
            refine ob_push d_Model_actionFailure_93 ?_
            exact ob_ie h (ob_iret d_Model_actionFailure_94 rfl rfl)
          · replace h := ob_iff hc h
            refine ob_push d_Model_actionFailure_88 ?_
            refine ob_goto d_Model_actionFailure_90 ?_
            exact ob_ie h (ob_iret d_Model_actionFailure_94 rfl rfl)
      · replace h := ob_ift hc h
        refine ob_push d_Model_actionFailure_69 ?_
        refine ob_goto d_Model_actionFailure_71 ?_
        exact ob_ie h (ob_iret d_Model_actionFailure_94 rfl rfl)
    · replace h := ob_ift hc h
      refine ob_aload d_Model_actionFailure_20 rfl ?_
      obtain ⟨hg11, h⟩ := ob_gd h
      refine ob_getR d_Model_actionFailure_21 F_12_27 l_Model_34 hp_v0 hg11 (fun hk10 => ?_)
      refine ob_push d_Model_actionFailure_24 ?_
      refine ob_aload d_Model_actionFailure_26 rfl ?_
      refine ob_getI d_Model_actionFailure_27 F_12_28 l_Model_258 hp_v0 ?_
      refine ob_push d_Model_actionFailure_30 ?_
      refine ob_isub d_Model_actionFailure_32 ?_
      obtain ⟨x14, D12, h13, h⟩ := ob_bd_e h
      refine ob_callSi (As := [.ref (D1.2.1 v0 27), .int (12 : Int32), .int ((D1.1 v0 28) - (14 : Int32))]) (rest := []) d_Model_actionFailure_33 c_Model_actionFailure_282 rfl rfl (Nat.le_of_ble_eq_true rfl) (c_Model_faultOf hk10 h13) ⟨Nat.le_refl _, Nat.le_refl _⟩ ⟨Nat.le_refl _, Nat.le_refl _⟩ ?_
      refine ob_if_eq d_Model_actionFailure_36 (fun hc => ?_) (fun hc => ?_)
      · replace h := ob_ift hc h
        refine ob_aload d_Model_actionFailure_44 rfl ?_
        obtain ⟨hg16, h⟩ := ob_gd h
        refine ob_getR d_Model_actionFailure_45 F_12_61 l_Model_103 hp_v0 hg16 (fun hk15 => ?_)
        refine ob_iload d_Model_actionFailure_48 rfl ?_
        obtain ⟨hg17, h⟩ := ob_gd h
        refine ob_zald d_Model_actionFailure_49 hk15 hg17 ?_
        refine ob_if_eq d_Model_actionFailure_50 (fun hc => ?_) (fun hc => ?_)
        · replace h := ob_ift hc h
          refine ob_push d_Model_actionFailure_58 ?_
          exact ob_ie h (ob_iret d_Model_actionFailure_59 rfl rfl)
        · replace h := ob_iff hc h
          refine ob_push d_Model_actionFailure_53 ?_
          refine ob_goto d_Model_actionFailure_55 ?_
          exact ob_ie h (ob_iret d_Model_actionFailure_59 rfl rfl)
      · replace h := ob_iff hc h
        refine ob_push d_Model_actionFailure_39 ?_
        refine ob_goto d_Model_actionFailure_41 ?_
        exact ob_ie h (ob_iret d_Model_actionFailure_59 rfl rfl)
  · replace h := ob_iff hc h
    refine ob_push d_Model_actionFailure_12 ?_
    exact ob_ie h (ob_iret d_Model_actionFailure_14 rfl rfl)
-- OrbitBoxModel.failure(II)I
theorem d_Model_failure_1 : decode k_Model_failure.2.2.1 1 = .ok (.tableswitch 141 3 19 #[83, 141, 89, 106, 141, 112, 141, 141, 117, 123, 141, 141, 129, 141, 141, 141, 135], 83) := by decide +kernel
theorem d_Model_failure_89 : ob_dc k_Model_failure 89 (.ireturn) 1 90 := ⟨by decide +kernel, rfl⟩
theorem d_Model_failure_86 : ob_dc k_Model_failure 86 (.invokevirtual 298) 3 89 := ⟨by decide +kernel, rfl⟩
theorem d_Model_failure_85 : ob_dv ob_lc k_Model_failure 85 86 2 (.iload_n 2) 1 := ⟨by decide +kernel, rfl, rfl⟩
theorem d_Model_failure_84 : ob_dv ob_ac k_Model_failure 84 85 0 (.aload_n 0) 1 := ⟨by decide +kernel, rfl, rfl⟩
theorem d_Model_failure_91 : ob_dk k_Model_failure 91 92 (0 : Int32) (.iconst 0) 1 := ⟨by decide +kernel, rfl, show Int32.ofInt 0 = (0 : Int32) by decide +kernel⟩
theorem d_Model_failure_95 : ob_dk k_Model_failure 95 97 (31 : Int32) (.bipush 31) 2 := ⟨by decide +kernel, rfl, show (Int8.ofInt 31).toInt32 = (31 : Int32) by decide +kernel⟩
theorem d_Model_failure_105 : ob_dk k_Model_failure 105 106 (0 : Int32) (.iconst 0) 1 := ⟨by decide +kernel, rfl, show Int32.ofInt 0 = (0 : Int32) by decide +kernel⟩
theorem d_Model_failure_106 : ob_dc k_Model_failure 106 (.ireturn) 1 107 := ⟨by decide +kernel, rfl⟩
theorem d_Model_failure_100 : ob_dk k_Model_failure 100 102 (16 : Int32) (.bipush 16) 2 := ⟨by decide +kernel, rfl, show (Int8.ofInt 16).toInt32 = (16 : Int32) by decide +kernel⟩
theorem d_Model_failure_102 : ob_db k_Model_failure 102 (.goto 4) 4 105 106 := ⟨by decide +kernel, rfl, by decide⟩
theorem d_Model_failure_97 : ob_db k_Model_failure 97 (.if_icmp .le 8) 8 100 105 := ⟨by decide +kernel, rfl, by decide⟩
theorem d_Model_failure_92 : ob_dc k_Model_failure 92 (.invokevirtual 302) 3 95 := ⟨by decide +kernel, rfl⟩
theorem d_Model_failure_90 : ob_dv ob_ac k_Model_failure 90 91 0 (.aload_n 0) 1 := ⟨by decide +kernel, rfl, rfl⟩
theorem d_Model_failure_112 : ob_dc k_Model_failure 112 (.ireturn) 1 113 := ⟨by decide +kernel, rfl⟩
theorem d_Model_failure_109 : ob_dc k_Model_failure 109 (.invokevirtual 305) 3 112 := ⟨by decide +kernel, rfl⟩
theorem d_Model_failure_108 : ob_dv ob_lc k_Model_failure 108 109 2 (.iload_n 2) 1 := ⟨by decide +kernel, rfl, rfl⟩
theorem d_Model_failure_107 : ob_dv ob_ac k_Model_failure 107 108 0 (.aload_n 0) 1 := ⟨by decide +kernel, rfl, rfl⟩
theorem d_Model_failure_117 : ob_dc k_Model_failure 117 (.ireturn) 1 118 := ⟨by decide +kernel, rfl⟩
theorem d_Model_failure_114 : ob_dc k_Model_failure 114 (.invokevirtual 308) 3 117 := ⟨by decide +kernel, rfl⟩
theorem d_Model_failure_113 : ob_dv ob_ac k_Model_failure 113 114 0 (.aload_n 0) 1 := ⟨by decide +kernel, rfl, rfl⟩
theorem d_Model_failure_123 : ob_dc k_Model_failure 123 (.ireturn) 1 124 := ⟨by decide +kernel, rfl⟩
theorem d_Model_failure_120 : ob_dc k_Model_failure 120 (.invokevirtual 312) 3 123 := ⟨by decide +kernel, rfl⟩
theorem d_Model_failure_119 : ob_dv ob_lc k_Model_failure 119 120 2 (.iload_n 2) 1 := ⟨by decide +kernel, rfl, rfl⟩
theorem d_Model_failure_118 : ob_dv ob_ac k_Model_failure 118 119 0 (.aload_n 0) 1 := ⟨by decide +kernel, rfl, rfl⟩
theorem d_Model_failure_129 : ob_dc k_Model_failure 129 (.ireturn) 1 130 := ⟨by decide +kernel, rfl⟩
theorem d_Model_failure_126 : ob_dc k_Model_failure 126 (.invokevirtual 315) 3 129 := ⟨by decide +kernel, rfl⟩
theorem d_Model_failure_125 : ob_dv ob_lc k_Model_failure 125 126 2 (.iload_n 2) 1 := ⟨by decide +kernel, rfl, rfl⟩
theorem d_Model_failure_124 : ob_dv ob_ac k_Model_failure 124 125 0 (.aload_n 0) 1 := ⟨by decide +kernel, rfl, rfl⟩
theorem d_Model_failure_135 : ob_dc k_Model_failure 135 (.ireturn) 1 136 := ⟨by decide +kernel, rfl⟩
theorem d_Model_failure_132 : ob_dc k_Model_failure 132 (.invokevirtual 318) 3 135 := ⟨by decide +kernel, rfl⟩
theorem d_Model_failure_131 : ob_dv ob_lc k_Model_failure 131 132 2 (.iload_n 2) 1 := ⟨by decide +kernel, rfl, rfl⟩
theorem d_Model_failure_130 : ob_dv ob_ac k_Model_failure 130 131 0 (.aload_n 0) 1 := ⟨by decide +kernel, rfl, rfl⟩
theorem d_Model_failure_141 : ob_dc k_Model_failure 141 (.ireturn) 1 142 := ⟨by decide +kernel, rfl⟩
theorem d_Model_failure_138 : ob_dc k_Model_failure 138 (.invokevirtual 321) 3 141 := ⟨by decide +kernel, rfl⟩
theorem d_Model_failure_137 : ob_dv ob_lc k_Model_failure 137 138 2 (.iload_n 2) 1 := ⟨by decide +kernel, rfl, rfl⟩
theorem d_Model_failure_136 : ob_dv ob_ac k_Model_failure 136 137 0 (.aload_n 0) 1 := ⟨by decide +kernel, rfl, rfl⟩
theorem d_Model_failure_142 : ob_dk k_Model_failure 142 143 (0 : Int32) (.iconst 0) 1 := ⟨by decide +kernel, rfl, show Int32.ofInt 0 = (0 : Int32) by decide +kernel⟩
theorem d_Model_failure_143 : ob_dc k_Model_failure 143 (.ireturn) 1 144 := ⟨by decide +kernel, rfl⟩
theorem d_Model_failure_0 : ob_dv ob_lc k_Model_failure 0 1 1 (.iload_n 1) 1 := ⟨by decide +kernel, rfl, rfl⟩
theorem c_Model_failure_298 : ob_vd k_Model_failure k_Model_formFailure 298 1 12 := ⟨cw_Model_formFailure, yd_Model_formFailure, w_1500, w_1502, wp_71, w_14, ⟨_, _, rfl⟩, by decide, by decide⟩
theorem c_Model_failure_302 : ob_vd k_Model_failure k_Model_data 302 1 12 := ⟨cw_Model_data, yd_Model_data, w_1504, w_1506, wp_72, w_14, ⟨_, _, rfl⟩, by decide, by decide⟩
theorem c_Model_failure_305 : ob_vd k_Model_failure k_Model_memoryFailure 305 1 12 := ⟨cw_Model_memoryFailure, yd_Model_memoryFailure, w_1508, w_1510, wp_73, w_14, ⟨_, _, rfl⟩, by decide, by decide⟩
theorem c_Model_failure_308 : ob_vd k_Model_failure k_Model_functionFailure 308 0 12 := ⟨cw_Model_functionFailure, yd_Model_functionFailure, w_1516, w_1518, wp_75, w_14, ⟨_, _, rfl⟩, by decide, by decide⟩
theorem c_Model_failure_312 : ob_vd k_Model_failure k_Model_tableFailure 312 1 12 := ⟨cw_Model_tableFailure, yd_Model_tableFailure, w_1520, w_1522, wp_76, w_14, ⟨_, _, rfl⟩, by decide, by decide⟩
theorem c_Model_failure_315 : ob_vd k_Model_failure k_Model_limitFailure 315 1 12 := ⟨cw_Model_limitFailure, yd_Model_limitFailure, w_1536, w_1538, wp_79, w_14, ⟨_, _, rfl⟩, by decide, by decide⟩
theorem c_Model_failure_318 : ob_vd k_Model_failure k_Model_storeFailure 318 1 12 := ⟨cw_Model_storeFailure, yd_Model_storeFailure, w_1540, w_1542, wp_80, w_14, ⟨_, _, rfl⟩, by decide, by decide⟩
theorem c_Model_failure_321 : ob_vd k_Model_failure k_Model_actionFailure 321 1 12 := ⟨cw_Model_actionFailure, yd_Model_actionFailure, w_1544, w_1546, wp_81, w_14, ⟨_, _, rfl⟩, by decide, by decide⟩
def f_Model_failure (S : ob_S) (v0 : Nat) (v1 : Int32) (v2 : Int32) (D : ob_D) : Option (Int32 × ob_D) :=
  (if v1 = (3 : Int32) then ob_bd (f_Model_formFailure S v0 v2 D) fun x3 D1 => some (x3, D1) else if v1 = (5 : Int32) then ob_bd (f_Model_data S v0 (0 : Int32) D) fun x7 D5 => (if x7 ≤ (31 : Int32) then some ((0 : Int32), D5) else some ((16 : Int32), D5)) else if v1 = (6 : Int32) then ob_bd (f_Model_memoryFailure S v0 v2 D) fun x11 D9 => some (x11, D9) else if v1 = (8 : Int32) then ob_bd (f_Model_functionFailure S v0 D) fun x15 D13 => some (x15, D13) else if v1 = (11 : Int32) then ob_bd (f_Model_tableFailure S v0 v2 D) fun x19 D17 => some (x19, D17) else if v1 = (12 : Int32) then ob_bd (f_Model_limitFailure S v0 v2 D) fun x23 D21 => some (x23, D21) else if v1 = (15 : Int32) then ob_bd (f_Model_storeFailure S v0 v2 D) fun x27 D25 => some (x27, D25) else if v1 = (19 : Int32) then ob_bd (f_Model_actionFailure S v0 v2 D) fun x31 D29 => some (x31, D29) else some ((0 : Int32), D))
theorem c_Model_failure {l : Launch} {E : ob_E} {S : ob_S} {D : ob_D} {v0 : Nat} {v1 : Int32} {v2 : Int32} {r : Int32} {D' : ob_D} (hp_v0 : S.1 v0 = 13) (h : f_Model_failure S v0 v1 v2 D = some (r, D')) : ob_M l E k_Model_failure [.ref v0, .int v1, .int v2] S D (some (.int r)) S D' := by
  refine ob_ofV (lo := [(0, .ref v0), (1, .int v1), (2, .int v2)]) (by decide) rfl (Nat.le_of_ble_eq_true rfl) rfl (Nat.le_refl _) (Nat.le_refl _) ?_
  rw [f_Model_failure] at h
  refine ob_iload d_Model_failure_0 rfl ?_
  by_cases hs4 : v1 = (3 : Int32)
  · replace h := ob_ift hs4 h
    refine ob_tabI (off := 83) (t := 84) d_Model_failure_1 hs4 (by decide +kernel) ?_
    refine ob_aload d_Model_failure_84 rfl ?_
    refine ob_iload d_Model_failure_85 rfl ?_
    obtain ⟨x3, D1, h2, h⟩ := ob_bd_e h
    refine ob_callVi (As := [.int v2]) (rest := []) d_Model_failure_86 c_Model_failure_298 hp_v0 rfl rfl (Nat.le_of_ble_eq_true rfl) (c_Model_formFailure hp_v0 h2) ⟨Nat.le_refl _, Nat.le_refl _⟩ ⟨Nat.le_refl _, Nat.le_refl _⟩ ?_
    exact ob_ie h (ob_iret d_Model_failure_89 rfl rfl)
  replace h := ob_iff hs4 h
  by_cases hs8 : v1 = (5 : Int32)
  · replace h := ob_ift hs8 h
    refine ob_tabI (off := 89) (t := 90) d_Model_failure_1 hs8 (by decide +kernel) ?_
    refine ob_aload d_Model_failure_90 rfl ?_
    refine ob_push d_Model_failure_91 ?_
    obtain ⟨x7, D5, h6, h⟩ := ob_bd_e h
    refine ob_callVi (As := [.int (0 : Int32)]) (rest := []) d_Model_failure_92 c_Model_failure_302 hp_v0 rfl rfl (Nat.le_of_ble_eq_true rfl) (c_Model_data hp_v0 h6) ⟨Nat.le_refl _, Nat.le_refl _⟩ ⟨Nat.le_refl _, Nat.le_refl _⟩ ?_
    refine ob_push d_Model_failure_95 ?_
    refine ob_icmp_le d_Model_failure_97 (fun hc => ?_) (fun hc => ?_)
    · replace h := ob_ift hc h
      refine ob_push d_Model_failure_105 ?_
      exact ob_ie h (ob_iret d_Model_failure_106 rfl rfl)
    · replace h := ob_iff hc h
      refine ob_push d_Model_failure_100 ?_
      refine ob_goto d_Model_failure_102 ?_
      exact ob_ie h (ob_iret d_Model_failure_106 rfl rfl)
  replace h := ob_iff hs8 h
  by_cases hs12 : v1 = (6 : Int32)
  · replace h := ob_ift hs12 h
    refine ob_tabI (off := 106) (t := 107) d_Model_failure_1 hs12 (by decide +kernel) ?_
    refine ob_aload d_Model_failure_107 rfl ?_
    refine ob_iload d_Model_failure_108 rfl ?_
    obtain ⟨x11, D9, h10, h⟩ := ob_bd_e h
    refine ob_callVi (As := [.int v2]) (rest := []) d_Model_failure_109 c_Model_failure_305 hp_v0 rfl rfl (Nat.le_of_ble_eq_true rfl) (c_Model_memoryFailure hp_v0 h10) ⟨Nat.le_refl _, Nat.le_refl _⟩ ⟨Nat.le_refl _, Nat.le_refl _⟩ ?_
    exact ob_ie h (ob_iret d_Model_failure_112 rfl rfl)
  replace h := ob_iff hs12 h
  by_cases hs16 : v1 = (8 : Int32)
  · replace h := ob_ift hs16 h
    refine ob_tabI (off := 112) (t := 113) d_Model_failure_1 hs16 (by decide +kernel) ?_
    refine ob_aload d_Model_failure_113 rfl ?_
    obtain ⟨x15, D13, h14, h⟩ := ob_bd_e h
    refine ob_callVi (As := []) (rest := []) d_Model_failure_114 c_Model_failure_308 hp_v0 rfl rfl (Nat.le_of_ble_eq_true rfl) (c_Model_functionFailure hp_v0 h14) ⟨Nat.le_refl _, Nat.le_refl _⟩ ⟨Nat.le_refl _, Nat.le_refl _⟩ ?_
    exact ob_ie h (ob_iret d_Model_failure_117 rfl rfl)
  replace h := ob_iff hs16 h
  by_cases hs20 : v1 = (11 : Int32)
  · replace h := ob_ift hs20 h
    refine ob_tabI (off := 117) (t := 118) d_Model_failure_1 hs20 (by decide +kernel) ?_
    refine ob_aload d_Model_failure_118 rfl ?_
    refine ob_iload d_Model_failure_119 rfl ?_
    obtain ⟨x19, D17, h18, h⟩ := ob_bd_e h
    refine ob_callVi (As := [.int v2]) (rest := []) d_Model_failure_120 c_Model_failure_312 hp_v0 rfl rfl (Nat.le_of_ble_eq_true rfl) (c_Model_tableFailure hp_v0 h18) ⟨Nat.le_refl _, Nat.le_refl _⟩ ⟨Nat.le_refl _, Nat.le_refl _⟩ ?_
    exact ob_ie h (ob_iret d_Model_failure_123 rfl rfl)
  replace h := ob_iff hs20 h
  by_cases hs24 : v1 = (12 : Int32)
  · replace h := ob_ift hs24 h
    refine ob_tabI (off := 123) (t := 124) d_Model_failure_1 hs24 (by decide +kernel) ?_
    refine ob_aload d_Model_failure_124 rfl ?_
    refine ob_iload d_Model_failure_125 rfl ?_
    obtain ⟨x23, D21, h22, h⟩ := ob_bd_e h
    refine ob_callVi (As := [.int v2]) (rest := []) d_Model_failure_126 c_Model_failure_315 hp_v0 rfl rfl (Nat.le_of_ble_eq_true rfl) (c_Model_limitFailure hp_v0 h22) ⟨Nat.le_refl _, Nat.le_refl _⟩ ⟨Nat.le_refl _, Nat.le_refl _⟩ ?_
    exact ob_ie h (ob_iret d_Model_failure_129 rfl rfl)
  replace h := ob_iff hs24 h
  by_cases hs28 : v1 = (15 : Int32)
  · replace h := ob_ift hs28 h
    refine ob_tabI (off := 129) (t := 130) d_Model_failure_1 hs28 (by decide +kernel) ?_
    refine ob_aload d_Model_failure_130 rfl ?_
    refine ob_iload d_Model_failure_131 rfl ?_
    obtain ⟨x27, D25, h26, h⟩ := ob_bd_e h
    refine ob_callVi (As := [.int v2]) (rest := []) d_Model_failure_132 c_Model_failure_318 hp_v0 rfl rfl (Nat.le_of_ble_eq_true rfl) (c_Model_storeFailure hp_v0 h26) ⟨Nat.le_refl _, Nat.le_refl _⟩ ⟨Nat.le_refl _, Nat.le_refl _⟩ ?_
    exact ob_ie h (ob_iret d_Model_failure_135 rfl rfl)
  replace h := ob_iff hs28 h
  by_cases hs32 : v1 = (19 : Int32)
  · replace h := ob_ift hs32 h
    refine ob_tabI (off := 135) (t := 136) d_Model_failure_1 hs32 (by decide +kernel) ?_
    refine ob_aload d_Model_failure_136 rfl ?_
    refine ob_iload d_Model_failure_137 rfl ?_
    obtain ⟨x31, D29, h30, h⟩ := ob_bd_e h
    refine ob_callVi (As := [.int v2]) (rest := []) d_Model_failure_138 c_Model_failure_321 hp_v0 rfl rfl (Nat.le_of_ble_eq_true rfl) (c_Model_actionFailure hp_v0 h30) ⟨Nat.le_refl _, Nat.le_refl _⟩ ⟨Nat.le_refl _, Nat.le_refl _⟩ ?_
    exact ob_ie h (ob_iret d_Model_failure_141 rfl rfl)
  replace h := ob_iff hs32 h
  by_cases hs33 : v1 = (4 : Int32)
  · refine ob_tabI (off := 141) (t := 142) d_Model_failure_1 hs33 (by decide +kernel) ?_
    refine ob_push d_Model_failure_142 ?_
    exact ob_ie h (ob_iret d_Model_failure_143 rfl rfl)
  by_cases hs34 : v1 = (7 : Int32)
  · refine ob_tabI (off := 141) (t := 142) d_Model_failure_1 hs34 (by decide +kernel) ?_
    refine ob_push d_Model_failure_142 ?_
    exact ob_ie h (ob_iret d_Model_failure_143 rfl rfl)
  by_cases hs35 : v1 = (9 : Int32)
  · refine ob_tabI (off := 141) (t := 142) d_Model_failure_1 hs35 (by decide +kernel) ?_
    refine ob_push d_Model_failure_142 ?_
    exact ob_ie h (ob_iret d_Model_failure_143 rfl rfl)
  by_cases hs36 : v1 = (10 : Int32)
  · refine ob_tabI (off := 141) (t := 142) d_Model_failure_1 hs36 (by decide +kernel) ?_
    refine ob_push d_Model_failure_142 ?_
    exact ob_ie h (ob_iret d_Model_failure_143 rfl rfl)
  by_cases hs37 : v1 = (13 : Int32)
  · refine ob_tabI (off := 141) (t := 142) d_Model_failure_1 hs37 (by decide +kernel) ?_
    refine ob_push d_Model_failure_142 ?_
    exact ob_ie h (ob_iret d_Model_failure_143 rfl rfl)
  by_cases hs38 : v1 = (14 : Int32)
  · refine ob_tabI (off := 141) (t := 142) d_Model_failure_1 hs38 (by decide +kernel) ?_
    refine ob_push d_Model_failure_142 ?_
    exact ob_ie h (ob_iret d_Model_failure_143 rfl rfl)
  by_cases hs39 : v1 = (16 : Int32)
  · refine ob_tabI (off := 141) (t := 142) d_Model_failure_1 hs39 (by decide +kernel) ?_
    refine ob_push d_Model_failure_142 ?_
    exact ob_ie h (ob_iret d_Model_failure_143 rfl rfl)
  by_cases hs40 : v1 = (17 : Int32)
  · refine ob_tabI (off := 141) (t := 142) d_Model_failure_1 hs40 (by decide +kernel) ?_
    refine ob_push d_Model_failure_142 ?_
    exact ob_ie h (ob_iret d_Model_failure_143 rfl rfl)
  by_cases hs41 : v1 = (18 : Int32)
  · refine ob_tabI (off := 141) (t := 142) d_Model_failure_1 hs41 (by decide +kernel) ?_
    refine ob_push d_Model_failure_142 ?_
    exact ob_ie h (ob_iret d_Model_failure_143 rfl rfl)
  refine ob_tabO (t := 142) d_Model_failure_1 (by decide) (ob_out _ _ _ (fun k h1 h2 hk => ?_)) ?_
  · have hh : k = 3 ∨ k = 4 ∨ k = 5 ∨ k = 6 ∨ k = 7 ∨ k = 8 ∨ k = 9 ∨ k = 10 ∨ k = 11 ∨ k = 12 ∨ k = 13 ∨ k = 14 ∨ k = 15 ∨ k = 16 ∨ k = 17 ∨ k = 18 ∨ k = 19 := by omega
    rcases hh with rfl | rfl | rfl | rfl | rfl | rfl | rfl | rfl | rfl | rfl | rfl | rfl | rfl | rfl | rfl | rfl | rfl
    · exact hs4 (Int32.toInt_inj.mp hk)
    · exact hs33 (Int32.toInt_inj.mp hk)
    · exact hs8 (Int32.toInt_inj.mp hk)
    · exact hs12 (Int32.toInt_inj.mp hk)
    · exact hs34 (Int32.toInt_inj.mp hk)
    · exact hs16 (Int32.toInt_inj.mp hk)
    · exact hs35 (Int32.toInt_inj.mp hk)
    · exact hs36 (Int32.toInt_inj.mp hk)
    · exact hs20 (Int32.toInt_inj.mp hk)
    · exact hs24 (Int32.toInt_inj.mp hk)
    · exact hs37 (Int32.toInt_inj.mp hk)
    · exact hs38 (Int32.toInt_inj.mp hk)
    · exact hs28 (Int32.toInt_inj.mp hk)
    · exact hs39 (Int32.toInt_inj.mp hk)
    · exact hs40 (Int32.toInt_inj.mp hk)
    · exact hs41 (Int32.toInt_inj.mp hk)
    · exact hs32 (Int32.toInt_inj.mp hk)
  · skip
    refine ob_push d_Model_failure_142 ?_
    exact ob_ie h (ob_iret d_Model_failure_143 rfl rfl)
-- OrbitBoxModel.parameter(I)I
theorem d_Model_parameter_1 : ob_dk k_Model_parameter 1 3 (8 : Int32) (.bipush 8) 2 := ⟨by decide +kernel, rfl, show (Int8.ofInt 8).toInt32 = (8 : Int32) by decide +kernel⟩
theorem d_Model_parameter_14 : ob_dk k_Model_parameter 14 16 (16 : Int32) (.bipush 16) 2 := ⟨by decide +kernel, rfl, show (Int8.ofInt 16).toInt32 = (16 : Int32) by decide +kernel⟩
theorem d_Model_parameter_30 : decode k_Model_parameter.2.2.1 30 = .ok (.tableswitch 151 16 30 #[74, 79, 84, 89, 94, 99, 104, 109, 114, 119, 124, 129, 134, 139, 146], 74) := by decide +kernel
theorem d_Model_parameter_108 : ob_dc k_Model_parameter 108 (.ireturn) 1 109 := ⟨by decide +kernel, rfl⟩
theorem d_Model_parameter_105 : ob_dc k_Model_parameter 105 (.getfield 61) 3 108 := ⟨by decide +kernel, rfl⟩
theorem d_Model_parameter_104 : ob_dv ob_ac k_Model_parameter 104 105 0 (.aload_n 0) 1 := ⟨by decide +kernel, rfl, rfl⟩
theorem d_Model_parameter_113 : ob_dc k_Model_parameter 113 (.ireturn) 1 114 := ⟨by decide +kernel, rfl⟩
theorem d_Model_parameter_110 : ob_dc k_Model_parameter 110 (.getfield 372) 3 113 := ⟨by decide +kernel, rfl⟩
theorem d_Model_parameter_109 : ob_dv ob_ac k_Model_parameter 109 110 0 (.aload_n 0) 1 := ⟨by decide +kernel, rfl, rfl⟩
theorem d_Model_parameter_118 : ob_dc k_Model_parameter 118 (.ireturn) 1 119 := ⟨by decide +kernel, rfl⟩
theorem d_Model_parameter_115 : ob_dc k_Model_parameter 115 (.getfield 23) 3 118 := ⟨by decide +kernel, rfl⟩
theorem d_Model_parameter_114 : ob_dv ob_ac k_Model_parameter 114 115 0 (.aload_n 0) 1 := ⟨by decide +kernel, rfl, rfl⟩
theorem d_Model_parameter_123 : ob_dc k_Model_parameter 123 (.ireturn) 1 124 := ⟨by decide +kernel, rfl⟩
theorem d_Model_parameter_120 : ob_dc k_Model_parameter 120 (.getfield 238) 3 123 := ⟨by decide +kernel, rfl⟩
theorem d_Model_parameter_119 : ob_dv ob_ac k_Model_parameter 119 120 0 (.aload_n 0) 1 := ⟨by decide +kernel, rfl, rfl⟩
theorem d_Model_parameter_128 : ob_dc k_Model_parameter 128 (.ireturn) 1 129 := ⟨by decide +kernel, rfl⟩
theorem d_Model_parameter_125 : ob_dc k_Model_parameter 125 (.getfield 369) 3 128 := ⟨by decide +kernel, rfl⟩
theorem d_Model_parameter_124 : ob_dv ob_ac k_Model_parameter 124 125 0 (.aload_n 0) 1 := ⟨by decide +kernel, rfl, rfl⟩
theorem d_Model_parameter_133 : ob_dc k_Model_parameter 133 (.ireturn) 1 134 := ⟨by decide +kernel, rfl⟩
theorem d_Model_parameter_130 : ob_dc k_Model_parameter 130 (.getfield 229) 3 133 := ⟨by decide +kernel, rfl⟩
theorem d_Model_parameter_129 : ob_dv ob_ac k_Model_parameter 129 130 0 (.aload_n 0) 1 := ⟨by decide +kernel, rfl, rfl⟩
theorem d_Model_parameter_138 : ob_dc k_Model_parameter 138 (.ireturn) 1 139 := ⟨by decide +kernel, rfl⟩
theorem d_Model_parameter_135 : ob_dc k_Model_parameter 135 (.getfield 208) 3 138 := ⟨by decide +kernel, rfl⟩
theorem d_Model_parameter_134 : ob_dv ob_ac k_Model_parameter 134 135 0 (.aload_n 0) 1 := ⟨by decide +kernel, rfl, rfl⟩
theorem d_Model_parameter_143 : ob_dc k_Model_parameter 143 (.ireturn) 1 144 := ⟨by decide +kernel, rfl⟩
theorem d_Model_parameter_140 : ob_dc k_Model_parameter 140 (.getfield 222) 3 143 := ⟨by decide +kernel, rfl⟩
theorem d_Model_parameter_139 : ob_dv ob_ac k_Model_parameter 139 140 0 (.aload_n 0) 1 := ⟨by decide +kernel, rfl, rfl⟩
theorem d_Model_parameter_148 : ob_dc k_Model_parameter 148 (.ireturn) 1 149 := ⟨by decide +kernel, rfl⟩
theorem d_Model_parameter_145 : ob_dc k_Model_parameter 145 (.getfield 251) 3 148 := ⟨by decide +kernel, rfl⟩
theorem d_Model_parameter_144 : ob_dv ob_ac k_Model_parameter 144 145 0 (.aload_n 0) 1 := ⟨by decide +kernel, rfl, rfl⟩
theorem d_Model_parameter_153 : ob_dc k_Model_parameter 153 (.ireturn) 1 154 := ⟨by decide +kernel, rfl⟩
theorem d_Model_parameter_150 : ob_dc k_Model_parameter 150 (.getfield 279) 3 153 := ⟨by decide +kernel, rfl⟩
theorem d_Model_parameter_149 : ob_dv ob_ac k_Model_parameter 149 150 0 (.aload_n 0) 1 := ⟨by decide +kernel, rfl, rfl⟩
theorem d_Model_parameter_158 : ob_dc k_Model_parameter 158 (.ireturn) 1 159 := ⟨by decide +kernel, rfl⟩
theorem d_Model_parameter_155 : ob_dc k_Model_parameter 155 (.getfield 285) 3 158 := ⟨by decide +kernel, rfl⟩
theorem d_Model_parameter_154 : ob_dv ob_ac k_Model_parameter 154 155 0 (.aload_n 0) 1 := ⟨by decide +kernel, rfl, rfl⟩
theorem d_Model_parameter_163 : ob_dc k_Model_parameter 163 (.ireturn) 1 164 := ⟨by decide +kernel, rfl⟩
theorem d_Model_parameter_160 : ob_dc k_Model_parameter 160 (.getfield 425) 3 163 := ⟨by decide +kernel, rfl⟩
theorem d_Model_parameter_159 : ob_dv ob_ac k_Model_parameter 159 160 0 (.aload_n 0) 1 := ⟨by decide +kernel, rfl, rfl⟩
theorem d_Model_parameter_168 : ob_dc k_Model_parameter 168 (.ireturn) 1 169 := ⟨by decide +kernel, rfl⟩
theorem d_Model_parameter_165 : ob_dc k_Model_parameter 165 (.getfield 443) 3 168 := ⟨by decide +kernel, rfl⟩
theorem d_Model_parameter_164 : ob_dv ob_ac k_Model_parameter 164 165 0 (.aload_n 0) 1 := ⟨by decide +kernel, rfl, rfl⟩
theorem d_Model_parameter_173 : ob_dk k_Model_parameter 173 174 (0 : Int32) (.iconst 0) 1 := ⟨by decide +kernel, rfl, show Int32.ofInt 0 = (0 : Int32) by decide +kernel⟩
theorem d_Model_parameter_175 : ob_dc k_Model_parameter 175 (.ireturn) 1 176 := ⟨by decide +kernel, rfl⟩
theorem d_Model_parameter_174 : ob_dc k_Model_parameter 174 (.iaload) 1 175 := ⟨by decide +kernel, rfl⟩
theorem d_Model_parameter_170 : ob_dc k_Model_parameter 170 (.getfield 149) 3 173 := ⟨by decide +kernel, rfl⟩
theorem d_Model_parameter_169 : ob_dv ob_ac k_Model_parameter 169 170 0 (.aload_n 0) 1 := ⟨by decide +kernel, rfl, rfl⟩
theorem d_Model_parameter_180 : ob_dc k_Model_parameter 180 (.ireturn) 1 181 := ⟨by decide +kernel, rfl⟩
theorem d_Model_parameter_177 : ob_dc k_Model_parameter 177 (.getfield 404) 3 180 := ⟨by decide +kernel, rfl⟩
theorem d_Model_parameter_176 : ob_dv ob_ac k_Model_parameter 176 177 0 (.aload_n 0) 1 := ⟨by decide +kernel, rfl, rfl⟩
theorem d_Model_parameter_185 : ob_dc k_Model_parameter 185 (.ireturn) 1 186 := ⟨by decide +kernel, rfl⟩
theorem d_Model_parameter_182 : ob_dc k_Model_parameter 182 (.getfield 392) 3 185 := ⟨by decide +kernel, rfl⟩
theorem d_Model_parameter_181 : ob_dv ob_ac k_Model_parameter 181 182 0 (.aload_n 0) 1 := ⟨by decide +kernel, rfl, rfl⟩
theorem d_Model_parameter_29 : ob_dv ob_lc k_Model_parameter 29 30 1 (.iload_n 1) 1 := ⟨by decide +kernel, rfl, rfl⟩
theorem d_Model_parameter_24 : ob_dk k_Model_parameter 24 26 (8 : Int32) (.bipush 8) 2 := ⟨by decide +kernel, rfl, show (Int8.ofInt 8).toInt32 = (8 : Int32) by decide +kernel⟩
theorem d_Model_parameter_28 : ob_dc k_Model_parameter 28 (.ireturn) 1 29 := ⟨by decide +kernel, rfl⟩
theorem d_Model_parameter_27 : ob_dc k_Model_parameter 27 (.iaload) 1 28 := ⟨by decide +kernel, rfl⟩
theorem d_Model_parameter_26 : ob_dc k_Model_parameter 26 (.isub) 1 27 := ⟨by decide +kernel, rfl⟩
theorem d_Model_parameter_23 : ob_dv ob_lc k_Model_parameter 23 24 1 (.iload_n 1) 1 := ⟨by decide +kernel, rfl, rfl⟩
theorem d_Model_parameter_20 : ob_dc k_Model_parameter 20 (.getfield 58) 3 23 := ⟨by decide +kernel, rfl⟩
theorem d_Model_parameter_19 : ob_dv ob_ac k_Model_parameter 19 20 0 (.aload_n 0) 1 := ⟨by decide +kernel, rfl, rfl⟩
theorem d_Model_parameter_16 : ob_db k_Model_parameter 16 (.if_icmp .ge 13) 13 19 29 := ⟨by decide +kernel, rfl, by decide⟩
theorem d_Model_parameter_13 : ob_dv ob_lc k_Model_parameter 13 14 1 (.iload_n 1) 1 := ⟨by decide +kernel, rfl, rfl⟩
theorem d_Model_parameter_12 : ob_dc k_Model_parameter 12 (.ireturn) 1 13 := ⟨by decide +kernel, rfl⟩
theorem d_Model_parameter_11 : ob_dc k_Model_parameter 11 (.iaload) 1 12 := ⟨by decide +kernel, rfl⟩
theorem d_Model_parameter_10 : ob_dv ob_lc k_Model_parameter 10 11 1 (.iload_n 1) 1 := ⟨by decide +kernel, rfl, rfl⟩
theorem d_Model_parameter_7 : ob_dc k_Model_parameter 7 (.getfield 55) 3 10 := ⟨by decide +kernel, rfl⟩
theorem d_Model_parameter_6 : ob_dv ob_ac k_Model_parameter 6 7 0 (.aload_n 0) 1 := ⟨by decide +kernel, rfl, rfl⟩
theorem d_Model_parameter_3 : ob_db k_Model_parameter 3 (.if_icmp .ge 10) 10 6 13 := ⟨by decide +kernel, rfl, by decide⟩
theorem d_Model_parameter_0 : ob_dv ob_lc k_Model_parameter 0 1 1 (.iload_n 1) 1 := ⟨by decide +kernel, rfl, rfl⟩
def f_Model_parameter (S : ob_S) (v0 : Nat) (v1 : Int32) (D : ob_D) : Option (Int32 × ob_D) :=
  (if (8 : Int32) ≤ v1 then (if (16 : Int32) ≤ v1 then (if v1 = (16 : Int32) then some (D.1 v0 40, D) else if v1 = (17 : Int32) then some (D.1 v0 41, D) else if v1 = (18 : Int32) then some (D.1 v0 19, D) else if v1 = (19 : Int32) then some (D.1 v0 20, D) else if v1 = (20 : Int32) then some (D.1 v0 45, D) else if v1 = (21 : Int32) then some (D.1 v0 26, D) else if v1 = (22 : Int32) then some (D.1 v0 15, D) else if v1 = (23 : Int32) then some (D.1 v0 16, D) else if v1 = (24 : Int32) then some (D.1 v0 17, D) else if v1 = (25 : Int32) then some (D.1 v0 29, D) else if v1 = (26 : Int32) then some (D.1 v0 30, D) else if v1 = (27 : Int32) then some (D.1 v0 72, D) else if v1 = (28 : Int32) then some (D.1 v0 78, D) else if v1 = (29 : Int32) then if D.2.1 v0 86 ≠ 0 then if ob_in (0 : Int32) (S.2.1 (D.2.1 v0 86)) then some (D.1 (D.2.1 v0 86) (0 : Int32).toNatClampNeg, D) else none else none else if v1 = (30 : Int32) then some (D.1 v0 68, D) else some (D.1 v0 57, D)) else if D.2.1 v0 39 ≠ 0 then if ob_in (v1 - (8 : Int32)) (S.2.1 (D.2.1 v0 39)) then some (D.1 (D.2.1 v0 39) (v1 - (8 : Int32)).toNatClampNeg, D) else none else none) else if D.2.1 v0 38 ≠ 0 then if ob_in v1 (S.2.1 (D.2.1 v0 38)) then some (D.1 (D.2.1 v0 38) v1.toNatClampNeg, D) else none else none)
theorem c_Model_parameter {l : Launch} {E : ob_E} {S : ob_S} {D : ob_D} {v0 : Nat} {v1 : Int32} {r : Int32} {D' : ob_D} (hp_v0 : S.1 v0 = 13) (h : f_Model_parameter S v0 v1 D = some (r, D')) : ob_M l E k_Model_parameter [.ref v0, .int v1] S D (some (.int r)) S D' := by
  refine ob_ofV (lo := [(0, .ref v0), (1, .int v1)]) (by decide) rfl (Nat.le_of_ble_eq_true rfl) rfl (Nat.le_refl _) (Nat.le_refl _) ?_
  rw [f_Model_parameter] at h
  refine ob_iload d_Model_parameter_0 rfl ?_
  refine ob_push d_Model_parameter_1 ?_
  refine ob_icmp_ge d_Model_parameter_3 (fun hc => ?_) (fun hc => ?_)
  · replace h := ob_ift hc h
    refine ob_iload d_Model_parameter_13 rfl ?_
    refine ob_push d_Model_parameter_14 ?_
    refine ob_icmp_ge d_Model_parameter_16 (fun hc => ?_) (fun hc => ?_)
    · replace h := ob_ift hc h
      refine ob_iload d_Model_parameter_29 rfl ?_
      by_cases hs1 : v1 = (16 : Int32)
      · replace h := ob_ift hs1 h
        refine ob_tabI (off := 74) (t := 104) d_Model_parameter_30 hs1 (by decide +kernel) ?_
        refine ob_aload d_Model_parameter_104 rfl ?_
        refine ob_getI d_Model_parameter_105 F_12_40 l_Model_61 hp_v0 ?_
        exact ob_ie h (ob_iret d_Model_parameter_108 rfl rfl)
      replace h := ob_iff hs1 h
      by_cases hs2 : v1 = (17 : Int32)
      · replace h := ob_ift hs2 h
        refine ob_tabI (off := 79) (t := 109) d_Model_parameter_30 hs2 (by decide +kernel) ?_
        refine ob_aload d_Model_parameter_109 rfl ?_
        refine ob_getI d_Model_parameter_110 F_12_41 l_Model_372 hp_v0 ?_
        exact ob_ie h (ob_iret d_Model_parameter_113 rfl rfl)
      replace h := ob_iff hs2 h
      by_cases hs3 : v1 = (18 : Int32)
      · replace h := ob_ift hs3 h
        refine ob_tabI (off := 84) (t := 114) d_Model_parameter_30 hs3 (by decide +kernel) ?_
        refine ob_aload d_Model_parameter_114 rfl ?_
        refine ob_getI d_Model_parameter_115 F_12_19 l_Model_23 hp_v0 ?_
        exact ob_ie h (ob_iret d_Model_parameter_118 rfl rfl)
      replace h := ob_iff hs3 h
      by_cases hs4 : v1 = (19 : Int32)
      · replace h := ob_ift hs4 h
        refine ob_tabI (off := 89) (t := 119) d_Model_parameter_30 hs4 (by decide +kernel) ?_
        refine ob_aload d_Model_parameter_119 rfl ?_
        refine ob_getI d_Model_parameter_120 F_12_20 l_Model_238 hp_v0 ?_
        exact ob_ie h (ob_iret d_Model_parameter_123 rfl rfl)
      replace h := ob_iff hs4 h
      by_cases hs5 : v1 = (20 : Int32)
      · replace h := ob_ift hs5 h
        refine ob_tabI (off := 94) (t := 124) d_Model_parameter_30 hs5 (by decide +kernel) ?_
        refine ob_aload d_Model_parameter_124 rfl ?_
        refine ob_getI d_Model_parameter_125 F_12_45 l_Model_369 hp_v0 ?_
        exact ob_ie h (ob_iret d_Model_parameter_128 rfl rfl)
      replace h := ob_iff hs5 h
      by_cases hs6 : v1 = (21 : Int32)
      · replace h := ob_ift hs6 h
        refine ob_tabI (off := 99) (t := 129) d_Model_parameter_30 hs6 (by decide +kernel) ?_
        refine ob_aload d_Model_parameter_129 rfl ?_
        refine ob_getI d_Model_parameter_130 F_12_26 l_Model_229 hp_v0 ?_
        exact ob_ie h (ob_iret d_Model_parameter_133 rfl rfl)
      replace h := ob_iff hs6 h
      by_cases hs7 : v1 = (22 : Int32)
      · replace h := ob_ift hs7 h
        refine ob_tabI (off := 104) (t := 134) d_Model_parameter_30 hs7 (by decide +kernel) ?_
        refine ob_aload d_Model_parameter_134 rfl ?_
        refine ob_getI d_Model_parameter_135 F_12_15 l_Model_208 hp_v0 ?_
        exact ob_ie h (ob_iret d_Model_parameter_138 rfl rfl)
      replace h := ob_iff hs7 h
      by_cases hs8 : v1 = (23 : Int32)
      · replace h := ob_ift hs8 h
        refine ob_tabI (off := 109) (t := 139) d_Model_parameter_30 hs8 (by decide +kernel) ?_
        refine ob_aload d_Model_parameter_139 rfl ?_
        refine ob_getI d_Model_parameter_140 F_12_16 l_Model_222 hp_v0 ?_
        exact ob_ie h (ob_iret d_Model_parameter_143 rfl rfl)
      replace h := ob_iff hs8 h
      by_cases hs9 : v1 = (24 : Int32)
      · replace h := ob_ift hs9 h
        refine ob_tabI (off := 114) (t := 144) d_Model_parameter_30 hs9 (by decide +kernel) ?_
        refine ob_aload d_Model_parameter_144 rfl ?_
        refine ob_getI d_Model_parameter_145 F_12_17 l_Model_251 hp_v0 ?_
        exact ob_ie h (ob_iret d_Model_parameter_148 rfl rfl)
      replace h := ob_iff hs9 h
      by_cases hs10 : v1 = (25 : Int32)
      · replace h := ob_ift hs10 h
        refine ob_tabI (off := 119) (t := 149) d_Model_parameter_30 hs10 (by decide +kernel) ?_
        refine ob_aload d_Model_parameter_149 rfl ?_
        refine ob_getI d_Model_parameter_150 F_12_29 l_Model_279 hp_v0 ?_
        exact ob_ie h (ob_iret d_Model_parameter_153 rfl rfl)
      replace h := ob_iff hs10 h
      by_cases hs11 : v1 = (26 : Int32)
      · replace h := ob_ift hs11 h
        refine ob_tabI (off := 124) (t := 154) d_Model_parameter_30 hs11 (by decide +kernel) ?_
        refine ob_aload d_Model_parameter_154 rfl ?_
        refine ob_getI d_Model_parameter_155 F_12_30 l_Model_285 hp_v0 ?_
        exact ob_ie h (ob_iret d_Model_parameter_158 rfl rfl)
      replace h := ob_iff hs11 h
      by_cases hs12 : v1 = (27 : Int32)
      · replace h := ob_ift hs12 h
        refine ob_tabI (off := 129) (t := 159) d_Model_parameter_30 hs12 (by decide +kernel) ?_
        refine ob_aload d_Model_parameter_159 rfl ?_
        refine ob_getI d_Model_parameter_160 F_12_72 l_Model_425 hp_v0 ?_
        exact ob_ie h (ob_iret d_Model_parameter_163 rfl rfl)
      replace h := ob_iff hs12 h
      by_cases hs13 : v1 = (28 : Int32)
      · replace h := ob_ift hs13 h
        refine ob_tabI (off := 134) (t := 164) d_Model_parameter_30 hs13 (by decide +kernel) ?_
        refine ob_aload d_Model_parameter_164 rfl ?_
        refine ob_getI d_Model_parameter_165 F_12_78 l_Model_443 hp_v0 ?_
        exact ob_ie h (ob_iret d_Model_parameter_168 rfl rfl)
      replace h := ob_iff hs13 h
      by_cases hs17 : v1 = (29 : Int32)
      · replace h := ob_ift hs17 h
        refine ob_tabI (off := 139) (t := 169) d_Model_parameter_30 hs17 (by decide +kernel) ?_
        refine ob_aload d_Model_parameter_169 rfl ?_
        obtain ⟨hg15, h⟩ := ob_gd h
        refine ob_getR d_Model_parameter_170 F_12_86 l_Model_149 hp_v0 hg15 (fun hk14 => ?_)
        refine ob_push d_Model_parameter_173 ?_
        obtain ⟨hg16, h⟩ := ob_gd h
        refine ob_iald d_Model_parameter_174 hk14 hg16 ?_
        exact ob_ie h (ob_iret d_Model_parameter_175 rfl rfl)
      replace h := ob_iff hs17 h
      by_cases hs18 : v1 = (30 : Int32)
      · replace h := ob_ift hs18 h
        refine ob_tabI (off := 146) (t := 176) d_Model_parameter_30 hs18 (by decide +kernel) ?_
        refine ob_aload d_Model_parameter_176 rfl ?_
        refine ob_getI d_Model_parameter_177 F_12_68 l_Model_404 hp_v0 ?_
        exact ob_ie h (ob_iret d_Model_parameter_180 rfl rfl)
      replace h := ob_iff hs18 h
      refine ob_tabO (t := 181) d_Model_parameter_30 (by decide) (ob_out _ _ _ (fun k h1 h2 hk => ?_)) ?_
      · have hh : k = 16 ∨ k = 17 ∨ k = 18 ∨ k = 19 ∨ k = 20 ∨ k = 21 ∨ k = 22 ∨ k = 23 ∨ k = 24 ∨ k = 25 ∨ k = 26 ∨ k = 27 ∨ k = 28 ∨ k = 29 ∨ k = 30 := by omega
        rcases hh with rfl | rfl | rfl | rfl | rfl | rfl | rfl | rfl | rfl | rfl | rfl | rfl | rfl | rfl | rfl
        · exact hs1 (Int32.toInt_inj.mp hk)
        · exact hs2 (Int32.toInt_inj.mp hk)
        · exact hs3 (Int32.toInt_inj.mp hk)
        · exact hs4 (Int32.toInt_inj.mp hk)
        · exact hs5 (Int32.toInt_inj.mp hk)
        · exact hs6 (Int32.toInt_inj.mp hk)
        · exact hs7 (Int32.toInt_inj.mp hk)
        · exact hs8 (Int32.toInt_inj.mp hk)
        · exact hs9 (Int32.toInt_inj.mp hk)
        · exact hs10 (Int32.toInt_inj.mp hk)
        · exact hs11 (Int32.toInt_inj.mp hk)
        · exact hs12 (Int32.toInt_inj.mp hk)
        · exact hs13 (Int32.toInt_inj.mp hk)
        · exact hs17 (Int32.toInt_inj.mp hk)
        · exact hs18 (Int32.toInt_inj.mp hk)
      · skip
        refine ob_aload d_Model_parameter_181 rfl ?_
        refine ob_getI d_Model_parameter_182 F_12_57 l_Model_392 hp_v0 ?_
        exact ob_ie h (ob_iret d_Model_parameter_185 rfl rfl)
    · replace h := ob_iff hc h
      refine ob_aload d_Model_parameter_19 rfl ?_
      obtain ⟨hg20, h⟩ := ob_gd h
      refine ob_getR d_Model_parameter_20 F_12_39 l_Model_58 hp_v0 hg20 (fun hk19 => ?_)
      refine ob_iload d_Model_parameter_23 rfl ?_
      refine ob_push d_Model_parameter_24 ?_
      refine ob_isub d_Model_parameter_26 ?_
      obtain ⟨hg21, h⟩ := ob_gd h
      refine ob_iald d_Model_parameter_27 hk19 hg21 ?_
      exact ob_ie h (ob_iret d_Model_parameter_28 rfl rfl)
  · replace h := ob_iff hc h
    refine ob_aload d_Model_parameter_6 rfl ?_
    obtain ⟨hg23, h⟩ := ob_gd h
    refine ob_getR d_Model_parameter_7 F_12_38 l_Model_55 hp_v0 hg23 (fun hk22 => ?_)
    refine ob_iload d_Model_parameter_10 rfl ?_
    obtain ⟨hg24, h⟩ := ob_gd h
    refine ob_iald d_Model_parameter_11 hk22 hg24 ?_
    exact ob_ie h (ob_iret d_Model_parameter_12 rfl rfl)
-- OrbitBoxModel.formReport(I)V
theorem d_Model_formReport_1 : ob_dk k_Model_formReport 1 2 (3 : Int32) (.iconst 3) 1 := ⟨by decide +kernel, rfl, show Int32.ofInt 3 = (3 : Int32) by decide +kernel⟩
theorem d_Model_formReport_2 : ob_dk k_Model_formReport 2 4 (25 : Int32) (.bipush 25) 2 := ⟨by decide +kernel, rfl, show (Int8.ofInt 25).toInt32 = (25 : Int32) by decide +kernel⟩
theorem d_Model_formReport_12 : ob_dk k_Model_formReport 12 13 (0 : Int32) (.iconst 0) 1 := ⟨by decide +kernel, rfl, show Int32.ofInt 0 = (0 : Int32) by decide +kernel⟩
theorem d_Model_formReport_53 : ob_dc k_Model_formReport 53 (.return_) 1 54 := ⟨by decide +kernel, rfl⟩
theorem d_Model_formReport_50 : ob_dc k_Model_formReport 50 (.invokevirtual 276) 3 53 := ⟨by decide +kernel, rfl⟩
theorem d_Model_formReport_49 : ob_dv ob_ac k_Model_formReport 49 50 0 (.aload_n 0) 1 := ⟨by decide +kernel, rfl, rfl⟩
theorem d_Model_formReport_30 : ob_dk k_Model_formReport 30 32 (8 : Int32) (.bipush 8) 2 := ⟨by decide +kernel, rfl, show (Int8.ofInt 8).toInt32 = (8 : Int32) by decide +kernel⟩
theorem d_Model_formReport_43 : ob_di k_Model_formReport 43 46 2 1 (1 : Int32) := ⟨by decide +kernel, rfl, by decide +kernel, by decide +kernel⟩
theorem d_Model_formReport_46 : ob_db k_Model_formReport 46 (.goto (-32)) (-32) 49 14 := ⟨by decide +kernel, rfl, by decide⟩
theorem d_Model_formReport_40 : ob_dc k_Model_formReport 40 (.invokevirtual 354) 3 43 := ⟨by decide +kernel, rfl⟩
theorem d_Model_formReport_37 : ob_dc k_Model_formReport 37 (.invokevirtual 351) 3 40 := ⟨by decide +kernel, rfl⟩
theorem d_Model_formReport_36 : ob_dc k_Model_formReport 36 (.iaload) 1 37 := ⟨by decide +kernel, rfl⟩
theorem d_Model_formReport_35 : ob_dc k_Model_formReport 35 (.iadd) 1 36 := ⟨by decide +kernel, rfl⟩
theorem d_Model_formReport_34 : ob_dv ob_lc k_Model_formReport 34 35 2 (.iload_n 2) 1 := ⟨by decide +kernel, rfl, rfl⟩
theorem d_Model_formReport_33 : ob_dc k_Model_formReport 33 (.imul) 1 34 := ⟨by decide +kernel, rfl⟩
theorem d_Model_formReport_32 : ob_dv ob_lc k_Model_formReport 32 33 1 (.iload_n 1) 1 := ⟨by decide +kernel, rfl, rfl⟩
theorem d_Model_formReport_27 : ob_dc k_Model_formReport 27 (.getfield 49) 3 30 := ⟨by decide +kernel, rfl⟩
theorem d_Model_formReport_26 : ob_dv ob_ac k_Model_formReport 26 27 0 (.aload_n 0) 1 := ⟨by decide +kernel, rfl, rfl⟩
theorem d_Model_formReport_25 : ob_dv ob_ac k_Model_formReport 25 26 0 (.aload_n 0) 1 := ⟨by decide +kernel, rfl, rfl⟩
theorem d_Model_formReport_24 : ob_dv ob_ac k_Model_formReport 24 25 0 (.aload_n 0) 1 := ⟨by decide +kernel, rfl, rfl⟩
theorem d_Model_formReport_21 : ob_db k_Model_formReport 21 (.if_icmp .ge 28) 28 24 49 := ⟨by decide +kernel, rfl, by decide⟩
theorem d_Model_formReport_20 : ob_dc k_Model_formReport 20 (.iaload) 1 21 := ⟨by decide +kernel, rfl⟩
theorem d_Model_formReport_19 : ob_dv ob_lc k_Model_formReport 19 20 1 (.iload_n 1) 1 := ⟨by decide +kernel, rfl, rfl⟩
theorem d_Model_formReport_16 : ob_dc k_Model_formReport 16 (.getfield 46) 3 19 := ⟨by decide +kernel, rfl⟩
theorem d_Model_formReport_15 : ob_dv ob_ac k_Model_formReport 15 16 0 (.aload_n 0) 1 := ⟨by decide +kernel, rfl, rfl⟩
theorem d_Model_formReport_14 : ob_dv ob_lc k_Model_formReport 14 15 2 (.iload_n 2) 1 := ⟨by decide +kernel, rfl, rfl⟩
theorem d_Model_formReport_13 : ob_dv (ob_sc k_Model_formReport.2.2.2.1) k_Model_formReport 13 14 2 (.istore_n 2) 1 := ⟨by decide +kernel, rfl, ⟨rfl, by decide +kernel⟩⟩
theorem d_Model_formReport_9 : ob_dc k_Model_formReport 9 (.invokevirtual 264) 3 12 := ⟨by decide +kernel, rfl⟩
theorem d_Model_formReport_8 : ob_dv ob_lc k_Model_formReport 8 9 1 (.iload_n 1) 1 := ⟨by decide +kernel, rfl, rfl⟩
theorem d_Model_formReport_7 : ob_dv ob_ac k_Model_formReport 7 8 0 (.aload_n 0) 1 := ⟨by decide +kernel, rfl, rfl⟩
theorem d_Model_formReport_4 : ob_dc k_Model_formReport 4 (.invokevirtual 267) 3 7 := ⟨by decide +kernel, rfl⟩
theorem d_Model_formReport_0 : ob_dv ob_ac k_Model_formReport 0 1 0 (.aload_n 0) 1 := ⟨by decide +kernel, rfl, rfl⟩
theorem c_Model_formReport_276 : ob_vd k_Model_formReport k_Model_made 276 0 12 := ⟨cw_Model_made, yd_Model_made, w_1477, w_1479, wp_66, w_14, ⟨_, _, rfl⟩, by decide, by decide⟩
theorem c_Model_formReport_354 : ob_vd k_Model_formReport k_Model_sayFour 354 1 12 := ⟨cw_Model_sayFour, yd_Model_sayFour, w_1469, w_1471, wp_64, w_14, ⟨_, _, rfl⟩, by decide, by decide⟩
theorem c_Model_formReport_351 : ob_vd k_Model_formReport k_Model_parameter 351 1 12 := ⟨cw_Model_parameter, yd_Model_parameter, w_1560, w_1562, wp_85, w_14, ⟨_, _, rfl⟩, by decide, by decide⟩
theorem c_Model_formReport_264 : ob_vd k_Model_formReport k_Model_say 264 1 12 := ⟨cw_Model_say, yd_Model_say, w_1464, w_1466, wp_63, w_14, ⟨_, _, rfl⟩, by decide, by decide⟩
theorem c_Model_formReport_267 : ob_vd k_Model_formReport k_Model_report 267 2 12 := ⟨cw_Model_report, yd_Model_report, w_1456, w_1458, wp_61, w_14, ⟨_, _, rfl⟩, by decide, by decide⟩
def f_Model_formReport_L14 (S : ob_S) : Nat → Nat → Int32 → Int32 → ob_D → Option (ob_D)
  | 0, _, _, _, _ => none
  | n + 1, v0, v1, v2, D => if D.2.1 v0 34 ≠ 0 then if ob_in v1 (S.2.1 (D.2.1 v0 34)) then (if (D.1 (D.2.1 v0 34) v1.toNatClampNeg) ≤ v2 then ob_bv (f_Model_made S v0 D) fun D8 => some D8 else if D.2.1 v0 35 ≠ 0 then if ob_in (((8 : Int32) * v1) + v2) (S.2.1 (D.2.1 v0 35)) then ob_bd (f_Model_parameter S v0 (D.1 (D.2.1 v0 35) (((8 : Int32) * v1) + v2).toNatClampNeg) D) fun x15 D13 => ob_bv (f_Model_sayFour S v0 x15 D13) fun D16 => f_Model_formReport_L14 S n v0 v1 (v2 + (1 : Int32)) D16 else none else none) else none else none
theorem v_Model_formReport_L14 {l : Launch} {E : ob_E} {S : ob_S} {D' : ob_D} : ∀ (n : Nat), ∀ (v0 : Nat) (v1 : Int32) (v2 : Int32) (D : ob_D), S.1 v0 = 13 → f_Model_formReport_L14 S n v0 v1 v2 D = some D' → ob_V l E k_Model_formReport 14 [(0, .ref v0), (1, .int v1), (2, .int v2)] [] S D none S D' := by
  intro n
  induction n with
  | zero =>
    intro v0 v1 v2 D hp_v0 h
    have h : none = some D' := h
    cases h
  | succ n ih =>
    intro v0 v1 v2 D hp_v0 h
    rw [f_Model_formReport_L14] at h
    refine ob_iload d_Model_formReport_14 rfl ?_
    refine ob_aload d_Model_formReport_15 rfl ?_
    obtain ⟨hg6, h⟩ := ob_gd h
    refine ob_getR d_Model_formReport_16 F_12_34 l_Model_46 hp_v0 hg6 (fun hk5 => ?_)
    refine ob_iload d_Model_formReport_19 rfl ?_
    obtain ⟨hg7, h⟩ := ob_gd h
    refine ob_iald d_Model_formReport_20 hk5 hg7 ?_
    refine ob_icmp_ge d_Model_formReport_21 (fun hc => ?_) (fun hc => ?_)
    · replace h := ob_ift hc h
      refine ob_aload d_Model_formReport_49 rfl ?_
      obtain ⟨D8, h9, h⟩ := ob_bv_e h
      refine ob_callVv (As := []) (rest := []) d_Model_formReport_50 c_Model_formReport_276 hp_v0 rfl rfl (Nat.le_of_ble_eq_true rfl) (c_Model_made hp_v0 h9) ⟨Nat.le_refl _, Nat.le_refl _⟩ ⟨Nat.le_refl _, Nat.le_refl _⟩ ?_
      exact ob_ve h (ob_vret d_Model_formReport_53 rfl)
    · replace h := ob_iff hc h
      refine ob_aload d_Model_formReport_24 rfl ?_
      refine ob_aload d_Model_formReport_25 rfl ?_
      refine ob_aload d_Model_formReport_26 rfl ?_
      obtain ⟨hg11, h⟩ := ob_gd h
      refine ob_getR d_Model_formReport_27 F_12_35 l_Model_49 hp_v0 hg11 (fun hk10 => ?_)
      refine ob_push d_Model_formReport_30 ?_
      refine ob_iload d_Model_formReport_32 rfl ?_
      refine ob_imul d_Model_formReport_33 ?_
      refine ob_iload d_Model_formReport_34 rfl ?_
      refine ob_iadd d_Model_formReport_35 ?_
      obtain ⟨hg12, h⟩ := ob_gd h
      refine ob_iald d_Model_formReport_36 hk10 hg12 ?_
      obtain ⟨x15, D13, h14, h⟩ := ob_bd_e h
      refine ob_callVi (As := [.int (D.1 (D.2.1 v0 35) (((8 : Int32) * v1) + v2).toNatClampNeg)]) (rest := [.ref v0]) d_Model_formReport_37 c_Model_formReport_351 hp_v0 rfl rfl (Nat.le_of_ble_eq_true rfl) (c_Model_parameter hp_v0 h14) ⟨Nat.le_refl _, Nat.le_refl _⟩ ⟨Nat.le_refl _, Nat.le_refl _⟩ ?_
      obtain ⟨D16, h17, h⟩ := ob_bv_e h
      refine ob_callVv (As := [.int x15]) (rest := []) d_Model_formReport_40 c_Model_formReport_354 hp_v0 rfl rfl (Nat.le_of_ble_eq_true rfl) (c_Model_sayFour hp_v0 h17) ⟨Nat.le_refl _, Nat.le_refl _⟩ ⟨Nat.le_refl _, Nat.le_refl _⟩ ?_
      refine ob_iinc (lo2 := [(0, .ref v0), (1, .int v1), (2, .int (v2 + (1 : Int32)))]) d_Model_formReport_43 rfl rfl ?_
      refine ob_goto d_Model_formReport_46 ?_
      exact ih v0 v1 (v2 + (1 : Int32)) D16 hp_v0 h
def f_Model_formReport (S : ob_S) (v0 : Nat) (v1 : Int32) (D : ob_D) : Option (ob_D) :=
  ob_bv (f_Model_report S v0 (3 : Int32) (25 : Int32) D) fun D1 => ob_bv (f_Model_say S v0 v1 D1) fun D3 => f_Model_formReport_L14 S ob_FU v0 v1 (0 : Int32) D3
theorem c_Model_formReport {l : Launch} {E : ob_E} {S : ob_S} {D : ob_D} {v0 : Nat} {v1 : Int32} {D' : ob_D} (hp_v0 : S.1 v0 = 13) (h : f_Model_formReport S v0 v1 D = some D') : ob_M l E k_Model_formReport [.ref v0, .int v1] S D none S D' := by
  refine ob_ofV (lo := [(0, .ref v0), (1, .int v1)]) (by decide) rfl (Nat.le_of_ble_eq_true rfl) rfl (Nat.le_refl _) (Nat.le_refl _) ?_
  rw [f_Model_formReport] at h
  refine ob_aload d_Model_formReport_0 rfl ?_
  refine ob_push d_Model_formReport_1 ?_
  refine ob_push d_Model_formReport_2 ?_
  obtain ⟨D1, h2, h⟩ := ob_bv_e h
  refine ob_callVv (As := [.int (3 : Int32), .int (25 : Int32)]) (rest := []) d_Model_formReport_4 c_Model_formReport_267 hp_v0 rfl rfl (Nat.le_of_ble_eq_true rfl) (c_Model_report hp_v0 h2) ⟨Nat.le_refl _, Nat.le_refl _⟩ ⟨Nat.le_refl _, Nat.le_refl _⟩ ?_
  refine ob_aload d_Model_formReport_7 rfl ?_
  refine ob_iload d_Model_formReport_8 rfl ?_
  obtain ⟨D3, h4, h⟩ := ob_bv_e h
  refine ob_callVv (As := [.int v1]) (rest := []) d_Model_formReport_9 c_Model_formReport_264 hp_v0 rfl rfl (Nat.le_of_ble_eq_true rfl) (c_Model_say hp_v0 h4) ⟨Nat.le_refl _, Nat.le_refl _⟩ ⟨Nat.le_refl _, Nat.le_refl _⟩ ?_
  refine ob_push d_Model_formReport_12 ?_
  refine ob_istore (lo2 := [(0, .ref v0), (1, .int v1), (2, .int (0 : Int32))]) d_Model_formReport_13 rfl ?_
  exact v_Model_formReport_L14 ob_FU v0 v1 (0 : Int32) D3 hp_v0 h
-- OrbitBoxModel.actForm(I)V
theorem d_Model_actForm_1 : ob_dk k_Model_actForm 1 2 (0 : Int32) (.iconst 0) 1 := ⟨by decide +kernel, rfl, show Int32.ofInt 0 = (0 : Int32) by decide +kernel⟩
theorem d_Model_actForm_7 : ob_dk k_Model_actForm 7 8 (1 : Int32) (.iconst 1) 1 := ⟨by decide +kernel, rfl, show Int32.ofInt 1 = (1 : Int32) by decide +kernel⟩
theorem d_Model_actForm_96 : ob_dk k_Model_actForm 96 97 (3 : Int32) (.iconst 3) 1 := ⟨by decide +kernel, rfl, show Int32.ofInt 3 = (3 : Int32) by decide +kernel⟩
theorem d_Model_actForm_121 : ob_dk k_Model_actForm 121 123 (27 : Int32) (.bipush 27) 2 := ⟨by decide +kernel, rfl, show (Int8.ofInt 27).toInt32 = (27 : Int32) by decide +kernel⟩
theorem d_Model_actForm_140 : ob_dk k_Model_actForm 140 141 (5 : Int32) (.iconst 5) 1 := ⟨by decide +kernel, rfl, show Int32.ofInt 5 = (5 : Int32) by decide +kernel⟩
theorem d_Model_actForm_148 : ob_dk k_Model_actForm 148 149 (0 : Int32) (.iconst 0) 1 := ⟨by decide +kernel, rfl, show Int32.ofInt 0 = (0 : Int32) by decide +kernel⟩
theorem d_Model_actForm_150 : ob_dc k_Model_actForm 150 (.return_) 1 151 := ⟨by decide +kernel, rfl⟩
theorem d_Model_actForm_149 : ob_dc k_Model_actForm 149 (.bastore) 1 150 := ⟨by decide +kernel, rfl⟩
theorem d_Model_actForm_144 : ob_dk k_Model_actForm 144 145 (1 : Int32) (.iconst 1) 1 := ⟨by decide +kernel, rfl, show Int32.ofInt 1 = (1 : Int32) by decide +kernel⟩
theorem d_Model_actForm_145 : ob_db k_Model_actForm 145 (.goto 4) 4 148 149 := ⟨by decide +kernel, rfl, by decide⟩
theorem d_Model_actForm_141 : ob_db k_Model_actForm 141 (.if_icmp .ne 7) 7 144 148 := ⟨by decide +kernel, rfl, by decide⟩
theorem d_Model_actForm_139 : ob_dv ob_lc k_Model_actForm 139 140 1 (.iload_n 1) 1 := ⟨by decide +kernel, rfl, rfl⟩
theorem d_Model_actForm_138 : ob_dv ob_lc k_Model_actForm 138 139 2 (.iload_n 2) 1 := ⟨by decide +kernel, rfl, rfl⟩
theorem d_Model_actForm_135 : ob_dc k_Model_actForm 135 (.getfield 40) 3 138 := ⟨by decide +kernel, rfl⟩
theorem d_Model_actForm_134 : ob_dv ob_ac k_Model_actForm 134 135 0 (.aload_n 0) 1 := ⟨by decide +kernel, rfl, rfl⟩
theorem d_Model_actForm_131 : ob_db k_Model_actForm 131 (.goto 19) 19 134 150 := ⟨by decide +kernel, rfl, by decide⟩
theorem d_Model_actForm_128 : ob_dc k_Model_actForm 128 (.invokevirtual 348) 3 131 := ⟨by decide +kernel, rfl⟩
theorem d_Model_actForm_127 : ob_dv ob_lc k_Model_actForm 127 128 2 (.iload_n 2) 1 := ⟨by decide +kernel, rfl, rfl⟩
theorem d_Model_actForm_126 : ob_dv ob_ac k_Model_actForm 126 127 0 (.aload_n 0) 1 := ⟨by decide +kernel, rfl, rfl⟩
theorem d_Model_actForm_123 : ob_db k_Model_actForm 123 (.if_icmp .ne 11) 11 126 134 := ⟨by decide +kernel, rfl, by decide⟩
theorem d_Model_actForm_120 : ob_dv ob_lc k_Model_actForm 120 121 1 (.iload_n 1) 1 := ⟨by decide +kernel, rfl, rfl⟩
theorem d_Model_actForm_105 : ob_dk k_Model_actForm 105 106 (0 : Int32) (.iconst 0) 1 := ⟨by decide +kernel, rfl, show Int32.ofInt 0 = (0 : Int32) by decide +kernel⟩
theorem d_Model_actForm_112 : ob_dk k_Model_actForm 112 113 (1 : Int32) (.iconst 1) 1 := ⟨by decide +kernel, rfl, show Int32.ofInt 1 = (1 : Int32) by decide +kernel⟩
theorem d_Model_actForm_117 : ob_db k_Model_actForm 117 (.goto 33) 33 120 150 := ⟨by decide +kernel, rfl, by decide⟩
theorem d_Model_actForm_114 : ob_dc k_Model_actForm 114 (.putfield 345) 3 117 := ⟨by decide +kernel, rfl⟩
theorem d_Model_actForm_113 : ob_dc k_Model_actForm 113 (.isub) 1 114 := ⟨by decide +kernel, rfl⟩
theorem d_Model_actForm_109 : ob_dc k_Model_actForm 109 (.getfield 345) 3 112 := ⟨by decide +kernel, rfl⟩
theorem d_Model_actForm_108 : ob_dc k_Model_actForm 108 (.dup) 1 109 := ⟨by decide +kernel, rfl⟩
theorem d_Model_actForm_107 : ob_dv ob_ac k_Model_actForm 107 108 0 (.aload_n 0) 1 := ⟨by decide +kernel, rfl, rfl⟩
theorem d_Model_actForm_106 : ob_dc k_Model_actForm 106 (.bastore) 1 107 := ⟨by decide +kernel, rfl⟩
theorem d_Model_actForm_104 : ob_dv ob_lc k_Model_actForm 104 105 2 (.iload_n 2) 1 := ⟨by decide +kernel, rfl, rfl⟩
theorem d_Model_actForm_101 : ob_dc k_Model_actForm 101 (.getfield 37) 3 104 := ⟨by decide +kernel, rfl⟩
theorem d_Model_actForm_100 : ob_dv ob_ac k_Model_actForm 100 101 0 (.aload_n 0) 1 := ⟨by decide +kernel, rfl, rfl⟩
theorem d_Model_actForm_97 : ob_db k_Model_actForm 97 (.if_icmp .ne 23) 23 100 120 := ⟨by decide +kernel, rfl, by decide⟩
theorem d_Model_actForm_95 : ob_dv ob_lc k_Model_actForm 95 96 1 (.iload_n 1) 1 := ⟨by decide +kernel, rfl, rfl⟩
theorem d_Model_actForm_16 : ob_dk k_Model_actForm 16 17 (1 : Int32) (.iconst 1) 1 := ⟨by decide +kernel, rfl, show Int32.ofInt 1 = (1 : Int32) by decide +kernel⟩
theorem d_Model_actForm_23 : ob_dk k_Model_actForm 23 24 (0 : Int32) (.iconst 0) 1 := ⟨by decide +kernel, rfl, show Int32.ofInt 0 = (0 : Int32) by decide +kernel⟩
theorem d_Model_actForm_31 : ob_dk k_Model_actForm 31 32 (1 : Int32) (.iconst 1) 1 := ⟨by decide +kernel, rfl, show Int32.ofInt 1 = (1 : Int32) by decide +kernel⟩
theorem d_Model_actForm_42 : ob_dk k_Model_actForm 42 43 (2 : Int32) (.iconst 2) 1 := ⟨by decide +kernel, rfl, show Int32.ofInt 2 = (2 : Int32) by decide +kernel⟩
theorem d_Model_actForm_47 : ob_dk k_Model_actForm 47 48 (0 : Int32) (.iconst 0) 1 := ⟨by decide +kernel, rfl, show Int32.ofInt 0 = (0 : Int32) by decide +kernel⟩
theorem d_Model_actForm_51 : ob_dk k_Model_actForm 51 52 (2 : Int32) (.iconst 2) 1 := ⟨by decide +kernel, rfl, show Int32.ofInt 2 = (2 : Int32) by decide +kernel⟩
theorem d_Model_actForm_87 : ob_dk k_Model_actForm 87 88 (1 : Int32) (.iconst 1) 1 := ⟨by decide +kernel, rfl, show Int32.ofInt 1 = (1 : Int32) by decide +kernel⟩
theorem d_Model_actForm_92 : ob_db k_Model_actForm 92 (.goto 58) 58 95 150 := ⟨by decide +kernel, rfl, by decide⟩
theorem d_Model_actForm_89 : ob_dc k_Model_actForm 89 (.putfield 345) 3 92 := ⟨by decide +kernel, rfl⟩
theorem d_Model_actForm_88 : ob_dc k_Model_actForm 88 (.iadd) 1 89 := ⟨by decide +kernel, rfl⟩
theorem d_Model_actForm_84 : ob_dc k_Model_actForm 84 (.getfield 345) 3 87 := ⟨by decide +kernel, rfl⟩
theorem d_Model_actForm_83 : ob_dc k_Model_actForm 83 (.dup) 1 84 := ⟨by decide +kernel, rfl⟩
theorem d_Model_actForm_82 : ob_dv ob_ac k_Model_actForm 82 83 0 (.aload_n 0) 1 := ⟨by decide +kernel, rfl, rfl⟩
theorem d_Model_actForm_62 : ob_dk k_Model_actForm 62 64 (8 : Int32) (.bipush 8) 2 := ⟨by decide +kernel, rfl, show (Int8.ofInt 8).toInt32 = (8 : Int32) by decide +kernel⟩
theorem d_Model_actForm_69 : ob_dk k_Model_actForm 69 70 (3 : Int32) (.iconst 3) 1 := ⟨by decide +kernel, rfl, show Int32.ofInt 3 = (3 : Int32) by decide +kernel⟩
theorem d_Model_actForm_76 : ob_di k_Model_actForm 76 79 3 1 (1 : Int32) := ⟨by decide +kernel, rfl, by decide +kernel, by decide +kernel⟩
theorem d_Model_actForm_79 : ob_db k_Model_actForm 79 (.goto (-30)) (-30) 82 49 := ⟨by decide +kernel, rfl, by decide⟩
theorem d_Model_actForm_75 : ob_dc k_Model_actForm 75 (.iastore) 1 76 := ⟨by decide +kernel, rfl⟩
theorem d_Model_actForm_72 : ob_dc k_Model_actForm 72 (.invokevirtual 302) 3 75 := ⟨by decide +kernel, rfl⟩
theorem d_Model_actForm_71 : ob_dc k_Model_actForm 71 (.iadd) 1 72 := ⟨by decide +kernel, rfl⟩
theorem d_Model_actForm_70 : ob_dv ob_lc k_Model_actForm 70 71 3 (.iload_n 3) 1 := ⟨by decide +kernel, rfl, rfl⟩
theorem d_Model_actForm_68 : ob_dv ob_ac k_Model_actForm 68 69 0 (.aload_n 0) 1 := ⟨by decide +kernel, rfl, rfl⟩
theorem d_Model_actForm_67 : ob_dc k_Model_actForm 67 (.iadd) 1 68 := ⟨by decide +kernel, rfl⟩
theorem d_Model_actForm_66 : ob_dv ob_lc k_Model_actForm 66 67 3 (.iload_n 3) 1 := ⟨by decide +kernel, rfl, rfl⟩
theorem d_Model_actForm_65 : ob_dc k_Model_actForm 65 (.imul) 1 66 := ⟨by decide +kernel, rfl⟩
theorem d_Model_actForm_64 : ob_dv ob_lc k_Model_actForm 64 65 2 (.iload_n 2) 1 := ⟨by decide +kernel, rfl, rfl⟩
theorem d_Model_actForm_59 : ob_dc k_Model_actForm 59 (.getfield 49) 3 62 := ⟨by decide +kernel, rfl⟩
theorem d_Model_actForm_58 : ob_dv ob_ac k_Model_actForm 58 59 0 (.aload_n 0) 1 := ⟨by decide +kernel, rfl, rfl⟩
theorem d_Model_actForm_55 : ob_db k_Model_actForm 55 (.if_icmp .ge 27) 27 58 82 := ⟨by decide +kernel, rfl, by decide⟩
theorem d_Model_actForm_52 : ob_dc k_Model_actForm 52 (.invokevirtual 302) 3 55 := ⟨by decide +kernel, rfl⟩
theorem d_Model_actForm_50 : ob_dv ob_ac k_Model_actForm 50 51 0 (.aload_n 0) 1 := ⟨by decide +kernel, rfl, rfl⟩
theorem d_Model_actForm_49 : ob_dv ob_lc k_Model_actForm 49 50 3 (.iload_n 3) 1 := ⟨by decide +kernel, rfl, rfl⟩
theorem d_Model_actForm_48 : ob_dv (ob_sc k_Model_actForm.2.2.2.1) k_Model_actForm 48 49 3 (.istore_n 3) 1 := ⟨by decide +kernel, rfl, ⟨rfl, by decide +kernel⟩⟩
theorem d_Model_actForm_46 : ob_dc k_Model_actForm 46 (.iastore) 1 47 := ⟨by decide +kernel, rfl⟩
theorem d_Model_actForm_43 : ob_dc k_Model_actForm 43 (.invokevirtual 302) 3 46 := ⟨by decide +kernel, rfl⟩
theorem d_Model_actForm_41 : ob_dv ob_ac k_Model_actForm 41 42 0 (.aload_n 0) 1 := ⟨by decide +kernel, rfl, rfl⟩
theorem d_Model_actForm_40 : ob_dv ob_lc k_Model_actForm 40 41 2 (.iload_n 2) 1 := ⟨by decide +kernel, rfl, rfl⟩
theorem d_Model_actForm_37 : ob_dc k_Model_actForm 37 (.getfield 46) 3 40 := ⟨by decide +kernel, rfl⟩
theorem d_Model_actForm_36 : ob_dv ob_ac k_Model_actForm 36 37 0 (.aload_n 0) 1 := ⟨by decide +kernel, rfl, rfl⟩
theorem d_Model_actForm_35 : ob_dc k_Model_actForm 35 (.iastore) 1 36 := ⟨by decide +kernel, rfl⟩
theorem d_Model_actForm_32 : ob_dc k_Model_actForm 32 (.invokevirtual 302) 3 35 := ⟨by decide +kernel, rfl⟩
theorem d_Model_actForm_30 : ob_dv ob_ac k_Model_actForm 30 31 0 (.aload_n 0) 1 := ⟨by decide +kernel, rfl, rfl⟩
theorem d_Model_actForm_29 : ob_dv ob_lc k_Model_actForm 29 30 2 (.iload_n 2) 1 := ⟨by decide +kernel, rfl, rfl⟩
theorem d_Model_actForm_26 : ob_dc k_Model_actForm 26 (.getfield 43) 3 29 := ⟨by decide +kernel, rfl⟩
theorem d_Model_actForm_25 : ob_dv ob_ac k_Model_actForm 25 26 0 (.aload_n 0) 1 := ⟨by decide +kernel, rfl, rfl⟩
theorem d_Model_actForm_24 : ob_dc k_Model_actForm 24 (.bastore) 1 25 := ⟨by decide +kernel, rfl⟩
theorem d_Model_actForm_22 : ob_dv ob_lc k_Model_actForm 22 23 2 (.iload_n 2) 1 := ⟨by decide +kernel, rfl, rfl⟩
theorem d_Model_actForm_19 : ob_dc k_Model_actForm 19 (.getfield 40) 3 22 := ⟨by decide +kernel, rfl⟩
theorem d_Model_actForm_18 : ob_dv ob_ac k_Model_actForm 18 19 0 (.aload_n 0) 1 := ⟨by decide +kernel, rfl, rfl⟩
theorem d_Model_actForm_17 : ob_dc k_Model_actForm 17 (.bastore) 1 18 := ⟨by decide +kernel, rfl⟩
theorem d_Model_actForm_15 : ob_dv ob_lc k_Model_actForm 15 16 2 (.iload_n 2) 1 := ⟨by decide +kernel, rfl, rfl⟩
theorem d_Model_actForm_12 : ob_dc k_Model_actForm 12 (.getfield 37) 3 15 := ⟨by decide +kernel, rfl⟩
theorem d_Model_actForm_11 : ob_dv ob_ac k_Model_actForm 11 12 0 (.aload_n 0) 1 := ⟨by decide +kernel, rfl, rfl⟩
theorem d_Model_actForm_8 : ob_db k_Model_actForm 8 (.if_icmp .ne 87) 87 11 95 := ⟨by decide +kernel, rfl, by decide⟩
theorem d_Model_actForm_6 : ob_dv ob_lc k_Model_actForm 6 7 1 (.iload_n 1) 1 := ⟨by decide +kernel, rfl, rfl⟩
theorem d_Model_actForm_5 : ob_dv (ob_sc k_Model_actForm.2.2.2.1) k_Model_actForm 5 6 2 (.istore_n 2) 1 := ⟨by decide +kernel, rfl, ⟨rfl, by decide +kernel⟩⟩
theorem d_Model_actForm_2 : ob_dc k_Model_actForm 2 (.invokevirtual 302) 3 5 := ⟨by decide +kernel, rfl⟩
theorem d_Model_actForm_0 : ob_dv ob_ac k_Model_actForm 0 1 0 (.aload_n 0) 1 := ⟨by decide +kernel, rfl, rfl⟩
theorem c_Model_actForm_348 : ob_vd k_Model_actForm k_Model_formReport 348 1 12 := ⟨cw_Model_formReport, yd_Model_formReport, w_1556, w_1558, wp_84, w_14, ⟨_, _, rfl⟩, by decide, by decide⟩
theorem c_Model_actForm_302 : ob_vd k_Model_actForm k_Model_data 302 1 12 := ⟨cw_Model_data, yd_Model_data, w_1504, w_1506, wp_72, w_14, ⟨_, _, rfl⟩, by decide, by decide⟩
def f_Model_actForm_L49 (S : ob_S) : Nat → Nat → Int32 → Int32 → ob_D → Option (ob_D)
  | 0, _, _, _, _ => none
  | n + 1, v0, v2, v3, D => ob_bd (f_Model_data S v0 (2 : Int32) D) fun x41 D39 => (if x41 ≤ v3 then ob_lt (ob_pI D39 v0 36 ((D39.1 v0 36) + (1 : Int32))) fun D42 => some D42 else if D39.2.1 v0 35 ≠ 0 then ob_bd (f_Model_data S v0 ((3 : Int32) + v3) D39) fun x47 D45 => if ob_in (((8 : Int32) * v2) + v3) (S.2.1 (D39.2.1 v0 35)) then ob_lt (ob_pI D45 (D39.2.1 v0 35) (((8 : Int32) * v2) + v3).toNatClampNeg x47) fun D49 => f_Model_actForm_L49 S n v0 v2 (v3 + (1 : Int32)) D49 else none else none)
theorem v_Model_actForm_L49 {l : Launch} {E : ob_E} {S : ob_S} {D' : ob_D} : ∀ (n : Nat), ∀ (v0 : Nat) (v2 : Int32) (v3 : Int32) (D : ob_D), S.1 v0 = 13 → f_Model_actForm_L49 S n v0 v2 v3 D = some D' → ob_V l E k_Model_actForm 49 [(0, .ref v0), (2, .int v2), (3, .int v3)] [] S D none S D' := by
  intro n
  induction n with
  | zero =>
    intro v0 v2 v3 D hp_v0 h
    have h : none = some D' := h
    cases h
  | succ n ih =>
    intro v0 v2 v3 D hp_v0 h
    rw [f_Model_actForm_L49] at h
    refine ob_iload d_Model_actForm_49 rfl ?_
    refine ob_aload d_Model_actForm_50 rfl ?_
    refine ob_push d_Model_actForm_51 ?_
    obtain ⟨x41, D39, h40, h⟩ := ob_bd_e h
    refine ob_callVi (As := [.int (2 : Int32)]) (rest := [.int v3]) d_Model_actForm_52 c_Model_actForm_302 hp_v0 rfl rfl (Nat.le_of_ble_eq_true rfl) (c_Model_data hp_v0 h40) ⟨Nat.le_refl _, Nat.le_refl _⟩ ⟨Nat.le_refl _, Nat.le_refl _⟩ ?_
    refine ob_icmp_ge d_Model_actForm_55 (fun hc => ?_) (fun hc => ?_)
    · replace h := ob_ift hc h
      refine ob_aload d_Model_actForm_82 rfl ?_
      refine ob_dup d_Model_actForm_83 rfl ?_
      refine ob_getI d_Model_actForm_84 F_12_36 l_Model_345 hp_v0 ?_
      refine ob_push d_Model_actForm_87 ?_
      refine ob_iadd d_Model_actForm_88 ?_
      replace h := ob_lt_e h
      refine ob_putI d_Model_actForm_89 F_12_36 l_Model_345 hp_v0 ?_
      refine ob_goto d_Model_actForm_92 ?_
      exact ob_ve h (ob_vret d_Model_actForm_150 rfl)
    · replace h := ob_iff hc h
      refine ob_aload d_Model_actForm_58 rfl ?_
      obtain ⟨hg44, h⟩ := ob_gd h
      refine ob_getR d_Model_actForm_59 F_12_35 l_Model_49 hp_v0 hg44 (fun hk43 => ?_)
      refine ob_push d_Model_actForm_62 ?_
      refine ob_iload d_Model_actForm_64 rfl ?_
      refine ob_imul d_Model_actForm_65 ?_
      refine ob_iload d_Model_actForm_66 rfl ?_
      refine ob_iadd d_Model_actForm_67 ?_
      refine ob_aload d_Model_actForm_68 rfl ?_
      refine ob_push d_Model_actForm_69 ?_
      refine ob_iload d_Model_actForm_70 rfl ?_
      refine ob_iadd d_Model_actForm_71 ?_
      obtain ⟨x47, D45, h46, h⟩ := ob_bd_e h
      refine ob_callVi (As := [.int ((3 : Int32) + v3)]) (rest := [.int (((8 : Int32) * v2) + v3), .ref (D39.2.1 v0 35)]) d_Model_actForm_72 c_Model_actForm_302 hp_v0 rfl rfl (Nat.le_of_ble_eq_true rfl) (c_Model_data hp_v0 h46) ⟨Nat.le_refl _, Nat.le_refl _⟩ ⟨Nat.le_refl _, Nat.le_refl _⟩ ?_
      obtain ⟨hg48, h⟩ := ob_gd h
      replace h := ob_lt_e h
      refine ob_iast d_Model_actForm_75 hk43 hg48 ?_
      refine ob_iinc (lo2 := [(0, .ref v0), (2, .int v2), (3, .int (v3 + (1 : Int32)))]) d_Model_actForm_76 rfl rfl ?_
      refine ob_goto d_Model_actForm_79 ?_
      exact ih v0 v2 (v3 + (1 : Int32)) (ob_pI D45 (D39.2.1 v0 35) (((8 : Int32) * v2) + v3).toNatClampNeg x47) hp_v0 h
def f_Model_actForm (S : ob_S) (v0 : Nat) (v1 : Int32) (D : ob_D) : Option (ob_D) :=
  ob_bd (f_Model_data S v0 (0 : Int32) D) fun x3 D1 => (if v1 = (1 : Int32) then if D1.2.1 v0 31 ≠ 0 then if ob_in x3 (S.2.1 (D1.2.1 v0 31)) then ob_lt (ob_pI D1 (D1.2.1 v0 31) x3.toNatClampNeg ((1 : Int32) &&& 1)) fun D20 => if D20.2.1 v0 32 ≠ 0 then if ob_in x3 (S.2.1 (D20.2.1 v0 32)) then ob_lt (ob_pI D20 (D20.2.1 v0 32) x3.toNatClampNeg ((0 : Int32) &&& 1)) fun D24 => if D24.2.1 v0 33 ≠ 0 then ob_bd (f_Model_data S v0 (1 : Int32) D24) fun x29 D27 => if ob_in x3 (S.2.1 (D24.2.1 v0 33)) then ob_lt (ob_pI D27 (D24.2.1 v0 33) x3.toNatClampNeg x29) fun D31 => if D31.2.1 v0 34 ≠ 0 then ob_bd (f_Model_data S v0 (2 : Int32) D31) fun x36 D34 => if ob_in x3 (S.2.1 (D31.2.1 v0 34)) then ob_lt (ob_pI D34 (D31.2.1 v0 34) x3.toNatClampNeg x36) fun D38 => f_Model_actForm_L49 S ob_FU v0 x3 (0 : Int32) D38 else none else none else none else none else none else none else none else none else (if v1 = (3 : Int32) then if D1.2.1 v0 31 ≠ 0 then if ob_in x3 (S.2.1 (D1.2.1 v0 31)) then ob_lt (ob_pI D1 (D1.2.1 v0 31) x3.toNatClampNeg ((0 : Int32) &&& 1)) fun D15 => ob_lt (ob_pI D15 v0 36 ((D15.1 v0 36) - (1 : Int32))) fun D16 => some D16 else none else none else (if v1 = (27 : Int32) then ob_bv (f_Model_formReport S v0 x3 D1) fun D10 => some D10 else if D1.2.1 v0 32 ≠ 0 then (if v1 = (5 : Int32) then if ob_in x3 (S.2.1 (D1.2.1 v0 32)) then ob_lt (ob_pI D1 (D1.2.1 v0 32) x3.toNatClampNeg ((1 : Int32) &&& 1)) fun D9 => some D9 else none else if ob_in x3 (S.2.1 (D1.2.1 v0 32)) then ob_lt (ob_pI D1 (D1.2.1 v0 32) x3.toNatClampNeg ((0 : Int32) &&& 1)) fun D7 => some D7 else none) else none)))
theorem c_Model_actForm {l : Launch} {E : ob_E} {S : ob_S} {D : ob_D} {v0 : Nat} {v1 : Int32} {D' : ob_D} (hp_v0 : S.1 v0 = 13) (h : f_Model_actForm S v0 v1 D = some D') : ob_M l E k_Model_actForm [.ref v0, .int v1] S D none S D' := by
  refine ob_ofV (lo := [(0, .ref v0), (1, .int v1)]) (by decide) rfl (Nat.le_of_ble_eq_true rfl) rfl (Nat.le_refl _) (Nat.le_refl _) ?_
  rw [f_Model_actForm] at h
  refine ob_aload d_Model_actForm_0 rfl ?_
  refine ob_push d_Model_actForm_1 ?_
  obtain ⟨x3, D1, h2, h⟩ := ob_bd_e h
  refine ob_callVi (As := [.int (0 : Int32)]) (rest := []) d_Model_actForm_2 c_Model_actForm_302 hp_v0 rfl rfl (Nat.le_of_ble_eq_true rfl) (c_Model_data hp_v0 h2) ⟨Nat.le_refl _, Nat.le_refl _⟩ ⟨Nat.le_refl _, Nat.le_refl _⟩ ?_
  refine ob_istore (lo2 := [(0, .ref v0), (1, .int v1), (2, .int x3)]) d_Model_actForm_5 rfl ?_
  refine ob_iload d_Model_actForm_6 rfl ?_
  refine ob_push d_Model_actForm_7 ?_
  refine ob_icmp_ne d_Model_actForm_8 (fun hc => ?_) (fun hc => ?_)
  · replace h := ob_iff hc h
    refine ob_iload d_Model_actForm_95 rfl ?_
    refine ob_push d_Model_actForm_96 ?_
    refine ob_icmp_ne d_Model_actForm_97 (fun hc => ?_) (fun hc => ?_)
    · replace h := ob_iff hc h
      refine ob_iload d_Model_actForm_120 rfl ?_
      refine ob_push d_Model_actForm_121 ?_
      refine ob_icmp_ne d_Model_actForm_123 (fun hc => ?_) (fun hc => ?_)
      · replace h := ob_iff hc h
        refine ob_aload d_Model_actForm_134 rfl ?_
        obtain ⟨hg5, h⟩ := ob_gd h
        refine ob_getR d_Model_actForm_135 F_12_32 l_Model_40 hp_v0 hg5 (fun hk4 => ?_)
        refine ob_iload d_Model_actForm_138 rfl ?_
        refine ob_iload d_Model_actForm_139 rfl ?_
        refine ob_push d_Model_actForm_140 ?_
        refine ob_icmp_ne d_Model_actForm_141 (fun hc => ?_) (fun hc => ?_)
        · replace h := ob_iff hc h
          refine ob_push d_Model_actForm_148 ?_
          obtain ⟨hg6, h⟩ := ob_gd h
          replace h := ob_lt_e h
          refine ob_zast d_Model_actForm_149 hk4 hg6 ?_
          exact ob_ve h (ob_vret d_Model_actForm_150 rfl)
        · replace h := ob_ift hc h
          refine ob_push d_Model_actForm_144 ?_
          refine ob_goto d_Model_actForm_145 ?_
          obtain ⟨hg8, h⟩ := ob_gd h
          replace h := ob_lt_e h
          refine ob_zast d_Model_actForm_149 hk4 hg8 ?_
          exact ob_ve h (ob_vret d_Model_actForm_150 rfl)
      · replace h := ob_ift hc h
        refine ob_aload d_Model_actForm_126 rfl ?_
        refine ob_iload d_Model_actForm_127 rfl ?_
        obtain ⟨D10, h11, h⟩ := ob_bv_e h
        refine ob_callVv (As := [.int x3]) (rest := []) d_Model_actForm_128 c_Model_actForm_348 hp_v0 rfl rfl (Nat.le_of_ble_eq_true rfl) (c_Model_formReport hp_v0 h11) ⟨Nat.le_refl _, Nat.le_refl _⟩ ⟨Nat.le_refl _, Nat.le_refl _⟩ ?_
        refine ob_goto d_Model_actForm_131 ?_
        exact ob_ve h (ob_vret d_Model_actForm_150 rfl)
    · replace h := ob_ift hc h
      refine ob_aload d_Model_actForm_100 rfl ?_
      obtain ⟨hg13, h⟩ := ob_gd h
      refine ob_getR d_Model_actForm_101 F_12_31 l_Model_37 hp_v0 hg13 (fun hk12 => ?_)
      refine ob_iload d_Model_actForm_104 rfl ?_
      refine ob_push d_Model_actForm_105 ?_
      obtain ⟨hg14, h⟩ := ob_gd h
      replace h := ob_lt_e h
      refine ob_zast d_Model_actForm_106 hk12 hg14 ?_
      refine ob_aload d_Model_actForm_107 rfl ?_
      refine ob_dup d_Model_actForm_108 rfl ?_
      refine ob_getI d_Model_actForm_109 F_12_36 l_Model_345 hp_v0 ?_
      refine ob_push d_Model_actForm_112 ?_
      refine ob_isub d_Model_actForm_113 ?_
      replace h := ob_lt_e h
      refine ob_putI d_Model_actForm_114 F_12_36 l_Model_345 hp_v0 ?_
      refine ob_goto d_Model_actForm_117 ?_
      exact ob_ve h (ob_vret d_Model_actForm_150 rfl)
  · replace h := ob_ift hc h
    refine ob_aload d_Model_actForm_11 rfl ?_
    obtain ⟨hg18, h⟩ := ob_gd h
    refine ob_getR d_Model_actForm_12 F_12_31 l_Model_37 hp_v0 hg18 (fun hk17 => ?_)
    refine ob_iload d_Model_actForm_15 rfl ?_
    refine ob_push d_Model_actForm_16 ?_
    obtain ⟨hg19, h⟩ := ob_gd h
    replace h := ob_lt_e h
    refine ob_zast d_Model_actForm_17 hk17 hg19 ?_
    refine ob_aload d_Model_actForm_18 rfl ?_
    obtain ⟨hg22, h⟩ := ob_gd h
    refine ob_getR d_Model_actForm_19 F_12_32 l_Model_40 hp_v0 hg22 (fun hk21 => ?_)
    refine ob_iload d_Model_actForm_22 rfl ?_
    refine ob_push d_Model_actForm_23 ?_
    obtain ⟨hg23, h⟩ := ob_gd h
    replace h := ob_lt_e h
    refine ob_zast d_Model_actForm_24 hk21 hg23 ?_
    refine ob_aload d_Model_actForm_25 rfl ?_
    obtain ⟨hg26, h⟩ := ob_gd h
    refine ob_getR d_Model_actForm_26 F_12_33 l_Model_43 hp_v0 hg26 (fun hk25 => ?_)
    refine ob_iload d_Model_actForm_29 rfl ?_
    refine ob_aload d_Model_actForm_30 rfl ?_
    refine ob_push d_Model_actForm_31 ?_
    obtain ⟨x29, D27, h28, h⟩ := ob_bd_e h
    refine ob_callVi (As := [.int (1 : Int32)]) (rest := [.int x3, .ref ((ob_pI (ob_pI D1 (D1.2.1 v0 31) x3.toNatClampNeg ((1 : Int32) &&& 1)) ((ob_pI D1 (D1.2.1 v0 31) x3.toNatClampNeg ((1 : Int32) &&& 1)).2.1 v0 32) x3.toNatClampNeg ((0 : Int32) &&& 1)).2.1 v0 33)]) d_Model_actForm_32 c_Model_actForm_302 hp_v0 rfl rfl (Nat.le_of_ble_eq_true rfl) (c_Model_data hp_v0 h28) ⟨Nat.le_refl _, Nat.le_refl _⟩ ⟨Nat.le_refl _, Nat.le_refl _⟩ ?_
    obtain ⟨hg30, h⟩ := ob_gd h
    replace h := ob_lt_e h
    refine ob_iast d_Model_actForm_35 hk25 hg30 ?_
    refine ob_aload d_Model_actForm_36 rfl ?_
    obtain ⟨hg33, h⟩ := ob_gd h
    refine ob_getR d_Model_actForm_37 F_12_34 l_Model_46 hp_v0 hg33 (fun hk32 => ?_)
    refine ob_iload d_Model_actForm_40 rfl ?_
    refine ob_aload d_Model_actForm_41 rfl ?_
    refine ob_push d_Model_actForm_42 ?_
    obtain ⟨x36, D34, h35, h⟩ := ob_bd_e h
    refine ob_callVi (As := [.int (2 : Int32)]) (rest := [.int x3, .ref ((ob_pI D27 ((ob_pI (ob_pI D1 (D1.2.1 v0 31) x3.toNatClampNeg ((1 : Int32) &&& 1)) ((ob_pI D1 (D1.2.1 v0 31) x3.toNatClampNeg ((1 : Int32) &&& 1)).2.1 v0 32) x3.toNatClampNeg ((0 : Int32) &&& 1)).2.1 v0 33) x3.toNatClampNeg x29).2.1 v0 34)]) d_Model_actForm_43 c_Model_actForm_302 hp_v0 rfl rfl (Nat.le_of_ble_eq_true rfl) (c_Model_data hp_v0 h35) ⟨Nat.le_refl _, Nat.le_refl _⟩ ⟨Nat.le_refl _, Nat.le_refl _⟩ ?_
    obtain ⟨hg37, h⟩ := ob_gd h
    replace h := ob_lt_e h
    refine ob_iast d_Model_actForm_46 hk32 hg37 ?_
    refine ob_push d_Model_actForm_47 ?_
    refine ob_istore (lo2 := [(0, .ref v0), (1, .int v1), (2, .int x3), (3, .int (0 : Int32))]) d_Model_actForm_48 rfl ?_
    refine ob_sub (lo2 := [(0, .ref v0), (2, .int x3), (3, .int (0 : Int32))]) [0, 2, 3] rfl ?_
    exact v_Model_actForm_L49 ob_FU v0 x3 (0 : Int32) (ob_pI D34 ((ob_pI D27 ((ob_pI (ob_pI D1 (D1.2.1 v0 31) x3.toNatClampNeg ((1 : Int32) &&& 1)) ((ob_pI D1 (D1.2.1 v0 31) x3.toNatClampNeg ((1 : Int32) &&& 1)).2.1 v0 32) x3.toNatClampNeg ((0 : Int32) &&& 1)).2.1 v0 33) x3.toNatClampNeg x29).2.1 v0 34) x3.toNatClampNeg x36) hp_v0 h
-- OrbitBoxModel.actMemory(I)V
theorem d_Model_actMemory_1 : ob_dk k_Model_actMemory 1 2 (0 : Int32) (.iconst 0) 1 := ⟨by decide +kernel, rfl, show Int32.ofInt 0 = (0 : Int32) by decide +kernel⟩
theorem d_Model_actMemory_7 : ob_dk k_Model_actMemory 7 8 (2 : Int32) (.iconst 2) 1 := ⟨by decide +kernel, rfl, show Int32.ofInt 2 = (2 : Int32) by decide +kernel⟩
theorem d_Model_actMemory_49 : ob_dk k_Model_actMemory 49 50 (5 : Int32) (.iconst 5) 1 := ⟨by decide +kernel, rfl, show Int32.ofInt 5 = (5 : Int32) by decide +kernel⟩
theorem d_Model_actMemory_112 : ob_dk k_Model_actMemory 112 114 (6 : Int32) (.bipush 6) 2 := ⟨by decide +kernel, rfl, show (Int8.ofInt 6).toInt32 = (6 : Int32) by decide +kernel⟩
theorem d_Model_actMemory_114 : ob_dk k_Model_actMemory 114 116 (10 : Int32) (.bipush 10) 2 := ⟨by decide +kernel, rfl, show (Int8.ofInt 10).toInt32 = (10 : Int32) by decide +kernel⟩
theorem d_Model_actMemory_126 : ob_dk k_Model_actMemory 126 127 (2 : Int32) (.iconst 2) 1 := ⟨by decide +kernel, rfl, show Int32.ofInt 2 = (2 : Int32) by decide +kernel⟩
theorem d_Model_actMemory_140 : ob_dk k_Model_actMemory 140 141 (2 : Int32) (.iconst 2) 1 := ⟨by decide +kernel, rfl, show Int32.ofInt 2 = (2 : Int32) by decide +kernel⟩
theorem d_Model_actMemory_154 : ob_dc k_Model_actMemory 154 (.return_) 1 155 := ⟨by decide +kernel, rfl⟩
theorem d_Model_actMemory_151 : ob_dc k_Model_actMemory 151 (.invokevirtual 276) 3 154 := ⟨by decide +kernel, rfl⟩
theorem d_Model_actMemory_150 : ob_dv ob_ac k_Model_actMemory 150 151 0 (.aload_n 0) 1 := ⟨by decide +kernel, rfl, rfl⟩
theorem d_Model_actMemory_147 : ob_dc k_Model_actMemory 147 (.invokevirtual 273) 3 150 := ⟨by decide +kernel, rfl⟩
theorem d_Model_actMemory_144 : ob_dc k_Model_actMemory 144 (.invokestatic 214) 3 147 := ⟨by decide +kernel, rfl⟩
theorem d_Model_actMemory_141 : ob_dc k_Model_actMemory 141 (.invokevirtual 357) 3 144 := ⟨by decide +kernel, rfl⟩
theorem d_Model_actMemory_139 : ob_dv ob_ac k_Model_actMemory 139 140 0 (.aload_n 0) 1 := ⟨by decide +kernel, rfl, rfl⟩
theorem d_Model_actMemory_138 : ob_dv ob_lc k_Model_actMemory 138 139 2 (.iload_n 2) 1 := ⟨by decide +kernel, rfl, rfl⟩
theorem d_Model_actMemory_135 : ob_dc k_Model_actMemory 135 (.getfield 52) 3 138 := ⟨by decide +kernel, rfl⟩
theorem d_Model_actMemory_134 : ob_dv ob_ac k_Model_actMemory 134 135 0 (.aload_n 0) 1 := ⟨by decide +kernel, rfl, rfl⟩
theorem d_Model_actMemory_133 : ob_dv ob_ac k_Model_actMemory 133 134 0 (.aload_n 0) 1 := ⟨by decide +kernel, rfl, rfl⟩
theorem d_Model_actMemory_130 : ob_dc k_Model_actMemory 130 (.invokevirtual 273) 3 133 := ⟨by decide +kernel, rfl⟩
theorem d_Model_actMemory_127 : ob_dc k_Model_actMemory 127 (.invokevirtual 357) 3 130 := ⟨by decide +kernel, rfl⟩
theorem d_Model_actMemory_125 : ob_dv ob_ac k_Model_actMemory 125 126 0 (.aload_n 0) 1 := ⟨by decide +kernel, rfl, rfl⟩
theorem d_Model_actMemory_124 : ob_dv ob_ac k_Model_actMemory 124 125 0 (.aload_n 0) 1 := ⟨by decide +kernel, rfl, rfl⟩
theorem d_Model_actMemory_121 : ob_dc k_Model_actMemory 121 (.invokevirtual 273) 3 124 := ⟨by decide +kernel, rfl⟩
theorem d_Model_actMemory_120 : ob_dv ob_lc k_Model_actMemory 120 121 2 (.iload_n 2) 1 := ⟨by decide +kernel, rfl, rfl⟩
theorem d_Model_actMemory_119 : ob_dv ob_ac k_Model_actMemory 119 120 0 (.aload_n 0) 1 := ⟨by decide +kernel, rfl, rfl⟩
theorem d_Model_actMemory_116 : ob_dc k_Model_actMemory 116 (.invokevirtual 267) 3 119 := ⟨by decide +kernel, rfl⟩
theorem d_Model_actMemory_111 : ob_dv ob_ac k_Model_actMemory 111 112 0 (.aload_n 0) 1 := ⟨by decide +kernel, rfl, rfl⟩
theorem d_Model_actMemory_54 : ob_dk k_Model_actMemory 54 56 (6 : Int32) (.bipush 6) 2 := ⟨by decide +kernel, rfl, show (Int8.ofInt 6).toInt32 = (6 : Int32) by decide +kernel⟩
theorem d_Model_actMemory_56 : ob_dk k_Model_actMemory 56 58 (6 : Int32) (.bipush 6) 2 := ⟨by decide +kernel, rfl, show (Int8.ofInt 6).toInt32 = (6 : Int32) by decide +kernel⟩
theorem d_Model_actMemory_68 : ob_dk k_Model_actMemory 68 69 (2 : Int32) (.iconst 2) 1 := ⟨by decide +kernel, rfl, show Int32.ofInt 2 = (2 : Int32) by decide +kernel⟩
theorem d_Model_actMemory_75 : ob_dk k_Model_actMemory 75 76 (0 : Int32) (.iconst 0) 1 := ⟨by decide +kernel, rfl, show Int32.ofInt 0 = (0 : Int32) by decide +kernel⟩
theorem d_Model_actMemory_79 : ob_dk k_Model_actMemory 79 80 (2 : Int32) (.iconst 2) 1 := ⟨by decide +kernel, rfl, show Int32.ofInt 2 = (2 : Int32) by decide +kernel⟩
theorem d_Model_actMemory_108 : ob_db k_Model_actMemory 108 (.goto 46) 46 111 154 := ⟨by decide +kernel, rfl, by decide⟩
theorem d_Model_actMemory_105 : ob_dc k_Model_actMemory 105 (.invokevirtual 276) 3 108 := ⟨by decide +kernel, rfl⟩
theorem d_Model_actMemory_104 : ob_dv ob_ac k_Model_actMemory 104 105 0 (.aload_n 0) 1 := ⟨by decide +kernel, rfl, rfl⟩
theorem d_Model_actMemory_98 : ob_di k_Model_actMemory 98 101 3 1 (1 : Int32) := ⟨by decide +kernel, rfl, by decide +kernel, by decide +kernel⟩
theorem d_Model_actMemory_101 : ob_db k_Model_actMemory 101 (.goto (-24)) (-24) 104 77 := ⟨by decide +kernel, rfl, by decide⟩
theorem d_Model_actMemory_95 : ob_dc k_Model_actMemory 95 (.invokevirtual 264) 3 98 := ⟨by decide +kernel, rfl⟩
theorem d_Model_actMemory_94 : ob_dc k_Model_actMemory 94 (.baload) 1 95 := ⟨by decide +kernel, rfl⟩
theorem d_Model_actMemory_93 : ob_dc k_Model_actMemory 93 (.iadd) 1 94 := ⟨by decide +kernel, rfl⟩
theorem d_Model_actMemory_92 : ob_dv ob_lc k_Model_actMemory 92 93 3 (.iload_n 3) 1 := ⟨by decide +kernel, rfl, rfl⟩
theorem d_Model_actMemory_91 : ob_dv ob_lc k_Model_actMemory 91 92 2 (.iload_n 2) 1 := ⟨by decide +kernel, rfl, rfl⟩
theorem d_Model_actMemory_88 : ob_dc k_Model_actMemory 88 (.getfield 52) 3 91 := ⟨by decide +kernel, rfl⟩
theorem d_Model_actMemory_87 : ob_dv ob_ac k_Model_actMemory 87 88 0 (.aload_n 0) 1 := ⟨by decide +kernel, rfl, rfl⟩
theorem d_Model_actMemory_86 : ob_dv ob_ac k_Model_actMemory 86 87 0 (.aload_n 0) 1 := ⟨by decide +kernel, rfl, rfl⟩
theorem d_Model_actMemory_83 : ob_db k_Model_actMemory 83 (.if_icmp .ge 21) 21 86 104 := ⟨by decide +kernel, rfl, by decide⟩
theorem d_Model_actMemory_80 : ob_dc k_Model_actMemory 80 (.invokevirtual 302) 3 83 := ⟨by decide +kernel, rfl⟩
theorem d_Model_actMemory_78 : ob_dv ob_ac k_Model_actMemory 78 79 0 (.aload_n 0) 1 := ⟨by decide +kernel, rfl, rfl⟩
theorem d_Model_actMemory_77 : ob_dv ob_lc k_Model_actMemory 77 78 3 (.iload_n 3) 1 := ⟨by decide +kernel, rfl, rfl⟩
theorem d_Model_actMemory_76 : ob_dv (ob_sc k_Model_actMemory.2.2.2.1) k_Model_actMemory 76 77 3 (.istore_n 3) 1 := ⟨by decide +kernel, rfl, ⟨rfl, by decide +kernel⟩⟩
theorem d_Model_actMemory_72 : ob_dc k_Model_actMemory 72 (.invokevirtual 264) 3 75 := ⟨by decide +kernel, rfl⟩
theorem d_Model_actMemory_69 : ob_dc k_Model_actMemory 69 (.invokevirtual 302) 3 72 := ⟨by decide +kernel, rfl⟩
theorem d_Model_actMemory_67 : ob_dv ob_ac k_Model_actMemory 67 68 0 (.aload_n 0) 1 := ⟨by decide +kernel, rfl, rfl⟩
theorem d_Model_actMemory_66 : ob_dv ob_ac k_Model_actMemory 66 67 0 (.aload_n 0) 1 := ⟨by decide +kernel, rfl, rfl⟩
theorem d_Model_actMemory_63 : ob_dc k_Model_actMemory 63 (.invokevirtual 273) 3 66 := ⟨by decide +kernel, rfl⟩
theorem d_Model_actMemory_62 : ob_dv ob_lc k_Model_actMemory 62 63 2 (.iload_n 2) 1 := ⟨by decide +kernel, rfl, rfl⟩
theorem d_Model_actMemory_61 : ob_dv ob_ac k_Model_actMemory 61 62 0 (.aload_n 0) 1 := ⟨by decide +kernel, rfl, rfl⟩
theorem d_Model_actMemory_58 : ob_dc k_Model_actMemory 58 (.invokevirtual 267) 3 61 := ⟨by decide +kernel, rfl⟩
theorem d_Model_actMemory_53 : ob_dv ob_ac k_Model_actMemory 53 54 0 (.aload_n 0) 1 := ⟨by decide +kernel, rfl, rfl⟩
theorem d_Model_actMemory_50 : ob_db k_Model_actMemory 50 (.if_icmp .ne 61) 61 53 111 := ⟨by decide +kernel, rfl, by decide⟩
theorem d_Model_actMemory_48 : ob_dv ob_lc k_Model_actMemory 48 49 1 (.iload_n 1) 1 := ⟨by decide +kernel, rfl, rfl⟩
theorem d_Model_actMemory_11 : ob_dk k_Model_actMemory 11 12 (0 : Int32) (.iconst 0) 1 := ⟨by decide +kernel, rfl, show Int32.ofInt 0 = (0 : Int32) by decide +kernel⟩
theorem d_Model_actMemory_15 : ob_dk k_Model_actMemory 15 16 (2 : Int32) (.iconst 2) 1 := ⟨by decide +kernel, rfl, show Int32.ofInt 2 = (2 : Int32) by decide +kernel⟩
theorem d_Model_actMemory_45 : ob_db k_Model_actMemory 45 (.goto 109) 109 48 154 := ⟨by decide +kernel, rfl, by decide⟩
theorem d_Model_actMemory_33 : ob_dk k_Model_actMemory 33 35 (14 : Int32) (.bipush 14) 2 := ⟨by decide +kernel, rfl, show (Int8.ofInt 14).toInt32 = (14 : Int32) by decide +kernel⟩
theorem d_Model_actMemory_39 : ob_di k_Model_actMemory 39 42 3 1 (1 : Int32) := ⟨by decide +kernel, rfl, by decide +kernel, by decide +kernel⟩
theorem d_Model_actMemory_42 : ob_db k_Model_actMemory 42 (.goto (-29)) (-29) 45 13 := ⟨by decide +kernel, rfl, by decide⟩
theorem d_Model_actMemory_38 : ob_dc k_Model_actMemory 38 (.bastore) 1 39 := ⟨by decide +kernel, rfl⟩
theorem d_Model_actMemory_37 : ob_dc k_Model_actMemory 37 (.baload) 1 38 := ⟨by decide +kernel, rfl⟩
theorem d_Model_actMemory_36 : ob_dc k_Model_actMemory 36 (.iadd) 1 37 := ⟨by decide +kernel, rfl⟩
theorem d_Model_actMemory_35 : ob_dv ob_lc k_Model_actMemory 35 36 3 (.iload_n 3) 1 := ⟨by decide +kernel, rfl, rfl⟩
theorem d_Model_actMemory_30 : ob_dc k_Model_actMemory 30 (.getfield 34) 3 33 := ⟨by decide +kernel, rfl⟩
theorem d_Model_actMemory_29 : ob_dv ob_ac k_Model_actMemory 29 30 0 (.aload_n 0) 1 := ⟨by decide +kernel, rfl, rfl⟩
theorem d_Model_actMemory_28 : ob_dc k_Model_actMemory 28 (.iadd) 1 29 := ⟨by decide +kernel, rfl⟩
theorem d_Model_actMemory_27 : ob_dv ob_lc k_Model_actMemory 27 28 3 (.iload_n 3) 1 := ⟨by decide +kernel, rfl, rfl⟩
theorem d_Model_actMemory_26 : ob_dv ob_lc k_Model_actMemory 26 27 2 (.iload_n 2) 1 := ⟨by decide +kernel, rfl, rfl⟩
theorem d_Model_actMemory_23 : ob_dc k_Model_actMemory 23 (.getfield 52) 3 26 := ⟨by decide +kernel, rfl⟩
theorem d_Model_actMemory_22 : ob_dv ob_ac k_Model_actMemory 22 23 0 (.aload_n 0) 1 := ⟨by decide +kernel, rfl, rfl⟩
theorem d_Model_actMemory_19 : ob_db k_Model_actMemory 19 (.if_icmp .ge 26) 26 22 45 := ⟨by decide +kernel, rfl, by decide⟩
theorem d_Model_actMemory_16 : ob_dc k_Model_actMemory 16 (.invokevirtual 302) 3 19 := ⟨by decide +kernel, rfl⟩
theorem d_Model_actMemory_14 : ob_dv ob_ac k_Model_actMemory 14 15 0 (.aload_n 0) 1 := ⟨by decide +kernel, rfl, rfl⟩
theorem d_Model_actMemory_13 : ob_dv ob_lc k_Model_actMemory 13 14 3 (.iload_n 3) 1 := ⟨by decide +kernel, rfl, rfl⟩
theorem d_Model_actMemory_12 : ob_dv (ob_sc k_Model_actMemory.2.2.2.1) k_Model_actMemory 12 13 3 (.istore_n 3) 1 := ⟨by decide +kernel, rfl, ⟨rfl, by decide +kernel⟩⟩
theorem d_Model_actMemory_8 : ob_db k_Model_actMemory 8 (.if_icmp .ne 40) 40 11 48 := ⟨by decide +kernel, rfl, by decide⟩
theorem d_Model_actMemory_6 : ob_dv ob_lc k_Model_actMemory 6 7 1 (.iload_n 1) 1 := ⟨by decide +kernel, rfl, rfl⟩
theorem d_Model_actMemory_5 : ob_dv (ob_sc k_Model_actMemory.2.2.2.1) k_Model_actMemory 5 6 2 (.istore_n 2) 1 := ⟨by decide +kernel, rfl, ⟨rfl, by decide +kernel⟩⟩
theorem d_Model_actMemory_2 : ob_dc k_Model_actMemory 2 (.invokevirtual 357) 3 5 := ⟨by decide +kernel, rfl⟩
theorem d_Model_actMemory_0 : ob_dv ob_ac k_Model_actMemory 0 1 0 (.aload_n 0) 1 := ⟨by decide +kernel, rfl, rfl⟩
theorem c_Model_actMemory_276 : ob_vd k_Model_actMemory k_Model_made 276 0 12 := ⟨cw_Model_made, yd_Model_made, w_1477, w_1479, wp_66, w_14, ⟨_, _, rfl⟩, by decide, by decide⟩
theorem c_Model_actMemory_273 : ob_vd k_Model_actMemory k_Model_sayTwo 273 1 12 := ⟨cw_Model_sayTwo, yd_Model_sayTwo, w_1460, w_1462, wp_62, w_14, ⟨_, _, rfl⟩, by decide, by decide⟩
theorem c_Model_actMemory_214 : ob_sd k_Model_actMemory k_Model_check 214 3 := ⟨cw_Model_check, yd_Model_check, w_1403, w_1404, w_14, by decide, by decide⟩
theorem c_Model_actMemory_357 : ob_vd k_Model_actMemory k_Model_dataTwo 357 1 12 := ⟨cw_Model_dataTwo, yd_Model_dataTwo, w_1512, w_1514, wp_74, w_14, ⟨_, _, rfl⟩, by decide, by decide⟩
theorem c_Model_actMemory_267 : ob_vd k_Model_actMemory k_Model_report 267 2 12 := ⟨cw_Model_report, yd_Model_report, w_1456, w_1458, wp_61, w_14, ⟨_, _, rfl⟩, by decide, by decide⟩
theorem c_Model_actMemory_264 : ob_vd k_Model_actMemory k_Model_say 264 1 12 := ⟨cw_Model_say, yd_Model_say, w_1464, w_1466, wp_63, w_14, ⟨_, _, rfl⟩, by decide, by decide⟩
theorem c_Model_actMemory_302 : ob_vd k_Model_actMemory k_Model_data 302 1 12 := ⟨cw_Model_data, yd_Model_data, w_1504, w_1506, wp_72, w_14, ⟨_, _, rfl⟩, by decide, by decide⟩
def f_Model_actMemory_L77 (S : ob_S) : Nat → Nat → Int32 → Int32 → ob_D → Option (ob_D)
  | 0, _, _, _, _ => none
  | n + 1, v0, v2, v3, D => ob_bd (f_Model_data S v0 (2 : Int32) D) fun x36 D34 => (if x36 ≤ v3 then ob_bv (f_Model_made S v0 D34) fun D37 => some D37 else if D34.2.1 v0 37 ≠ 0 then if ob_in (v2 + v3) (S.2.1 (D34.2.1 v0 37)) then ob_bv (f_Model_say S v0 (D34.1 (D34.2.1 v0 37) (v2 + v3).toNatClampNeg) D34) fun D42 => f_Model_actMemory_L77 S n v0 v2 (v3 + (1 : Int32)) D42 else none else none)
theorem v_Model_actMemory_L77 {l : Launch} {E : ob_E} {S : ob_S} {D' : ob_D} : ∀ (n : Nat), ∀ (v0 : Nat) (v2 : Int32) (v3 : Int32) (D : ob_D), S.1 v0 = 13 → f_Model_actMemory_L77 S n v0 v2 v3 D = some D' → ob_V l E k_Model_actMemory 77 [(0, .ref v0), (2, .int v2), (3, .int v3)] [] S D none S D' := by
  intro n
  induction n with
  | zero =>
    intro v0 v2 v3 D hp_v0 h
    have h : none = some D' := h
    cases h
  | succ n ih =>
    intro v0 v2 v3 D hp_v0 h
    rw [f_Model_actMemory_L77] at h
    refine ob_iload d_Model_actMemory_77 rfl ?_
    refine ob_aload d_Model_actMemory_78 rfl ?_
    refine ob_push d_Model_actMemory_79 ?_
    obtain ⟨x36, D34, h35, h⟩ := ob_bd_e h
    refine ob_callVi (As := [.int (2 : Int32)]) (rest := [.int v3]) d_Model_actMemory_80 c_Model_actMemory_302 hp_v0 rfl rfl (Nat.le_of_ble_eq_true rfl) (c_Model_data hp_v0 h35) ⟨Nat.le_refl _, Nat.le_refl _⟩ ⟨Nat.le_refl _, Nat.le_refl _⟩ ?_
    refine ob_icmp_ge d_Model_actMemory_83 (fun hc => ?_) (fun hc => ?_)
    · replace h := ob_ift hc h
      refine ob_aload d_Model_actMemory_104 rfl ?_
      obtain ⟨D37, h38, h⟩ := ob_bv_e h
      refine ob_callVv (As := []) (rest := []) d_Model_actMemory_105 c_Model_actMemory_276 hp_v0 rfl rfl (Nat.le_of_ble_eq_true rfl) (c_Model_made hp_v0 h38) ⟨Nat.le_refl _, Nat.le_refl _⟩ ⟨Nat.le_refl _, Nat.le_refl _⟩ ?_
      refine ob_goto d_Model_actMemory_108 ?_
      exact ob_ve h (ob_vret d_Model_actMemory_154 rfl)
    · replace h := ob_iff hc h
      refine ob_aload d_Model_actMemory_86 rfl ?_
      refine ob_aload d_Model_actMemory_87 rfl ?_
      obtain ⟨hg40, h⟩ := ob_gd h
      refine ob_getR d_Model_actMemory_88 F_12_37 l_Model_52 hp_v0 hg40 (fun hk39 => ?_)
      refine ob_iload d_Model_actMemory_91 rfl ?_
      refine ob_iload d_Model_actMemory_92 rfl ?_
      refine ob_iadd d_Model_actMemory_93 ?_
      obtain ⟨hg41, h⟩ := ob_gd h
      refine ob_bald d_Model_actMemory_94 hk39 hg41 ?_
      obtain ⟨D42, h43, h⟩ := ob_bv_e h
      refine ob_callVv (As := [.int (D34.1 (D34.2.1 v0 37) (v2 + v3).toNatClampNeg)]) (rest := []) d_Model_actMemory_95 c_Model_actMemory_264 hp_v0 rfl rfl (Nat.le_of_ble_eq_true rfl) (c_Model_say hp_v0 h43) ⟨Nat.le_refl _, Nat.le_refl _⟩ ⟨Nat.le_refl _, Nat.le_refl _⟩ ?_
      refine ob_iinc (lo2 := [(0, .ref v0), (2, .int v2), (3, .int (v3 + (1 : Int32)))]) d_Model_actMemory_98 rfl rfl ?_
      refine ob_goto d_Model_actMemory_101 ?_
      exact ih v0 v2 (v3 + (1 : Int32)) D42 hp_v0 h
def f_Model_actMemory_L13 (S : ob_S) : Nat → Nat → Int32 → Int32 → ob_D → Option (ob_D)
  | 0, _, _, _, _ => none
  | n + 1, v0, v2, v3, D => ob_bd (f_Model_data S v0 (2 : Int32) D) fun x46 D44 => (if x46 ≤ v3 then some D44 else if D44.2.1 v0 37 ≠ 0 then if D44.2.1 v0 27 ≠ 0 then if ob_in ((14 : Int32) + v3) (S.2.1 (D44.2.1 v0 27)) then if ob_in (v2 + v3) (S.2.1 (D44.2.1 v0 37)) then ob_lt (ob_pI D44 (D44.2.1 v0 37) (v2 + v3).toNatClampNeg ((D44.1 (D44.2.1 v0 27) ((14 : Int32) + v3).toNatClampNeg).toInt8.toInt32)) fun D53 => f_Model_actMemory_L13 S n v0 v2 (v3 + (1 : Int32)) D53 else none else none else none else none)
theorem v_Model_actMemory_L13 {l : Launch} {E : ob_E} {S : ob_S} {D' : ob_D} : ∀ (n : Nat), ∀ (v0 : Nat) (v2 : Int32) (v3 : Int32) (D : ob_D), S.1 v0 = 13 → f_Model_actMemory_L13 S n v0 v2 v3 D = some D' → ob_V l E k_Model_actMemory 13 [(0, .ref v0), (2, .int v2), (3, .int v3)] [] S D none S D' := by
  intro n
  induction n with
  | zero =>
    intro v0 v2 v3 D hp_v0 h
    have h : none = some D' := h
    cases h
  | succ n ih =>
    intro v0 v2 v3 D hp_v0 h
    rw [f_Model_actMemory_L13] at h
    refine ob_iload d_Model_actMemory_13 rfl ?_
    refine ob_aload d_Model_actMemory_14 rfl ?_
    refine ob_push d_Model_actMemory_15 ?_
    obtain ⟨x46, D44, h45, h⟩ := ob_bd_e h
    refine ob_callVi (As := [.int (2 : Int32)]) (rest := [.int v3]) d_Model_actMemory_16 c_Model_actMemory_302 hp_v0 rfl rfl (Nat.le_of_ble_eq_true rfl) (c_Model_data hp_v0 h45) ⟨Nat.le_refl _, Nat.le_refl _⟩ ⟨Nat.le_refl _, Nat.le_refl _⟩ ?_
    refine ob_icmp_ge d_Model_actMemory_19 (fun hc => ?_) (fun hc => ?_)
    · replace h := ob_ift hc h
      refine ob_goto d_Model_actMemory_45 ?_
      exact ob_ve h (ob_vret d_Model_actMemory_154 rfl)
    · replace h := ob_iff hc h
      refine ob_aload d_Model_actMemory_22 rfl ?_
      obtain ⟨hg48, h⟩ := ob_gd h
      refine ob_getR d_Model_actMemory_23 F_12_37 l_Model_52 hp_v0 hg48 (fun hk47 => ?_)
      refine ob_iload d_Model_actMemory_26 rfl ?_
      refine ob_iload d_Model_actMemory_27 rfl ?_
      refine ob_iadd d_Model_actMemory_28 ?_
      refine ob_aload d_Model_actMemory_29 rfl ?_
      obtain ⟨hg50, h⟩ := ob_gd h
      refine ob_getR d_Model_actMemory_30 F_12_27 l_Model_34 hp_v0 hg50 (fun hk49 => ?_)
      refine ob_push d_Model_actMemory_33 ?_
      refine ob_iload d_Model_actMemory_35 rfl ?_
      refine ob_iadd d_Model_actMemory_36 ?_
      obtain ⟨hg51, h⟩ := ob_gd h
      refine ob_bald d_Model_actMemory_37 hk49 hg51 ?_
      obtain ⟨hg52, h⟩ := ob_gd h
      replace h := ob_lt_e h
      refine ob_bast d_Model_actMemory_38 hk47 hg52 ?_
      refine ob_iinc (lo2 := [(0, .ref v0), (2, .int v2), (3, .int (v3 + (1 : Int32)))]) d_Model_actMemory_39 rfl rfl ?_
      refine ob_goto d_Model_actMemory_42 ?_
      exact ih v0 v2 (v3 + (1 : Int32)) (ob_pI D44 (D44.2.1 v0 37) (v2 + v3).toNatClampNeg ((D44.1 (D44.2.1 v0 27) ((14 : Int32) + v3).toNatClampNeg).toInt8.toInt32)) hp_v0 h
def f_Model_actMemory (S : ob_S) (v0 : Nat) (v1 : Int32) (D : ob_D) : Option (ob_D) :=
  ob_bd (f_Model_dataTwo S v0 (0 : Int32) D) fun x3 D1 => (if v1 = (2 : Int32) then f_Model_actMemory_L13 S ob_FU v0 x3 (0 : Int32) D1 else (if v1 = (5 : Int32) then ob_bv (f_Model_report S v0 (6 : Int32) (6 : Int32) D1) fun D25 => ob_bv (f_Model_sayTwo S v0 x3 D25) fun D27 => ob_bd (f_Model_data S v0 (2 : Int32) D27) fun x31 D29 => ob_bv (f_Model_say S v0 x31 D29) fun D32 => f_Model_actMemory_L77 S ob_FU v0 x3 (0 : Int32) D32 else ob_bv (f_Model_report S v0 (6 : Int32) (10 : Int32) D1) fun D4 => ob_bv (f_Model_sayTwo S v0 x3 D4) fun D6 => ob_bd (f_Model_dataTwo S v0 (2 : Int32) D6) fun x10 D8 => ob_bv (f_Model_sayTwo S v0 x10 D8) fun D11 => if D11.2.1 v0 37 ≠ 0 then ob_bd (f_Model_dataTwo S v0 (2 : Int32) D11) fun x17 D15 => ob_bd (f_Model_check S (D11.2.1 v0 37) x3 x17 D15) fun x20 D18 => ob_bv (f_Model_sayTwo S v0 x20 D18) fun D21 => ob_bv (f_Model_made S v0 D21) fun D23 => some D23 else none))
theorem c_Model_actMemory {l : Launch} {E : ob_E} {S : ob_S} {D : ob_D} {v0 : Nat} {v1 : Int32} {D' : ob_D} (hp_v0 : S.1 v0 = 13) (h : f_Model_actMemory S v0 v1 D = some D') : ob_M l E k_Model_actMemory [.ref v0, .int v1] S D none S D' := by
  refine ob_ofV (lo := [(0, .ref v0), (1, .int v1)]) (by decide) rfl (Nat.le_of_ble_eq_true rfl) rfl (Nat.le_refl _) (Nat.le_refl _) ?_
  rw [f_Model_actMemory] at h
  refine ob_aload d_Model_actMemory_0 rfl ?_
  refine ob_push d_Model_actMemory_1 ?_
  obtain ⟨x3, D1, h2, h⟩ := ob_bd_e h
  refine ob_callVi (As := [.int (0 : Int32)]) (rest := []) d_Model_actMemory_2 c_Model_actMemory_357 hp_v0 rfl rfl (Nat.le_of_ble_eq_true rfl) (c_Model_dataTwo hp_v0 h2) ⟨Nat.le_refl _, Nat.le_refl _⟩ ⟨Nat.le_refl _, Nat.le_refl _⟩ ?_
  refine ob_istore (lo2 := [(0, .ref v0), (1, .int v1), (2, .int x3)]) d_Model_actMemory_5 rfl ?_
  refine ob_iload d_Model_actMemory_6 rfl ?_
  refine ob_push d_Model_actMemory_7 ?_
  refine ob_icmp_ne d_Model_actMemory_8 (fun hc => ?_) (fun hc => ?_)
  · replace h := ob_iff hc h
    refine ob_iload d_Model_actMemory_48 rfl ?_
    refine ob_push d_Model_actMemory_49 ?_
    refine ob_icmp_ne d_Model_actMemory_50 (fun hc => ?_) (fun hc => ?_)
    · replace h := ob_iff hc h
      refine ob_aload d_Model_actMemory_111 rfl ?_
      refine ob_push d_Model_actMemory_112 ?_
      refine ob_push d_Model_actMemory_114 ?_
      obtain ⟨D4, h5, h⟩ := ob_bv_e h
      refine ob_callVv (As := [.int (6 : Int32), .int (10 : Int32)]) (rest := []) d_Model_actMemory_116 c_Model_actMemory_267 hp_v0 rfl rfl (Nat.le_of_ble_eq_true rfl) (c_Model_report hp_v0 h5) ⟨Nat.le_refl _, Nat.le_refl _⟩ ⟨Nat.le_refl _, Nat.le_refl _⟩ ?_
      refine ob_aload d_Model_actMemory_119 rfl ?_
      refine ob_iload d_Model_actMemory_120 rfl ?_
      obtain ⟨D6, h7, h⟩ := ob_bv_e h
      refine ob_callVv (As := [.int x3]) (rest := []) d_Model_actMemory_121 c_Model_actMemory_273 hp_v0 rfl rfl (Nat.le_of_ble_eq_true rfl) (c_Model_sayTwo hp_v0 h7) ⟨Nat.le_refl _, Nat.le_refl _⟩ ⟨Nat.le_refl _, Nat.le_refl _⟩ ?_
      refine ob_aload d_Model_actMemory_124 rfl ?_
      refine ob_aload d_Model_actMemory_125 rfl ?_
      refine ob_push d_Model_actMemory_126 ?_
      obtain ⟨x10, D8, h9, h⟩ := ob_bd_e h
      refine ob_callVi (As := [.int (2 : Int32)]) (rest := [.ref v0]) d_Model_actMemory_127 c_Model_actMemory_357 hp_v0 rfl rfl (Nat.le_of_ble_eq_true rfl) (c_Model_dataTwo hp_v0 h9) ⟨Nat.le_refl _, Nat.le_refl _⟩ ⟨Nat.le_refl _, Nat.le_refl _⟩ ?_
      obtain ⟨D11, h12, h⟩ := ob_bv_e h
      refine ob_callVv (As := [.int x10]) (rest := []) d_Model_actMemory_130 c_Model_actMemory_273 hp_v0 rfl rfl (Nat.le_of_ble_eq_true rfl) (c_Model_sayTwo hp_v0 h12) ⟨Nat.le_refl _, Nat.le_refl _⟩ ⟨Nat.le_refl _, Nat.le_refl _⟩ ?_
      refine ob_aload d_Model_actMemory_133 rfl ?_
      refine ob_aload d_Model_actMemory_134 rfl ?_
      obtain ⟨hg14, h⟩ := ob_gd h
      refine ob_getR d_Model_actMemory_135 F_12_37 l_Model_52 hp_v0 hg14 (fun hk13 => ?_)
      refine ob_iload d_Model_actMemory_138 rfl ?_
      refine ob_aload d_Model_actMemory_139 rfl ?_
      refine ob_push d_Model_actMemory_140 ?_
      obtain ⟨x17, D15, h16, h⟩ := ob_bd_e h
      refine ob_callVi (As := [.int (2 : Int32)]) (rest := [.int x3, .ref (D11.2.1 v0 37), .ref v0]) d_Model_actMemory_141 c_Model_actMemory_357 hp_v0 rfl rfl (Nat.le_of_ble_eq_true rfl) (c_Model_dataTwo hp_v0 h16) ⟨Nat.le_refl _, Nat.le_refl _⟩ ⟨Nat.le_refl _, Nat.le_refl _⟩ ?_
      obtain ⟨x20, D18, h19, h⟩ := ob_bd_e h
      refine ob_callSi (As := [.ref (D11.2.1 v0 37), .int x3, .int x17]) (rest := [.ref v0]) d_Model_actMemory_144 c_Model_actMemory_214 rfl rfl (Nat.le_of_ble_eq_true rfl) (c_Model_check hk13 h19) ⟨Nat.le_refl _, Nat.le_refl _⟩ ⟨Nat.le_refl _, Nat.le_refl _⟩ ?_
      obtain ⟨D21, h22, h⟩ := ob_bv_e h
      refine ob_callVv (As := [.int x20]) (rest := []) d_Model_actMemory_147 c_Model_actMemory_273 hp_v0 rfl rfl (Nat.le_of_ble_eq_true rfl) (c_Model_sayTwo hp_v0 h22) ⟨Nat.le_refl _, Nat.le_refl _⟩ ⟨Nat.le_refl _, Nat.le_refl _⟩ ?_
      refine ob_aload d_Model_actMemory_150 rfl ?_
      obtain ⟨D23, h24, h⟩ := ob_bv_e h
      refine ob_callVv (As := []) (rest := []) d_Model_actMemory_151 c_Model_actMemory_276 hp_v0 rfl rfl (Nat.le_of_ble_eq_true rfl) (c_Model_made hp_v0 h24) ⟨Nat.le_refl _, Nat.le_refl _⟩ ⟨Nat.le_refl _, Nat.le_refl _⟩ ?_
      exact ob_ve h (ob_vret d_Model_actMemory_154 rfl)
    · replace h := ob_ift hc h
      refine ob_aload d_Model_actMemory_53 rfl ?_
      refine ob_push d_Model_actMemory_54 ?_
      refine ob_push d_Model_actMemory_56 ?_
      obtain ⟨D25, h26, h⟩ := ob_bv_e h
      refine ob_callVv (As := [.int (6 : Int32), .int (6 : Int32)]) (rest := []) d_Model_actMemory_58 c_Model_actMemory_267 hp_v0 rfl rfl (Nat.le_of_ble_eq_true rfl) (c_Model_report hp_v0 h26) ⟨Nat.le_refl _, Nat.le_refl _⟩ ⟨Nat.le_refl _, Nat.le_refl _⟩ ?_
      refine ob_aload d_Model_actMemory_61 rfl ?_
      refine ob_iload d_Model_actMemory_62 rfl ?_
      obtain ⟨D27, h28, h⟩ := ob_bv_e h
      refine ob_callVv (As := [.int x3]) (rest := []) d_Model_actMemory_63 c_Model_actMemory_273 hp_v0 rfl rfl (Nat.le_of_ble_eq_true rfl) (c_Model_sayTwo hp_v0 h28) ⟨Nat.le_refl _, Nat.le_refl _⟩ ⟨Nat.le_refl _, Nat.le_refl _⟩ ?_
      refine ob_aload d_Model_actMemory_66 rfl ?_
      refine ob_aload d_Model_actMemory_67 rfl ?_
      refine ob_push d_Model_actMemory_68 ?_
      obtain ⟨x31, D29, h30, h⟩ := ob_bd_e h
      refine ob_callVi (As := [.int (2 : Int32)]) (rest := [.ref v0]) d_Model_actMemory_69 c_Model_actMemory_302 hp_v0 rfl rfl (Nat.le_of_ble_eq_true rfl) (c_Model_data hp_v0 h30) ⟨Nat.le_refl _, Nat.le_refl _⟩ ⟨Nat.le_refl _, Nat.le_refl _⟩ ?_
      obtain ⟨D32, h33, h⟩ := ob_bv_e h
      refine ob_callVv (As := [.int x31]) (rest := []) d_Model_actMemory_72 c_Model_actMemory_264 hp_v0 rfl rfl (Nat.le_of_ble_eq_true rfl) (c_Model_say hp_v0 h33) ⟨Nat.le_refl _, Nat.le_refl _⟩ ⟨Nat.le_refl _, Nat.le_refl _⟩ ?_
      refine ob_push d_Model_actMemory_75 ?_
      refine ob_istore (lo2 := [(0, .ref v0), (1, .int v1), (2, .int x3), (3, .int (0 : Int32))]) d_Model_actMemory_76 rfl ?_
      refine ob_sub (lo2 := [(0, .ref v0), (2, .int x3), (3, .int (0 : Int32))]) [0, 2, 3] rfl ?_
      exact v_Model_actMemory_L77 ob_FU v0 x3 (0 : Int32) D32 hp_v0 h
  · replace h := ob_ift hc h
    refine ob_push d_Model_actMemory_11 ?_
    refine ob_istore (lo2 := [(0, .ref v0), (1, .int v1), (2, .int x3), (3, .int (0 : Int32))]) d_Model_actMemory_12 rfl ?_
    refine ob_sub (lo2 := [(0, .ref v0), (2, .int x3), (3, .int (0 : Int32))]) [0, 2, 3] rfl ?_
    exact v_Model_actMemory_L13 ob_FU v0 x3 (0 : Int32) D1 hp_v0 h
-- OrbitBoxModel.raise(II)V
theorem d_Model_raise_4 : ob_dk k_Model_raise 4 6 (64 : Int32) (.bipush 64) 2 := ⟨by decide +kernel, rfl, show (Int8.ofInt 64).toInt32 = (64 : Int32) by decide +kernel⟩
theorem d_Model_raise_40 : ob_dk k_Model_raise 40 41 (1 : Int32) (.iconst 1) 1 := ⟨by decide +kernel, rfl, show Int32.ofInt 1 = (1 : Int32) by decide +kernel⟩
theorem d_Model_raise_47 : ob_dc k_Model_raise 47 (.return_) 1 48 := ⟨by decide +kernel, rfl⟩
theorem d_Model_raise_46 : ob_dc k_Model_raise 46 (.iastore) 1 47 := ⟨by decide +kernel, rfl⟩
theorem d_Model_raise_45 : ob_dv ob_lc k_Model_raise 45 46 2 (.iload_n 2) 1 := ⟨by decide +kernel, rfl, rfl⟩
theorem d_Model_raise_42 : ob_dc k_Model_raise 42 (.putfield 401) 3 45 := ⟨by decide +kernel, rfl⟩
theorem d_Model_raise_41 : ob_dc k_Model_raise 41 (.iadd) 1 42 := ⟨by decide +kernel, rfl⟩
theorem d_Model_raise_39 : ob_dc k_Model_raise 39 (.dup_x1) 1 40 := ⟨by decide +kernel, rfl⟩
theorem d_Model_raise_36 : ob_dc k_Model_raise 36 (.getfield 401) 3 39 := ⟨by decide +kernel, rfl⟩
theorem d_Model_raise_35 : ob_dc k_Model_raise 35 (.dup) 1 36 := ⟨by decide +kernel, rfl⟩
theorem d_Model_raise_34 : ob_dv ob_ac k_Model_raise 34 35 0 (.aload_n 0) 1 := ⟨by decide +kernel, rfl, rfl⟩
theorem d_Model_raise_31 : ob_dc k_Model_raise 31 (.getfield 118) 3 34 := ⟨by decide +kernel, rfl⟩
theorem d_Model_raise_30 : ob_dv ob_ac k_Model_raise 30 31 0 (.aload_n 0) 1 := ⟨by decide +kernel, rfl, rfl⟩
theorem d_Model_raise_29 : ob_dc k_Model_raise 29 (.iastore) 1 30 := ⟨by decide +kernel, rfl⟩
theorem d_Model_raise_28 : ob_dv ob_lc k_Model_raise 28 29 1 (.iload_n 1) 1 := ⟨by decide +kernel, rfl, rfl⟩
theorem d_Model_raise_25 : ob_dc k_Model_raise 25 (.getfield 401) 3 28 := ⟨by decide +kernel, rfl⟩
theorem d_Model_raise_24 : ob_dv ob_ac k_Model_raise 24 25 0 (.aload_n 0) 1 := ⟨by decide +kernel, rfl, rfl⟩
theorem d_Model_raise_21 : ob_dc k_Model_raise 21 (.getfield 115) 3 24 := ⟨by decide +kernel, rfl⟩
theorem d_Model_raise_20 : ob_dv ob_ac k_Model_raise 20 21 0 (.aload_n 0) 1 := ⟨by decide +kernel, rfl, rfl⟩
theorem d_Model_raise_14 : ob_dk k_Model_raise 14 15 (1 : Int32) (.iconst 1) 1 := ⟨by decide +kernel, rfl, show Int32.ofInt 1 = (1 : Int32) by decide +kernel⟩
theorem d_Model_raise_19 : ob_dc k_Model_raise 19 (.return_) 1 20 := ⟨by decide +kernel, rfl⟩
theorem d_Model_raise_16 : ob_dc k_Model_raise 16 (.putfield 404) 3 19 := ⟨by decide +kernel, rfl⟩
theorem d_Model_raise_15 : ob_dc k_Model_raise 15 (.iadd) 1 16 := ⟨by decide +kernel, rfl⟩
theorem d_Model_raise_11 : ob_dc k_Model_raise 11 (.getfield 404) 3 14 := ⟨by decide +kernel, rfl⟩
theorem d_Model_raise_10 : ob_dc k_Model_raise 10 (.dup) 1 11 := ⟨by decide +kernel, rfl⟩
theorem d_Model_raise_9 : ob_dv ob_ac k_Model_raise 9 10 0 (.aload_n 0) 1 := ⟨by decide +kernel, rfl, rfl⟩
theorem d_Model_raise_6 : ob_db k_Model_raise 6 (.if_icmp .ne 14) 14 9 20 := ⟨by decide +kernel, rfl, by decide⟩
theorem d_Model_raise_1 : ob_dc k_Model_raise 1 (.getfield 401) 3 4 := ⟨by decide +kernel, rfl⟩
theorem d_Model_raise_0 : ob_dv ob_ac k_Model_raise 0 1 0 (.aload_n 0) 1 := ⟨by decide +kernel, rfl, rfl⟩
def f_Model_raise (S : ob_S) (v0 : Nat) (v1 : Int32) (v2 : Int32) (D : ob_D) : Option (ob_D) :=
  (if (D.1 v0 67) = (64 : Int32) then ob_lt (ob_pI D v0 68 ((D.1 v0 68) + (1 : Int32))) fun D10 => some D10 else if D.2.1 v0 65 ≠ 0 then if ob_in (D.1 v0 67) (S.2.1 (D.2.1 v0 65)) then ob_lt (ob_pI D (D.2.1 v0 65) (D.1 v0 67).toNatClampNeg v1) fun D4 => if D4.2.1 v0 66 ≠ 0 then ob_lt (ob_pI D4 v0 67 ((D4.1 v0 67) + (1 : Int32))) fun D7 => if ob_in (D4.1 v0 67) (S.2.1 (D4.2.1 v0 66)) then ob_lt (ob_pI D7 (D4.2.1 v0 66) (D4.1 v0 67).toNatClampNeg v2) fun D9 => some D9 else none else none else none else none)
theorem c_Model_raise {l : Launch} {E : ob_E} {S : ob_S} {D : ob_D} {v0 : Nat} {v1 : Int32} {v2 : Int32} {D' : ob_D} (hp_v0 : S.1 v0 = 13) (h : f_Model_raise S v0 v1 v2 D = some D') : ob_M l E k_Model_raise [.ref v0, .int v1, .int v2] S D none S D' := by
  refine ob_ofV (lo := [(0, .ref v0), (1, .int v1), (2, .int v2)]) (by decide) rfl (Nat.le_of_ble_eq_true rfl) rfl (Nat.le_refl _) (Nat.le_refl _) ?_
  rw [f_Model_raise] at h
  refine ob_aload d_Model_raise_0 rfl ?_
  refine ob_getI d_Model_raise_1 F_12_67 l_Model_401 hp_v0 ?_
  refine ob_push d_Model_raise_4 ?_
  refine ob_icmp_ne d_Model_raise_6 (fun hc => ?_) (fun hc => ?_)
  · replace h := ob_iff hc h
    refine ob_aload d_Model_raise_20 rfl ?_
    obtain ⟨hg2, h⟩ := ob_gd h
    refine ob_getR d_Model_raise_21 F_12_65 l_Model_115 hp_v0 hg2 (fun hk1 => ?_)
    refine ob_aload d_Model_raise_24 rfl ?_
    refine ob_getI d_Model_raise_25 F_12_67 l_Model_401 hp_v0 ?_
    refine ob_iload d_Model_raise_28 rfl ?_
    obtain ⟨hg3, h⟩ := ob_gd h
    replace h := ob_lt_e h
    refine ob_iast d_Model_raise_29 hk1 hg3 ?_
    refine ob_aload d_Model_raise_30 rfl ?_
    obtain ⟨hg6, h⟩ := ob_gd h
    refine ob_getR d_Model_raise_31 F_12_66 l_Model_118 hp_v0 hg6 (fun hk5 => ?_)
    refine ob_aload d_Model_raise_34 rfl ?_
    refine ob_dup d_Model_raise_35 rfl ?_
    refine ob_getI d_Model_raise_36 F_12_67 l_Model_401 hp_v0 ?_
    refine ob_dup_x1 d_Model_raise_39 rfl rfl ?_
    refine ob_push d_Model_raise_40 ?_
    refine ob_iadd d_Model_raise_41 ?_
    replace h := ob_lt_e h
    refine ob_putI d_Model_raise_42 F_12_67 l_Model_401 hp_v0 ?_
    refine ob_iload d_Model_raise_45 rfl ?_
    obtain ⟨hg8, h⟩ := ob_gd h
    replace h := ob_lt_e h
    refine ob_iast d_Model_raise_46 hk5 hg8 ?_
    exact ob_ve h (ob_vret d_Model_raise_47 rfl)
  · replace h := ob_ift hc h
    refine ob_aload d_Model_raise_9 rfl ?_
    refine ob_dup d_Model_raise_10 rfl ?_
    refine ob_getI d_Model_raise_11 F_12_68 l_Model_404 hp_v0 ?_
    refine ob_push d_Model_raise_14 ?_
    refine ob_iadd d_Model_raise_15 ?_
    replace h := ob_lt_e h
    refine ob_putI d_Model_raise_16 F_12_68 l_Model_404 hp_v0 ?_
    exact ob_ve h (ob_vret d_Model_raise_19 rfl)
